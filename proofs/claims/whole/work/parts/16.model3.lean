def sh_X5_next (pd : Nat → Int32) (ln : Int32) (po : Int32) : Int32 := (kb (α := (Int32)) (if ln ≤ po then 0 else (pd po.toNatClampNeg)) (fun z_v3 => z_v3))
abbrev rm_X5_next : Room := { frames := 0, cells := 0, slots := 0, locals := 0 }
theorem hd_X5_next : hdT yX5_next 0 := by decide +kernel
set_option maxHeartbeats 40000000 in
set_option maxRecDepth 100000 in
theorem c_X5_next (l : Launch) (D : va_G) (cI cC cQ : ClassId) (sz : Nat) (h0 : Nat) (a : Nat → Nat) (sv : Nat → Int32) (pa : Nat → Int32) (pn : Int32) (sn : Nat → Int32) (kp : Int32) (pd : Nat → Int32) (ln : Int32) (so : Nat → Int32) (po : Int32) (wr : Int32) (lt : Int32) (fr : Int32) (sc : Int32) (tm : Int32) (hd : Int32) (st : Int32)  (hpo : poOK po ln) : Met l yX5_next (wsO yX5_next cX5_next 1 (some .int)) rm_X5_next (va_Pc [.ref h0] (inW D (TYS cI cC cQ) (MO cI h0 a sv pa pn sn kp pd ln so po wr lt fr sc tm hd st) sz)) (va_Qi (fun (r : Int32) (_ : Unit) => r = sh_X5_next pd ln po) (fun (u : Unit) => atW D (TYS cI cC cQ) (va_A (MO cI h0 a sv pa pn sn kp pd ln so po wr lt fr sc tm hd st) sz) (MO cI h0 a sv pa pn sn kp pd ln so po wr lt fr sc tm hd st)) (va_A (MO cI h0 a sv pa pn sn kp pd ln so po wr lt fr sc tm hd st) sz)) 0 0 (va_A (MO cI h0 a sv pa pn sn kp pd ln so po wr lt fr sc tm hd st) sz) := by
  refine k_meti .int rfl (by decide) (Nat.le_of_ble_eq_true rfl) ?_
  intro p e s m args below meth c A ls Q H locs hargs hret hx hb hts hown hml hname hN hA hS hP hK hD hl
  have hl : lv_has ls 1 [(0, .ref h0)] := hl
  obtain ⟨Xq, hX⟩ : ∃ Xq, Xq = sh_X5_next pd ln po := ⟨_, rfl⟩
  have hq : Xq = (kb (α := (Int32)) (if ln ≤ po then 0 else (pd po.toNatClampNeg)) (fun z_v3 => z_v3)) := hX
  refine lv_aload_n hx hb dX5_next_0 rfl (lv_at hl 0 rfl) ?_
  refine va_get (D := D) (ci := 5) (v := .int po) (C := RX5) (T := TX5) (N := 16) hx hb hts inA5 hown hK hP 0 rfl rfl 8 (by decide) (hts _ wd_fl_RX5_85) (fun _ h9 => h9) rfl dX5_next_1 ?_
  refine lv_aload_n hx hb dX5_next_4 rfl (lv_at hl 0 rfl) ?_
  refine va_get (D := D) (ci := 5) (v := .int ln) (C := RX5) (T := TX5) (N := 16) hx hb hts inA5 hown hK hP 0 rfl rfl 6 (by decide) (hts _ wd_fl_RX5_82) (fun _ h9 => h9) rfl dX5_next_5 ?_
  have K : ∀ (v3 : Int32) (H : Heap) (locs : List Loc) (ls : Array Slot), v3 = (if ln ≤ po then 0 else (pd po.toNatClampNeg)) → va_P D vwCl (MO cI h0 a sv pa pn sn kp pd ln so po wr lt fr sc tm hd st) H → va_D A (MO cI h0 a sv pa pn sn kp pd ln so po wr lt fr sc tm hd st) → va_S A s.heap H locs → lv_has ls 1 [(0, .ref h0)] → W p l e rm_X5_next s m args below meth c H locs 0 0 Q (F0 m 24 ls [.int v3]) := by
    intro v3 H locs ls hv2 hP hD hS hl
    have hq := kb_to hq hv2
    exact hret _ _ _ _ (v3) () dX5_next_24 rfl (hq.symm.trans hX) hP hD hS
  refine lv_icmp_ge (tgt := 23) hx hb dX5_next_8 (by decide) (fun c1 => ?_) (fun c1 => ?_)
  · skip
    refine lv_iconst (v := 0) hx hb dX5_next_23 (by decide) ?_
    exact K (0) _ _ _ (by rw [if_pos c1]) hP hD hS (lv_sub hl [0] rfl)
  · skip
    refine lv_aload_n hx hb dX5_next_11 rfl (lv_at hl 0 rfl) ?_
    refine va_get (D := D) (ci := 5) (v := .ref (a 3)) (C := RX5) (T := TX5) (N := 16) hx hb hts inA5 hown hK hP 0 rfl rfl 5 (by decide) (hts _ wd_fl_RX5_19) (fun _ h9 => h9) rfl dX5_next_12 ?_
    refine lv_aload_n hx hb dX5_next_15 rfl (lv_at hl 0 rfl) ?_
    refine va_get (D := D) (ci := 5) (v := .int po) (C := RX5) (T := TX5) (N := 16) hx hb hts inA5 hown hK hP 0 rfl rfl 8 (by decide) (hts _ wd_fl_RX5_85) (fun _ h9 => h9) rfl dX5_next_16 ?_
    refine va_iald hx hb hK hP 4 0 rfl rfl (po_in hpo c1) dX5_next_19 ?_
    refine lv_goto (tgt := 24) hx hb dX5_next_20 (by decide) ?_
    exact K ((pd po.toNatClampNeg)) _ _ _ (by rw [if_neg c1]) hP hD hS (lv_sub hl [0] rfl)
theorem next_in {pd : Nat → Int32} {ln po : Int32} (h : ¬ sh_X5_next pd ln po = 0) : ¬ ln ≤ po := fun c => h (by
  simp only [sh_X5_next, kb, if_pos c])
theorem in_lo {a lo hi : Int32} (h : ¬ sh_X5_in a lo hi = 0) : lo.toInt ≤ a.toInt := by
  unfold sh_X5_in at h
  split at h
  · exact absurd rfl h
  · rename_i c
    rw [Int32.lt_iff_toInt_lt] at c
    omega
/-- the place is in order, and not before the old one -/
def poS (po : Int32) (q ln : Int32) : Prop := poOK q ln ∧ po.toInt ≤ q.toInt
theorem poS.rfl' {po ln : Int32} (h : poOK po ln) : poS po po ln := ⟨h, Int.le_refl _⟩
theorem poS.trans {a b c ln : Int32} (h : poS a b ln) (g : poS b c ln) : poS a c ln := ⟨g.1, Int.le_trans h.2 g.2⟩
theorem poS_up {po ln : Int32} (h : poOK po ln) (c : ¬ ln ≤ po) : poS po (po + 1) ln := by
  refine ⟨po_up h c, ?_⟩
  have h1 := h.1
  rw [vp_in_iff] at h1
  have e : (po + 1).toInt = po.toInt + 1 := by
    rw [Int32.toInt_add]
    exact Int.bmod_eq_of_le (by simp; omega) (by simp; omega)
  omega
theorem poS_0 {po ln : Int32} (h : poOK po ln) : poS po (po + 0) ln := by
  rw [Int32.add_zero]; exact poS.rfl' h
theorem lit_ne {x k : Int32} (h : x = k) (hk : ¬ k = 0) : ¬ x = 0 := fun e => hk (by rw [← h, e])

theorem poSE0 {po q ln x : Int32} {f : Int32 × Int32} (h : poS po f.1 ln) (e : (q, x) = f) : poS po q ln := by
  have : q = f.1 := by rw [← e]
  rw [this]; exact h
theorem poSE1 {po r q ln x : Int32} {f : Int32 × Int32 × Int32} (h : poS po f.2.1 ln) (e : (r, q, x) = f) : poS po q ln := by
  have : q = f.2.1 := by rw [← e]
  rw [this]; exact h
theorem poSEd {α : Type} {po q ln : Int32} {x : α} {f : Int32 × α} (h : poS po f.1 ln) (e : (q, x) = f) : poS po q ln := by
  have : q = f.1 := by rw [← e]
  rw [this]; exact h
def sh_X5_sign (pd : Nat → Int32) (ln : Int32) (po : Int32) (wr : Int32) (x1 : Int32) : (Int32) × (Int32) := (kb (α := (Int32)) (if wr = 0 then (if (sh_X5_next pd ln po) = x1 then 0 else 1) else 1) (fun z_v7 => (kb (α := (Int32)) (if z_v7 = 0 then 1 else 0) (fun z_v10 => ((po + z_v10), z_v7)))))
abbrev rm_X5_sign : Room := { frames := 1, cells := 0, slots := 0, locals := 20 }
theorem hd_X5_sign : hdT yX5_sign 1 := by decide +kernel
set_option maxHeartbeats 40000000 in
set_option maxRecDepth 100000 in
theorem c_X5_sign (l : Launch) (D : va_G) (cI cC cQ : ClassId) (sz : Nat) (h0 : Nat) (a : Nat → Nat) (sv : Nat → Int32) (pa : Nat → Int32) (pn : Int32) (sn : Nat → Int32) (kp : Int32) (pd : Nat → Int32) (ln : Int32) (so : Nat → Int32) (po : Int32) (wr : Int32) (lt : Int32) (fr : Int32) (sc : Int32) (tm : Int32) (hd : Int32) (st : Int32) (x1 : Int32) (hpo : poOK po ln) : Met l yX5_sign (wsO yX5_sign cX5_sign 2 none) rm_X5_sign (va_Pc [.ref h0, .int x1] (inW D (TYS cI cC cQ) (MO cI h0 a sv pa pn sn kp pd ln so po wr lt fr sc tm hd st) sz)) (va_Qv (fun (u : (Int32) × (Int32)) => u = sh_X5_sign pd ln po wr x1) (fun (u : (Int32) × (Int32)) => atW D (TYS cI cC cQ) (va_A (MO cI h0 a sv pa pn sn kp pd ln so po wr lt fr sc tm hd st) sz) (MO cI h0 a sv pa pn sn kp pd ln so u.1 u.2 lt fr sc tm hd st)) (va_A (MO cI h0 a sv pa pn sn kp pd ln so po wr lt fr sc tm hd st) sz)) 0 0 (va_A (MO cI h0 a sv pa pn sn kp pd ln so po wr lt fr sc tm hd st) sz) := by
  refine k_metv rfl (by decide) (Nat.le_of_ble_eq_true rfl) ?_
  intro p e s m args below meth c A ls Q H locs hargs hret hx hb hts hown hml hname hN hA hS hP hK hD hl
  have hl : lv_has ls 2 [(0, .ref h0), (1, .int x1)] := hl
  obtain ⟨Xq, hX⟩ : ∃ Xq, Xq = sh_X5_sign pd ln po wr x1 := ⟨_, rfl⟩
  have hq : Xq = (kb (α := (Int32)) (if wr = 0 then (if (sh_X5_next pd ln po) = x1 then 0 else 1) else 1) (fun z_v7 => (kb (α := (Int32)) (if z_v7 = 0 then 1 else 0) (fun z_v10 => ((po + z_v10), z_v7))))) := hX
  refine lv_aload_n hx hb dX5_sign_0 rfl (lv_at hl 0 rfl) ?_
  refine lv_aload_n hx hb dX5_sign_1 rfl (lv_at hl 0 rfl) ?_
  refine va_get (D := D) (ci := 5) (v := .int wr) (C := RX5) (T := TX5) (N := 16) hx hb hts inA5 hown hK hP 0 rfl rfl 9 (by decide) (hts _ wd_fl_RX5_88) (fun _ h9 => h9) rfl dX5_sign_2 ?_
  have K : ∀ (v7 : Int32) (H : Heap) (locs : List Loc) (ls : Array Slot), v7 = (if wr = 0 then (if (sh_X5_next pd ln po) = x1 then 0 else 1) else 1) → va_P D vwCl (MO cI h0 a sv pa pn sn kp pd ln so po wr lt fr sc tm hd st) H → va_D A (MO cI h0 a sv pa pn sn kp pd ln so po wr lt fr sc tm hd st) → va_S A s.heap H locs → lv_has ls 2 [(0, .ref h0), (1, .int x1)] → W p l e rm_X5_sign s m args below meth c H locs 0 0 Q (F0 m 21 ls [.int v7, .ref h0]) := by
    intro v7 H locs ls hv6 hP hD hS hl
    have hq := kb_to hq hv6
    refine va_put (D := D) (ci := 5) (v := .int v7) (ty := .boolean) (C := RX5) (T := TX5) (N := 16) hx hb hts inA5 tyX5 tyX5_ok nmX5 hown hK hP hD hS 0 rfl rfl 9 (by decide) (hts _ wd_fl_RX5_88) (fun _ h9 => h9) rfl (by decide +kernel) (by rw [hv6]; (repeat' split) <;> rfl) (by rw [hv6]; (repeat' split) <;> rfl) (Nat.le_of_ble_eq_true rfl) dX5_sign_21 (fun H locs hP hD hS => ?_)
    have hP : va_P D vwCl (MO cI h0 a sv pa pn sn kp pd ln so po v7 lt fr sc tm hd st) H := hP
    have hD : va_D A (MO cI h0 a sv pa pn sn kp pd ln so po v7 lt fr sc tm hd st) := hD
    refine lv_aload_n hx hb dX5_sign_24 rfl (lv_at hl 0 rfl) ?_
    refine lv_dup hx hb dX5_sign_25 rfl ?_
    refine va_get (D := D) (ci := 5) (v := .int po) (C := RX5) (T := TX5) (N := 16) hx hb hts inA5 hown hK hP 0 rfl rfl 8 (by decide) (hts _ wd_fl_RX5_85) (fun _ h9 => h9) rfl dX5_sign_26 ?_
    refine lv_aload_n hx hb dX5_sign_29 rfl (lv_at hl 0 rfl) ?_
    refine va_get (D := D) (ci := 5) (v := .int v7) (C := RX5) (T := TX5) (N := 16) hx hb hts inA5 hown hK hP 0 rfl rfl 9 (by decide) (hts _ wd_fl_RX5_88) (fun _ h9 => h9) rfl dX5_sign_30 ?_
    have K : ∀ (v10 : Int32) (H : Heap) (locs : List Loc) (ls : Array Slot), v10 = (if v7 = 0 then 1 else 0) → va_P D vwCl (MO cI h0 a sv pa pn sn kp pd ln so po v7 lt fr sc tm hd st) H → va_D A (MO cI h0 a sv pa pn sn kp pd ln so po v7 lt fr sc tm hd st) → va_S A s.heap H locs → lv_has ls 2 [(0, .ref h0), (1, .int x1)] → W p l e rm_X5_sign s m args below meth c H locs 0 0 Q (F0 m 41 ls [.int v10, .int po, .ref h0]) := by
      intro v10 H locs ls hv9 hP hD hS hl
      have hq := kb_to hq hv9
      refine lv_iadd hx hb dX5_sign_41 ?_
      refine va_put (D := D) (ci := 5) (v := .int (po + v10)) (ty := .int) (C := RX5) (T := TX5) (N := 16) hx hb hts inA5 tyX5 tyX5_ok nmX5 hown hK hP hD hS 0 rfl rfl 8 (by decide) (hts _ wd_fl_RX5_85) (fun _ h9 => h9) rfl (by decide +kernel) rfl rfl (Nat.le_of_ble_eq_true rfl) dX5_sign_42 (fun H locs hP hD hS => ?_)
      have hP : va_P D vwCl (MO cI h0 a sv pa pn sn kp pd ln so (po + v10) v7 lt fr sc tm hd st) H := hP
      have hD : va_D A (MO cI h0 a sv pa pn sn kp pd ln so (po + v10) v7 lt fr sc tm hd st) := hD
      exact hret _ _ _ _ ((po + v10), v7) dX5_sign_45 (hq.symm.trans hX) hP hD hS
    refine lv_if_eq (tgt := 40) hx hb dX5_sign_33 (by decide) (fun c8 => ?_) (fun c8 => ?_)
    · skip
      refine lv_iconst (v := 1) hx hb dX5_sign_40 (by decide) ?_
      exact K (1) _ _ _ (by rw [if_pos c8]) hP hD hS (lv_sub hl [0, 1] rfl)
    · skip
      refine lv_iconst (v := 0) hx hb dX5_sign_36 (by decide) ?_
      refine lv_goto (tgt := 41) hx hb dX5_sign_37 (by decide) ?_
      exact K (0) _ _ _ (by rw [if_neg c8]) hP hD hS (lv_sub hl [0, 1] rfl)
  refine lv_if_ne (tgt := 16) hx hb dX5_sign_5 (by decide) (fun c1 => ?_) (fun c1 => ?_)
  · skip
    refine lv_iconst (v := 1) hx hb dX5_sign_16 (by decide) ?_
    refine lv_goto (tgt := 21) hx hb dX5_sign_17 (by decide) ?_
    exact K (1) _ _ _ (by rw [if_neg c1]) hP hD hS (lv_sub hl [0, 1] rfl)
  · skip
    refine lv_aload_n hx hb dX5_sign_8 rfl (lv_at hl 0 rfl) ?_
    have hPs := k_self hP
    have hDs := k_selfD hD
    refine k_behi (X := []) (Y := []) (va_runV (As := []) (rest := [.ref h0]) ⟨hx, hb, hml, hown, hts⟩ (c_X5_next l D cI cC cQ H.size h0 a sv pa pn sn kp pd ln so po wr lt fr sc tm hd st (hpo)) (kcwV hts wd_ml_RX5_92 wd_im_yX5_next wd_sel_yX5_next wd_ini_RX5 wd_code_yX5_next rfl rfl rfl hd_X5_next ⟨Nat.le_of_ble_eq_true rfl, Nat.le_of_ble_eq_true rfl⟩) ⟨in_blind, va_recv hK (pa_l (pa_r hPs)) (ci := 5) (q0 := 0) rfl rfl, k_pre hK (pa_l (pa_r hPs)) (da_l (da_r hDs)) hN⟩ rfl rfl hl.1 rfl (lv_room (Nat.le_of_ble_eq_true rfl)) dX5_sign_9 ⟨Nat.le_of_ble_eq_true rfl, Nat.le_of_ble_eq_true rfl⟩) hPs hDs hS hA (fun r2 u3 H locs hw4 hP hD hS => ?_)
    have hP := k_unP hP
    have hD := k_unD hD
    have hP : va_P D vwCl (MO cI h0 a sv pa pn sn kp pd ln so po wr lt fr sc tm hd st) H := hP
    have hD : va_D A (MO cI h0 a sv pa pn sn kp pd ln so po wr lt fr sc tm hd st) := hD
    have hw4 : r2 = (sh_X5_next pd ln po) := hw4
    subst hw4
    refine lv_iload_n hx hb dX5_sign_12 rfl (lv_at hl 1 rfl) ?_
    refine lv_icmp_eq (tgt := 20) hx hb dX5_sign_13 (by decide) (fun c5 => ?_) (fun c5 => ?_)
    · skip
      refine lv_iconst (v := 0) hx hb dX5_sign_20 (by decide) ?_
      exact K (0) _ _ _ (by rw [if_pos c1, if_pos c5]) hP hD hS (lv_sub hl [0, 1] rfl)
    · skip
      refine lv_iconst (v := 1) hx hb dX5_sign_16 (by decide) ?_
      refine lv_goto (tgt := 21) hx hb dX5_sign_17 (by decide) ?_
      exact K (1) _ _ _ (by rw [if_pos c1, if_neg c5]) hP hD hS (lv_sub hl [0, 1] rfl)
theorem sign_po {pd : Nat → Int32} {ln po wr x : Int32} (h : poOK po ln) (hx : ¬ x = 0) : poS po (sh_X5_sign pd ln po wr x).1 ln := by
  simp only [sh_X5_sign, kb]
  by_cases a : wr = 0
  · by_cases b : sh_X5_next pd ln po = x
    · simp only [if_pos a, if_pos b]
      exact poS_up h (next_in (lit_ne b hx))
    · simp only [if_pos a, if_neg b]
      exact poS_0 h
  · simp only [if_neg a]
    exact poS_0 h
def sh_X5_digit (pd : Nat → Int32) (ln : Int32) (po : Int32) (wr : Int32) (x1 : Int32) (x2 : Int32) : Int32 × (Int32) × (Int32) := (kb (α := (Int32)) (if wr = 0 then (if (sh_X5_in ((sh_X5_next pd ln po) - 48) x1 x2) = 0 then 1 else 0) else 1) (fun z_v10 => (kb (α := (Int32)) (if z_v10 = 0 then 1 else 0) (fun z_v13 => (((sh_X5_next pd ln po) - 48), (po + z_v13), z_v10)))))
abbrev rm_X5_digit : Room := { frames := 1, cells := 0, slots := 0, locals := 22 }
theorem hd_X5_digit : hdT yX5_digit 2 := by decide +kernel
set_option maxHeartbeats 40000000 in
set_option maxRecDepth 100000 in
theorem c_X5_digit (l : Launch) (D : va_G) (cI cC cQ : ClassId) (sz : Nat) (h0 : Nat) (a : Nat → Nat) (sv : Nat → Int32) (pa : Nat → Int32) (pn : Int32) (sn : Nat → Int32) (kp : Int32) (pd : Nat → Int32) (ln : Int32) (so : Nat → Int32) (po : Int32) (wr : Int32) (lt : Int32) (fr : Int32) (sc : Int32) (tm : Int32) (hd : Int32) (st : Int32) (x1 : Int32) (x2 : Int32) (hpo : poOK po ln) : Met l yX5_digit (wsO yX5_digit cX5_digit 4 (some .int)) rm_X5_digit (va_Pc [.ref h0, .int x1, .int x2] (inW D (TYS cI cC cQ) (MO cI h0 a sv pa pn sn kp pd ln so po wr lt fr sc tm hd st) sz)) (va_Qi (fun (r : Int32) (u : (Int32) × (Int32)) => (r, u) = sh_X5_digit pd ln po wr x1 x2) (fun (u : (Int32) × (Int32)) => atW D (TYS cI cC cQ) (va_A (MO cI h0 a sv pa pn sn kp pd ln so po wr lt fr sc tm hd st) sz) (MO cI h0 a sv pa pn sn kp pd ln so u.1 u.2 lt fr sc tm hd st)) (va_A (MO cI h0 a sv pa pn sn kp pd ln so po wr lt fr sc tm hd st) sz)) 0 0 (va_A (MO cI h0 a sv pa pn sn kp pd ln so po wr lt fr sc tm hd st) sz) := by
  refine k_meti .int rfl (by decide) (Nat.le_of_ble_eq_true rfl) ?_
  intro p e s m args below meth c A ls Q H locs hargs hret hx hb hts hown hml hname hN hA hS hP hK hD hl
  have hl : lv_has ls 4 [(0, .ref h0), (1, .int x1), (2, .int x2)] := hl
  obtain ⟨Xq, hX⟩ : ∃ Xq, Xq = sh_X5_digit pd ln po wr x1 x2 := ⟨_, rfl⟩
  have hq : Xq = (kb (α := (Int32)) (if wr = 0 then (if (sh_X5_in ((sh_X5_next pd ln po) - 48) x1 x2) = 0 then 1 else 0) else 1) (fun z_v10 => (kb (α := (Int32)) (if z_v10 = 0 then 1 else 0) (fun z_v13 => (((sh_X5_next pd ln po) - 48), (po + z_v13), z_v10))))) := hX
  refine lv_aload_n hx hb dX5_digit_0 rfl (lv_at hl 0 rfl) ?_
  have hPs := k_self hP
  have hDs := k_selfD hD
  refine k_behi (X := []) (Y := []) (va_runV (As := []) (rest := []) ⟨hx, hb, hml, hown, hts⟩ (c_X5_next l D cI cC cQ H.size h0 a sv pa pn sn kp pd ln so po wr lt fr sc tm hd st (hpo)) (kcwV hts wd_ml_RX5_92 wd_im_yX5_next wd_sel_yX5_next wd_ini_RX5 wd_code_yX5_next rfl rfl rfl hd_X5_next ⟨Nat.le_of_ble_eq_true rfl, Nat.le_of_ble_eq_true rfl⟩) ⟨in_blind, va_recv hK (pa_l (pa_r hPs)) (ci := 5) (q0 := 0) rfl rfl, k_pre hK (pa_l (pa_r hPs)) (da_l (da_r hDs)) hN⟩ rfl rfl hl.1 rfl (lv_room (Nat.le_of_ble_eq_true rfl)) dX5_digit_1 ⟨Nat.le_of_ble_eq_true rfl, Nat.le_of_ble_eq_true rfl⟩) hPs hDs hS hA (fun r1 u2 H locs hw3 hP hD hS => ?_)
  have hP := k_unP hP
  have hD := k_unD hD
  have hP : va_P D vwCl (MO cI h0 a sv pa pn sn kp pd ln so po wr lt fr sc tm hd st) H := hP
  have hD : va_D A (MO cI h0 a sv pa pn sn kp pd ln so po wr lt fr sc tm hd st) := hD
  have hw3 : r1 = (sh_X5_next pd ln po) := hw3
  subst hw3
  refine lv_bipush (v := 48) hx hb dX5_digit_4 (by decide) ?_
  refine lv_isub hx hb dX5_digit_6 ?_
  refine lv_istore_n (lv' := [(3, .int ((sh_X5_next pd ln po) - 48)), (0, .ref h0), (1, .int x1), (2, .int x2)]) hx hb dX5_digit_7 rfl hl (by decide) rfl (fun ls hl => ?_)
  refine lv_aload_n hx hb dX5_digit_8 rfl (lv_at hl 1 rfl) ?_
  refine lv_aload_n hx hb dX5_digit_9 rfl (lv_at hl 1 rfl) ?_
  refine va_get (D := D) (ci := 5) (v := .int wr) (C := RX5) (T := TX5) (N := 16) hx hb hts inA5 hown hK hP 0 rfl rfl 9 (by decide) (hts _ wd_fl_RX5_88) (fun _ h9 => h9) rfl dX5_digit_10 ?_
  have K : ∀ (v10 : Int32) (H : Heap) (locs : List Loc) (ls : Array Slot), v10 = (if wr = 0 then (if (sh_X5_in ((sh_X5_next pd ln po) - 48) x1 x2) = 0 then 1 else 0) else 1) → va_P D vwCl (MO cI h0 a sv pa pn sn kp pd ln so po wr lt fr sc tm hd st) H → va_D A (MO cI h0 a sv pa pn sn kp pd ln so po wr lt fr sc tm hd st) → va_S A s.heap H locs → lv_has ls 4 [(0, .ref h0), (1, .int x1), (2, .int x2), (3, .int ((sh_X5_next pd ln po) - 48))] → W p l e rm_X5_digit s m args below meth c H locs 0 0 Q (F0 m 30 ls [.int v10, .ref h0]) := by
    intro v10 H locs ls hv9 hP hD hS hl
    have hq := kb_to hq hv9
    refine va_put (D := D) (ci := 5) (v := .int v10) (ty := .boolean) (C := RX5) (T := TX5) (N := 16) hx hb hts inA5 tyX5 tyX5_ok nmX5 hown hK hP hD hS 0 rfl rfl 9 (by decide) (hts _ wd_fl_RX5_88) (fun _ h9 => h9) rfl (by decide +kernel) (by rw [hv9]; (repeat' split) <;> rfl) (by rw [hv9]; (repeat' split) <;> rfl) (Nat.le_of_ble_eq_true rfl) dX5_digit_30 (fun H locs hP hD hS => ?_)
    have hP : va_P D vwCl (MO cI h0 a sv pa pn sn kp pd ln so po v10 lt fr sc tm hd st) H := hP
    have hD : va_D A (MO cI h0 a sv pa pn sn kp pd ln so po v10 lt fr sc tm hd st) := hD
    refine lv_aload_n hx hb dX5_digit_33 rfl (lv_at hl 0 rfl) ?_
    refine lv_dup hx hb dX5_digit_34 rfl ?_
    refine va_get (D := D) (ci := 5) (v := .int po) (C := RX5) (T := TX5) (N := 16) hx hb hts inA5 hown hK hP 0 rfl rfl 8 (by decide) (hts _ wd_fl_RX5_85) (fun _ h9 => h9) rfl dX5_digit_35 ?_
    refine lv_aload_n hx hb dX5_digit_38 rfl (lv_at hl 0 rfl) ?_
    refine va_get (D := D) (ci := 5) (v := .int v10) (C := RX5) (T := TX5) (N := 16) hx hb hts inA5 hown hK hP 0 rfl rfl 9 (by decide) (hts _ wd_fl_RX5_88) (fun _ h9 => h9) rfl dX5_digit_39 ?_
    have K : ∀ (v13 : Int32) (H : Heap) (locs : List Loc) (ls : Array Slot), v13 = (if v10 = 0 then 1 else 0) → va_P D vwCl (MO cI h0 a sv pa pn sn kp pd ln so po v10 lt fr sc tm hd st) H → va_D A (MO cI h0 a sv pa pn sn kp pd ln so po v10 lt fr sc tm hd st) → va_S A s.heap H locs → lv_has ls 4 [(0, .ref h0), (1, .int x1), (2, .int x2), (3, .int ((sh_X5_next pd ln po) - 48))] → W p l e rm_X5_digit s m args below meth c H locs 0 0 Q (F0 m 50 ls [.int v13, .int po, .ref h0]) := by
      intro v13 H locs ls hv12 hP hD hS hl
      have hq := kb_to hq hv12
      refine lv_iadd hx hb dX5_digit_50 ?_
      refine va_put (D := D) (ci := 5) (v := .int (po + v13)) (ty := .int) (C := RX5) (T := TX5) (N := 16) hx hb hts inA5 tyX5 tyX5_ok nmX5 hown hK hP hD hS 0 rfl rfl 8 (by decide) (hts _ wd_fl_RX5_85) (fun _ h9 => h9) rfl (by decide +kernel) rfl rfl (Nat.le_of_ble_eq_true rfl) dX5_digit_51 (fun H locs hP hD hS => ?_)
      have hP : va_P D vwCl (MO cI h0 a sv pa pn sn kp pd ln so (po + v13) v10 lt fr sc tm hd st) H := hP
      have hD : va_D A (MO cI h0 a sv pa pn sn kp pd ln so (po + v13) v10 lt fr sc tm hd st) := hD
      refine lv_iload_n hx hb dX5_digit_54 rfl (lv_at hl 3 rfl) ?_
      exact hret _ _ _ _ (((sh_X5_next pd ln po) - 48)) ((po + v13), v10) dX5_digit_55 rfl (hq.symm.trans hX) hP hD hS
    refine lv_if_eq (tgt := 49) hx hb dX5_digit_42 (by decide) (fun c11 => ?_) (fun c11 => ?_)
    · skip
      refine lv_iconst (v := 1) hx hb dX5_digit_49 (by decide) ?_
      exact K (1) _ _ _ (by rw [if_pos c11]) hP hD hS (lv_sub hl [0, 1, 2, 3] rfl)
    · skip
      refine lv_iconst (v := 0) hx hb dX5_digit_45 (by decide) ?_
      refine lv_goto (tgt := 50) hx hb dX5_digit_46 (by decide) ?_
      exact K (0) _ _ _ (by rw [if_neg c11]) hP hD hS (lv_sub hl [0, 1, 2, 3] rfl)
  refine lv_if_ne (tgt := 25) hx hb dX5_digit_13 (by decide) (fun c4 => ?_) (fun c4 => ?_)
  · skip
    refine lv_iconst (v := 1) hx hb dX5_digit_25 (by decide) ?_
    refine lv_goto (tgt := 30) hx hb dX5_digit_26 (by decide) ?_
    exact K (1) _ _ _ (by rw [if_neg c4]) hP hD hS (lv_sub hl [1, 2, 3, 0] rfl)
  · skip
    refine lv_iload_n hx hb dX5_digit_16 rfl (lv_at hl 0 rfl) ?_
    refine lv_iload_n hx hb dX5_digit_17 rfl (lv_at hl 2 rfl) ?_
    refine lv_iload_n hx hb dX5_digit_18 rfl (lv_at hl 3 rfl) ?_
    have hPs : va_P D vwCl ([] ++ ([] ++ (MO cI h0 a sv pa pn sn kp pd ln so po wr lt fr sc tm hd st))) H := hP
    have hDs : va_D A ([] ++ ([] ++ (MO cI h0 a sv pa pn sn kp pd ln so po wr lt fr sc tm hd st))) := hD
    refine k_behi (X := []) (Y := (MO cI h0 a sv pa pn sn kp pd ln so po wr lt fr sc tm hd st)) (va_runS (As := [.int ((sh_X5_next pd ln po) - 48), .int x1, .int x2]) (rest := [.ref h0]) ⟨hx, hb, hml, hown, hts⟩ (c_X5_in l D cI cC cQ H.size ((sh_X5_next pd ln po) - 48) x1 x2) (kcwS hts wd_ml_RX5_25 wd_st_yX5_in wd_ini_RX5 wd_code_yX5_in rfl rfl hd_X5_in ⟨Nat.le_of_ble_eq_true rfl, Nat.le_of_ble_eq_true rfl⟩) ⟨in_blind, k_pre hK (pa_l (pa_r hPs)) (da_l (da_r hDs)) hN⟩ rfl rfl hl.1 rfl (lv_room (Nat.le_of_ble_eq_true rfl)) dX5_digit_19 ⟨Nat.le_of_ble_eq_true rfl, Nat.le_of_ble_eq_true rfl⟩) hPs hDs hS hA (fun r5 u6 H locs hw7 hP hD hS => ?_)
    have hP : va_P D vwCl (MO cI h0 a sv pa pn sn kp pd ln so po wr lt fr sc tm hd st) H := hP
    have hD : va_D A (MO cI h0 a sv pa pn sn kp pd ln so po wr lt fr sc tm hd st) := hD
    have hw7 : r5 = (sh_X5_in ((sh_X5_next pd ln po) - 48) x1 x2) := hw7
    subst hw7
    refine lv_if_ne (tgt := 29) hx hb dX5_digit_22 (by decide) (fun c8 => ?_) (fun c8 => ?_)
    · skip
      refine lv_iconst (v := 0) hx hb dX5_digit_29 (by decide) ?_
      exact K (0) _ _ _ (by rw [if_pos c4, if_neg c8]) hP hD hS (lv_sub hl [1, 2, 3, 0] rfl)
    · skip
      refine lv_iconst (v := 1) hx hb dX5_digit_25 (by decide) ?_
      refine lv_goto (tgt := 30) hx hb dX5_digit_26 (by decide) ?_
      exact K (1) _ _ _ (by rw [if_pos c4, if_pos c8]) hP hD hS (lv_sub hl [1, 2, 3, 0] rfl)
theorem digit_po {pd : Nat → Int32} {ln po wr lo hi : Int32} (h : poOK po ln) (hx : 0 ≤ lo.toInt) : poS po (sh_X5_digit pd ln po wr lo hi).2.1 ln := by
  simp only [sh_X5_digit, kb]
  by_cases a : wr = 0
  · by_cases b : sh_X5_in (sh_X5_next pd ln po - 48) lo hi = 0
    · simp only [if_pos a, if_pos b]
      exact poS_0 h
    · simp only [if_pos a, if_neg b]
      refine poS_up h (next_in (pd := pd) (fun e => ?_))
      have := in_lo b
      rw [e] at this
      have h2 : ((0 : Int32) - 48).toInt = -48 := by decide
      omega
  · simp only [if_neg a]
    exact poS_0 h
theorem numb_po {pd : Nat → Int32} {ln po v v3 : Int32} {P : Prop} [Decidable P] (h : poOK po ln) (hv : v = if sh_X5_in (sh_X5_next pd ln po) 48 57 = 0 then 0 else (if P then 0 else 1)) (hv3 : v3 = if v = 0 then 0 else 1) : poS po (po + v3) ln := by
  by_cases b : sh_X5_in (sh_X5_next pd ln po) 48 57 = 0
  · rw [if_pos b] at hv
    rw [if_pos hv] at hv3
    rw [hv3]; exact poS_0 h
  · by_cases c : v = 0
    · rw [if_pos c] at hv3
      rw [hv3]; exact poS_0 h
    · rw [if_neg c] at hv3
      rw [hv3]
      refine poS_up h (next_in (pd := pd) (fun e => ?_))
      have := in_lo b
      rw [e] at this
      exact absurd this (by decide)
theorem numb_mu {pd : Nat → Int32} {ln po v v3 g : Int32} {n : Nat} {P : Prop} [Decidable P] (h : poOK po ln) (hmu : (ln.toInt - po.toInt).toNat + (if g = 0 then 0 else 1) < n + 1) (hg : ¬ g = 0) (hv : v = if sh_X5_in (sh_X5_next pd ln po) 48 57 = 0 then 0 else (if P then 0 else 1)) (hv3 : v3 = if v = 0 then 0 else 1) : (ln.toInt - (po + v3).toInt).toNat + (if v = 0 then 0 else 1) < n := by
  rw [if_neg hg] at hmu
  by_cases c : v = 0
  · rw [if_pos c] at hv3 ⊢
    rw [hv3, Int32.add_zero]; omega
  · have b : ¬ sh_X5_in (sh_X5_next pd ln po) 48 57 = 0 := fun b => by
      rw [if_pos b] at hv; exact c hv
    rw [if_neg c] at hv3 ⊢
    rw [hv3]
    have q : ¬ ln ≤ po := next_in (pd := pd) (fun e => by
      have := in_lo b
      rw [e] at this
      exact absurd this (by decide))
    have := k_mu (x := ln) (v := po) (n := (ln.toInt - po.toInt).toNat) (by omega) q
    omega

def lp_X5_number_22 (v5 : Int32) (pd : Nat → Int32) (ln : Int32) (x1 : Int32) (x2 : Int32) : Nat → (Int32) → (Int32) → (Int32) → (Int32 × (Int32) × (Int32))
  | 0, _, _, _ => default
  | fu + 1, n3, m4, l_po => (if m4 = 0 then (kb (α := (Int32)) (if v5 = 0 then (if x1 ≤ n3 then 0 else 1) else 1) (fun z_v35 => (n3, l_po, z_v35))) else (kb (α := (Int32)) (if (sh_X5_in (sh_X5_next pd ln l_po) 48 57) = 0 then 0 else (if x2 < (((10 * n3) + (sh_X5_next pd ln l_po)) - 48) then 0 else 1)) (fun z_v48 => (kb (α := (Int32)) (if z_v48 = 0 then n3 else (((10 * n3) + (sh_X5_next pd ln l_po)) - 48)) (fun z_v54 => (kb (α := (Int32)) (if z_v48 = 0 then 0 else 1) (fun z_v57 => (lp_X5_number_22 v5 pd ln x1 x2 fu z_v54 z_v48 (l_po + z_v57)))))))))
def sh_X5_number (pd : Nat → Int32) (ln : Int32) (po : Int32) (wr : Int32) (x1 : Int32) (x2 : Int32) : Int32 × (Int32) × (Int32) := (kb (sh_X5_digit pd ln po wr 1 9) (fun z_r1 => (kb (α := (Int32)) (if z_r1.2.2 = 0 then 1 else 0) (fun z_v8 => (lp_X5_number_22 z_r1.2.2 pd ln x1 x2 (((ln.toInt - (z_r1.2.1 : Int32).toInt).toNat + (if (z_v8 : Int32) = 0 then 0 else 1)) + 1) z_r1.1 z_v8 z_r1.2.1)))))
abbrev rm_X5_number : Room := { frames := 2, cells := 0, slots := 0, locals := 45 }
theorem hd_X5_number : hdT yX5_number 2 := by decide +kernel
set_option maxHeartbeats 40000000 in
set_option maxRecDepth 100000 in
theorem c_X5_number (l : Launch) (D : va_G) (cI cC cQ : ClassId) (sz : Nat) (h0 : Nat) (a : Nat → Nat) (sv : Nat → Int32) (pa : Nat → Int32) (pn : Int32) (sn : Nat → Int32) (kp : Int32) (pd : Nat → Int32) (ln : Int32) (so : Nat → Int32) (po : Int32) (wr : Int32) (lt : Int32) (fr : Int32) (sc : Int32) (tm : Int32) (hd : Int32) (st : Int32) (x1 : Int32) (x2 : Int32) (hpo : poOK po ln) : Met l yX5_number (wsO yX5_number cX5_number 5 (some .int)) rm_X5_number (va_Pc [.ref h0, .int x1, .int x2] (inW D (TYS cI cC cQ) (MO cI h0 a sv pa pn sn kp pd ln so po wr lt fr sc tm hd st) sz)) (va_Qi (fun (r : Int32) (u : (Int32) × (Int32)) => (r, u) = sh_X5_number pd ln po wr x1 x2) (fun (u : (Int32) × (Int32)) => atW D (TYS cI cC cQ) (va_A (MO cI h0 a sv pa pn sn kp pd ln so po wr lt fr sc tm hd st) sz) (MO cI h0 a sv pa pn sn kp pd ln so u.1 u.2 lt fr sc tm hd st)) (va_A (MO cI h0 a sv pa pn sn kp pd ln so po wr lt fr sc tm hd st) sz)) 0 0 (va_A (MO cI h0 a sv pa pn sn kp pd ln so po wr lt fr sc tm hd st) sz) := by
  refine k_meti .int rfl (by decide) (Nat.le_of_ble_eq_true rfl) ?_
  intro p e s m args below meth c A ls Q H locs hargs hret hx hb hts hown hml hname hN hA hS hP hK hD hl
  have hl : lv_has ls 5 [(0, .ref h0), (1, .int x1), (2, .int x2)] := hl
  obtain ⟨Xq, hX⟩ : ∃ Xq, Xq = sh_X5_number pd ln po wr x1 x2 := ⟨_, rfl⟩
  have hq : Xq = (kb (sh_X5_digit pd ln po wr 1 9) (fun z_r1 => (kb (α := (Int32)) (if z_r1.2.2 = 0 then 1 else 0) (fun z_v8 => (lp_X5_number_22 z_r1.2.2 pd ln x1 x2 (((ln.toInt - (z_r1.2.1 : Int32).toInt).toNat + (if (z_v8 : Int32) = 0 then 0 else 1)) + 1) z_r1.1 z_v8 z_r1.2.1))))) := hX
  refine lv_aload_n hx hb dX5_number_0 rfl (lv_at hl 0 rfl) ?_
  refine lv_iconst (v := 1) hx hb dX5_number_1 (by decide) ?_
  refine lv_bipush (v := 9) hx hb dX5_number_2 (by decide) ?_
  have hPs := k_self hP
  have hDs := k_selfD hD
  refine k_behi (X := []) (Y := []) (va_runV (As := [.int 1, .int 9]) (rest := []) ⟨hx, hb, hml, hown, hts⟩ (c_X5_digit l D cI cC cQ H.size h0 a sv pa pn sn kp pd ln so po wr lt fr sc tm hd st 1 9 (hpo)) (kcwV hts wd_ml_RX5_96 wd_im_yX5_digit wd_sel_yX5_digit wd_ini_RX5 wd_code_yX5_digit rfl rfl rfl hd_X5_digit ⟨Nat.le_of_ble_eq_true rfl, Nat.le_of_ble_eq_true rfl⟩) ⟨in_blind, va_recv hK (pa_l (pa_r hPs)) (ci := 5) (q0 := 0) rfl rfl, k_pre hK (pa_l (pa_r hPs)) (da_l (da_r hDs)) hN⟩ rfl rfl hl.1 rfl (lv_room (Nat.le_of_ble_eq_true rfl)) dX5_number_4 ⟨Nat.le_of_ble_eq_true rfl, Nat.le_of_ble_eq_true rfl⟩) hPs hDs hS hA (fun r1 u2 H locs hw3 hP hD hS => ?_)
  obtain ⟨v4, v5⟩ := u2
  have hP := k_unP hP
  have hD := k_unD hD
  have hP : va_P D vwCl (MO cI h0 a sv pa pn sn kp pd ln so v4 v5 lt fr sc tm hd st) H := hP
  have hD : va_D A (MO cI h0 a sv pa pn sn kp pd ln so v4 v5 lt fr sc tm hd st) := hD
  have hw3 : (r1, v4, v5) = (sh_X5_digit pd ln po wr 1 9) := hw3
  have hq := kb_to hq hw3
  refine lv_istore_n (lv' := [(3, .int r1), (0, .ref h0), (1, .int x1), (2, .int x2)]) hx hb dX5_number_7 rfl hl (by decide) rfl (fun ls hl => ?_)
  refine lv_aload_n hx hb dX5_number_8 rfl (lv_at hl 1 rfl) ?_
  refine va_get (D := D) (ci := 5) (v := .int v5) (C := RX5) (T := TX5) (N := 16) hx hb hts inA5 hown hK hP 0 rfl rfl 9 (by decide) (hts _ wd_fl_RX5_88) (fun _ h9 => h9) rfl dX5_number_9 ?_
  have K : ∀ (v8 : Int32) (H : Heap) (locs : List Loc) (ls : Array Slot), v8 = (if v5 = 0 then 1 else 0) → va_P D vwCl (MO cI h0 a sv pa pn sn kp pd ln so v4 v5 lt fr sc tm hd st) H → va_D A (MO cI h0 a sv pa pn sn kp pd ln so v4 v5 lt fr sc tm hd st) → va_S A s.heap H locs → lv_has ls 5 [(0, .ref h0), (1, .int x1), (2, .int x2), (3, .int r1)] → W p l e rm_X5_number s m args below meth c H locs 0 0 Q (F0 m 20 ls [.int v8]) := by
    intro v8 H locs ls hv7 hP hD hS hl
    have hq := kb_to hq hv7
    refine lv_istore (lv' := [(4, .int v8), (0, .ref h0), (1, .int x1), (2, .int x2), (3, .int r1)]) hx hb dX5_number_20 hl (by decide) rfl (fun ls hl => ?_)
    have L22 : ∀ (fu : Nat) (n3 : Int32) (m4 : Int32) (l_po : Int32) (H : Heap) (locs : List Loc) (ls : Array Slot), ((ln.toInt - (l_po : Int32).toInt).toNat + (if (m4 : Int32) = 0 then 0 else 1)) < fu → (poOK l_po ln) → Xq = lp_X5_number_22 v5 pd ln x1 x2 fu n3 m4 l_po → va_P D vwCl (MO cI h0 a sv pa pn sn kp pd ln so l_po v5 lt fr sc tm hd st) H → va_D A (MO cI h0 a sv pa pn sn kp pd ln so l_po v5 lt fr sc tm hd st) → va_S A s.heap H locs → lv_has ls 5 [(4, .int m4), (0, .ref h0), (1, .int x1), (2, .int x2), (3, .int n3)] → W p l e rm_X5_number s m args below meth c H locs 0 0 Q (F0 m 22 ls []) := by
      intro fu
      induction fu with
      | zero => intro n3 m4 l_po H locs ls hmu; exact absurd hmu (Nat.not_lt_zero _)
      | succ fu ih =>
        intro n3 m4 l_po H locs ls hmu hpo1 hq hP hD hS hl
        have hq : Xq = (if m4 = 0 then (kb (α := (Int32)) (if v5 = 0 then (if x1 ≤ n3 then 0 else 1) else 1) (fun z_v35 => (n3, l_po, z_v35))) else (kb (α := (Int32)) (if (sh_X5_in (sh_X5_next pd ln l_po) 48 57) = 0 then 0 else (if x2 < (((10 * n3) + (sh_X5_next pd ln l_po)) - 48) then 0 else 1)) (fun z_v48 => (kb (α := (Int32)) (if z_v48 = 0 then n3 else (((10 * n3) + (sh_X5_next pd ln l_po)) - 48)) (fun z_v54 => (kb (α := (Int32)) (if z_v48 = 0 then 0 else 1) (fun z_v57 => (lp_X5_number_22 v5 pd ln x1 x2 fu z_v54 z_v48 (l_po + z_v57))))))))) := hq
        refine lv_iload hx hb dX5_number_22 (lv_at hl 0 rfl) ?_
        refine lv_if_eq (tgt := 108) hx hb dX5_number_24 (by decide) (fun c9 => ?_) (fun c9 => ?_)
        · have hq := it_pos hq c9
          refine lv_aload_n hx hb dX5_number_108 rfl (lv_at hl 1 rfl) ?_
          refine lv_aload_n hx hb dX5_number_109 rfl (lv_at hl 1 rfl) ?_
          refine va_get (D := D) (ci := 5) (v := .int v5) (C := RX5) (T := TX5) (N := 16) hx hb hts inA5 hown hK hP 0 rfl rfl 9 (by decide) (hts _ wd_fl_RX5_88) (fun _ h9 => h9) rfl dX5_number_110 ?_
          have K : ∀ (v35 : Int32) (H : Heap) (locs : List Loc) (ls : Array Slot), v35 = (if v5 = 0 then (if x1 ≤ n3 then 0 else 1) else 1) → va_P D vwCl (MO cI h0 a sv pa pn sn kp pd ln so l_po v5 lt fr sc tm hd st) H → va_D A (MO cI h0 a sv pa pn sn kp pd ln so l_po v5 lt fr sc tm hd st) → va_S A s.heap H locs → lv_has ls 5 [(0, .ref h0), (1, .int x1), (2, .int x2), (3, .int n3), (4, .int m4)] → W p l e rm_X5_number s m args below meth c H locs 0 0 Q (F0 m 126 ls [.int v35, .ref h0]) := by
            intro v35 H locs ls hv34 hP hD hS hl
            have hq := kb_to hq hv34
            refine va_put (D := D) (ci := 5) (v := .int v35) (ty := .boolean) (C := RX5) (T := TX5) (N := 16) hx hb hts inA5 tyX5 tyX5_ok nmX5 hown hK hP hD hS 0 rfl rfl 9 (by decide) (hts _ wd_fl_RX5_88) (fun _ h9 => h9) rfl (by decide +kernel) (by rw [hv34]; (repeat' split) <;> rfl) (by rw [hv34]; (repeat' split) <;> rfl) (Nat.le_of_ble_eq_true rfl) dX5_number_126 (fun H locs hP hD hS => ?_)
            have hP : va_P D vwCl (MO cI h0 a sv pa pn sn kp pd ln so l_po v35 lt fr sc tm hd st) H := hP
            have hD : va_D A (MO cI h0 a sv pa pn sn kp pd ln so l_po v35 lt fr sc tm hd st) := hD
            refine lv_iload_n hx hb dX5_number_129 rfl (lv_at hl 3 rfl) ?_
            exact hret _ _ _ _ (n3) (l_po, v35) dX5_number_130 rfl (hq.symm.trans hX) hP hD hS
          refine lv_if_ne (tgt := 121) hx hb dX5_number_113 (by decide) (fun c32 => ?_) (fun c32 => ?_)
          · skip
            refine lv_iconst (v := 1) hx hb dX5_number_121 (by decide) ?_
            refine lv_goto (tgt := 126) hx hb dX5_number_122 (by decide) ?_
            exact K (1) _ _ _ (by rw [if_neg c32]) hP hD hS (lv_sub hl [1, 2, 3, 4, 0] rfl)
          · skip
            refine lv_iload_n hx hb dX5_number_116 rfl (lv_at hl 4 rfl) ?_
            refine lv_iload_n hx hb dX5_number_117 rfl (lv_at hl 2 rfl) ?_
            refine lv_icmp_ge (tgt := 125) hx hb dX5_number_118 (by decide) (fun c33 => ?_) (fun c33 => ?_)
            · skip
              refine lv_iconst (v := 0) hx hb dX5_number_125 (by decide) ?_
              exact K (0) _ _ _ (by rw [if_pos c32, if_pos c33]) hP hD hS (lv_sub hl [1, 2, 3, 4, 0] rfl)
            · skip
              refine lv_iconst (v := 1) hx hb dX5_number_121 (by decide) ?_
              refine lv_goto (tgt := 126) hx hb dX5_number_122 (by decide) ?_
              exact K (1) _ _ _ (by rw [if_pos c32, if_neg c33]) hP hD hS (lv_sub hl [1, 2, 3, 4, 0] rfl)
        · have hq := it_neg hq c9
          refine lv_aload_n hx hb dX5_number_27 rfl (lv_at hl 1 rfl) ?_
          have hPs := k_self hP
          have hDs := k_selfD hD
          refine k_behi (X := []) (Y := []) (va_runV (As := []) (rest := []) ⟨hx, hb, hml, hown, hts⟩ (c_X5_next l D cI cC cQ H.size h0 a sv pa pn sn kp pd ln so l_po v5 lt fr sc tm hd st (hpo1)) (kcwV hts wd_ml_RX5_92 wd_im_yX5_next wd_sel_yX5_next wd_ini_RX5 wd_code_yX5_next rfl rfl rfl hd_X5_next ⟨Nat.le_of_ble_eq_true rfl, Nat.le_of_ble_eq_true rfl⟩) ⟨in_blind, va_recv hK (pa_l (pa_r hPs)) (ci := 5) (q0 := 0) rfl rfl, k_pre hK (pa_l (pa_r hPs)) (da_l (da_r hDs)) hN⟩ rfl rfl hl.1 rfl (lv_room (Nat.le_of_ble_eq_true rfl)) dX5_number_28 ⟨Nat.le_of_ble_eq_true rfl, Nat.le_of_ble_eq_true rfl⟩) hPs hDs hS hA (fun r36 u37 H locs hw38 hP hD hS => ?_)
          have hP := k_unP hP
          have hD := k_unD hD
          have hP : va_P D vwCl (MO cI h0 a sv pa pn sn kp pd ln so l_po v5 lt fr sc tm hd st) H := hP
          have hD : va_D A (MO cI h0 a sv pa pn sn kp pd ln so l_po v5 lt fr sc tm hd st) := hD
          have hw38 : r36 = (sh_X5_next pd ln l_po) := hw38
          subst hw38
          refine lv_bipush (v := 48) hx hb dX5_number_31 (by decide) ?_
          refine lv_bipush (v := 57) hx hb dX5_number_33 (by decide) ?_
          have hPs : va_P D vwCl ([] ++ ([] ++ (MO cI h0 a sv pa pn sn kp pd ln so l_po v5 lt fr sc tm hd st))) H := hP
          have hDs : va_D A ([] ++ ([] ++ (MO cI h0 a sv pa pn sn kp pd ln so l_po v5 lt fr sc tm hd st))) := hD
          refine k_behi (X := []) (Y := (MO cI h0 a sv pa pn sn kp pd ln so l_po v5 lt fr sc tm hd st)) (va_runS (As := [.int (sh_X5_next pd ln l_po), .int 48, .int 57]) (rest := []) ⟨hx, hb, hml, hown, hts⟩ (c_X5_in l D cI cC cQ H.size (sh_X5_next pd ln l_po) 48 57) (kcwS hts wd_ml_RX5_25 wd_st_yX5_in wd_ini_RX5 wd_code_yX5_in rfl rfl hd_X5_in ⟨Nat.le_of_ble_eq_true rfl, Nat.le_of_ble_eq_true rfl⟩) ⟨in_blind, k_pre hK (pa_l (pa_r hPs)) (da_l (da_r hDs)) hN⟩ rfl rfl hl.1 rfl (lv_room (Nat.le_of_ble_eq_true rfl)) dX5_number_35 ⟨Nat.le_of_ble_eq_true rfl, Nat.le_of_ble_eq_true rfl⟩) hPs hDs hS hA (fun r39 u40 H locs hw41 hP hD hS => ?_)
          have hP : va_P D vwCl (MO cI h0 a sv pa pn sn kp pd ln so l_po v5 lt fr sc tm hd st) H := hP
          have hD : va_D A (MO cI h0 a sv pa pn sn kp pd ln so l_po v5 lt fr sc tm hd st) := hD
          have hw41 : r39 = (sh_X5_in (sh_X5_next pd ln l_po) 48 57) := hw41
          subst hw41
          have K : ∀ (v48 : Int32) (H : Heap) (locs : List Loc) (ls : Array Slot), v48 = (if (sh_X5_in (sh_X5_next pd ln l_po) 48 57) = 0 then 0 else (if x2 < (((10 * n3) + (sh_X5_next pd ln l_po)) - 48) then 0 else 1)) → va_P D vwCl (MO cI h0 a sv pa pn sn kp pd ln so l_po v5 lt fr sc tm hd st) H → va_D A (MO cI h0 a sv pa pn sn kp pd ln so l_po v5 lt fr sc tm hd st) → va_S A s.heap H locs → lv_has ls 5 [(0, .ref h0), (1, .int x1), (2, .int x2), (3, .int n3), (4, .int m4)] → W p l e rm_X5_number s m args below meth c H locs 0 0 Q (F0 m 62 ls [.int v48]) := by
            intro v48 H locs ls hv47 hP hD hS hl
            have hq := kb_to hq hv47
            refine lv_istore (lv' := [(4, .int v48), (0, .ref h0), (1, .int x1), (2, .int x2), (3, .int n3)]) hx hb dX5_number_62 hl (by decide) rfl (fun ls hl => ?_)
            refine lv_iload hx hb dX5_number_64 (lv_at hl 0 rfl) ?_
            have K : ∀ (v54 : Int32) (H : Heap) (locs : List Loc) (ls : Array Slot), v54 = (if v48 = 0 then n3 else (((10 * n3) + (sh_X5_next pd ln l_po)) - 48)) → va_P D vwCl (MO cI h0 a sv pa pn sn kp pd ln so l_po v5 lt fr sc tm hd st) H → va_D A (MO cI h0 a sv pa pn sn kp pd ln so l_po v5 lt fr sc tm hd st) → va_S A s.heap H locs → lv_has ls 5 [(0, .ref h0), (1, .int x1), (2, .int x2), (3, .int n3), (4, .int v48)] → W p l e rm_X5_number s m args below meth c H locs 0 0 Q (F0 m 85 ls [.int v54]) := by
              intro v54 H locs ls hv53 hP hD hS hl
              have hq := kb_to hq hv53
              refine lv_istore_n (lv' := [(3, .int v54), (0, .ref h0), (1, .int x1), (2, .int x2), (4, .int v48)]) hx hb dX5_number_85 rfl hl (by decide) rfl (fun ls hl => ?_)
              refine lv_aload_n hx hb dX5_number_86 rfl (lv_at hl 1 rfl) ?_
              refine lv_dup hx hb dX5_number_87 rfl ?_
              refine va_get (D := D) (ci := 5) (v := .int l_po) (C := RX5) (T := TX5) (N := 16) hx hb hts inA5 hown hK hP 0 rfl rfl 8 (by decide) (hts _ wd_fl_RX5_85) (fun _ h9 => h9) rfl dX5_number_88 ?_
              refine lv_iload hx hb dX5_number_91 (lv_at hl 4 rfl) ?_
              have K : ∀ (v57 : Int32) (H : Heap) (locs : List Loc) (ls : Array Slot), v57 = (if v48 = 0 then 0 else 1) → va_P D vwCl (MO cI h0 a sv pa pn sn kp pd ln so l_po v5 lt fr sc tm hd st) H → va_D A (MO cI h0 a sv pa pn sn kp pd ln so l_po v5 lt fr sc tm hd st) → va_S A s.heap H locs → lv_has ls 5 [(0, .ref h0), (1, .int x1), (2, .int x2), (3, .int v54), (4, .int v48)] → W p l e rm_X5_number s m args below meth c H locs 0 0 Q (F0 m 101 ls [.int v57, .int l_po, .ref h0]) := by
                intro v57 H locs ls hv56 hP hD hS hl
                have hq := kb_to hq hv56
                refine lv_iadd hx hb dX5_number_101 ?_
                refine va_put (D := D) (ci := 5) (v := .int (l_po + v57)) (ty := .int) (C := RX5) (T := TX5) (N := 16) hx hb hts inA5 tyX5 tyX5_ok nmX5 hown hK hP hD hS 0 rfl rfl 8 (by decide) (hts _ wd_fl_RX5_85) (fun _ h9 => h9) rfl (by decide +kernel) rfl rfl (Nat.le_of_ble_eq_true rfl) dX5_number_102 (fun H locs hP hD hS => ?_)
                have hP : va_P D vwCl (MO cI h0 a sv pa pn sn kp pd ln so (l_po + v57) v5 lt fr sc tm hd st) H := hP
                have hD : va_D A (MO cI h0 a sv pa pn sn kp pd ln so (l_po + v57) v5 lt fr sc tm hd st) := hD
                refine lv_goto (tgt := 22) hx hb dX5_number_105 (by decide) ?_
                exact ih (v54) (v48) ((l_po + v57)) _ _ _ (numb_mu hpo1 hmu c9 hv47 hv56) ((numb_po hpo1 hv47 hv56).1) hq hP hD hS (lv_sub hl [4, 0, 1, 2, 3] rfl)
              refine lv_if_eq (tgt := 100) hx hb dX5_number_93 (by decide) (fun c55 => ?_) (fun c55 => ?_)
              · skip
                refine lv_iconst (v := 0) hx hb dX5_number_100 (by decide) ?_
                exact K (0) _ _ _ (by rw [if_pos c55]) hP hD hS (lv_sub hl [1, 2, 3, 0, 4] rfl)
              · skip
                refine lv_iconst (v := 1) hx hb dX5_number_96 (by decide) ?_
                refine lv_goto (tgt := 101) hx hb dX5_number_97 (by decide) ?_
                exact K (1) _ _ _ (by rw [if_neg c55]) hP hD hS (lv_sub hl [1, 2, 3, 0, 4] rfl)
            refine lv_if_eq (tgt := 84) hx hb dX5_number_66 (by decide) (fun c49 => ?_) (fun c49 => ?_)
            · skip
              refine lv_iload_n hx hb dX5_number_84 rfl (lv_at hl 4 rfl) ?_
              exact K (n3) _ _ _ (by rw [if_pos c49]) hP hD hS (lv_sub hl [1, 2, 3, 4, 0] rfl)
            · skip
              refine lv_bipush (v := 10) hx hb dX5_number_69 (by decide) ?_
              refine lv_iload_n hx hb dX5_number_71 rfl (lv_at hl 4 rfl) ?_
              refine lv_imul hx hb dX5_number_72 ?_
              refine lv_aload_n hx hb dX5_number_73 rfl (lv_at hl 1 rfl) ?_
              have hPs := k_self hP
              have hDs := k_selfD hD
              refine k_behi (X := []) (Y := []) (va_runV (As := []) (rest := [.int (10 * n3)]) ⟨hx, hb, hml, hown, hts⟩ (c_X5_next l D cI cC cQ H.size h0 a sv pa pn sn kp pd ln so l_po v5 lt fr sc tm hd st (hpo1)) (kcwV hts wd_ml_RX5_92 wd_im_yX5_next wd_sel_yX5_next wd_ini_RX5 wd_code_yX5_next rfl rfl rfl hd_X5_next ⟨Nat.le_of_ble_eq_true rfl, Nat.le_of_ble_eq_true rfl⟩) ⟨in_blind, va_recv hK (pa_l (pa_r hPs)) (ci := 5) (q0 := 0) rfl rfl, k_pre hK (pa_l (pa_r hPs)) (da_l (da_r hDs)) hN⟩ rfl rfl hl.1 rfl (lv_room (Nat.le_of_ble_eq_true rfl)) dX5_number_74 ⟨Nat.le_of_ble_eq_true rfl, Nat.le_of_ble_eq_true rfl⟩) hPs hDs hS hA (fun r50 u51 H locs hw52 hP hD hS => ?_)
              have hP := k_unP hP
              have hD := k_unD hD
              have hP : va_P D vwCl (MO cI h0 a sv pa pn sn kp pd ln so l_po v5 lt fr sc tm hd st) H := hP
              have hD : va_D A (MO cI h0 a sv pa pn sn kp pd ln so l_po v5 lt fr sc tm hd st) := hD
              have hw52 : r50 = (sh_X5_next pd ln l_po) := hw52
              subst hw52
              refine lv_iadd hx hb dX5_number_77 ?_
              refine lv_bipush (v := 48) hx hb dX5_number_78 (by decide) ?_
              refine lv_isub hx hb dX5_number_80 ?_
              refine lv_goto (tgt := 85) hx hb dX5_number_81 (by decide) ?_
              exact K ((((10 * n3) + (sh_X5_next pd ln l_po)) - 48)) _ _ _ (by rw [if_neg c49]) hP hD hS (lv_sub hl [1, 2, 3, 4, 0] rfl)
          refine lv_if_eq (tgt := 61) hx hb dX5_number_38 (by decide) (fun c42 => ?_) (fun c42 => ?_)
          · skip
            refine lv_iconst (v := 0) hx hb dX5_number_61 (by decide) ?_
            exact K (0) _ _ _ (by rw [if_pos c42]) hP hD hS (lv_sub hl [1, 2, 3, 4, 0] rfl)
          · skip
            refine lv_bipush (v := 10) hx hb dX5_number_41 (by decide) ?_
            refine lv_iload_n hx hb dX5_number_43 rfl (lv_at hl 4 rfl) ?_
            refine lv_imul hx hb dX5_number_44 ?_
            refine lv_aload_n hx hb dX5_number_45 rfl (lv_at hl 1 rfl) ?_
            have hPs := k_self hP
            have hDs := k_selfD hD
            refine k_behi (X := []) (Y := []) (va_runV (As := []) (rest := [.int (10 * n3)]) ⟨hx, hb, hml, hown, hts⟩ (c_X5_next l D cI cC cQ H.size h0 a sv pa pn sn kp pd ln so l_po v5 lt fr sc tm hd st (hpo1)) (kcwV hts wd_ml_RX5_92 wd_im_yX5_next wd_sel_yX5_next wd_ini_RX5 wd_code_yX5_next rfl rfl rfl hd_X5_next ⟨Nat.le_of_ble_eq_true rfl, Nat.le_of_ble_eq_true rfl⟩) ⟨in_blind, va_recv hK (pa_l (pa_r hPs)) (ci := 5) (q0 := 0) rfl rfl, k_pre hK (pa_l (pa_r hPs)) (da_l (da_r hDs)) hN⟩ rfl rfl hl.1 rfl (lv_room (Nat.le_of_ble_eq_true rfl)) dX5_number_46 ⟨Nat.le_of_ble_eq_true rfl, Nat.le_of_ble_eq_true rfl⟩) hPs hDs hS hA (fun r43 u44 H locs hw45 hP hD hS => ?_)
            have hP := k_unP hP
            have hD := k_unD hD
            have hP : va_P D vwCl (MO cI h0 a sv pa pn sn kp pd ln so l_po v5 lt fr sc tm hd st) H := hP
            have hD : va_D A (MO cI h0 a sv pa pn sn kp pd ln so l_po v5 lt fr sc tm hd st) := hD
            have hw45 : r43 = (sh_X5_next pd ln l_po) := hw45
            subst hw45
            refine lv_iadd hx hb dX5_number_49 ?_
            refine lv_bipush (v := 48) hx hb dX5_number_50 (by decide) ?_
            refine lv_isub hx hb dX5_number_52 ?_
            refine lv_iload_n hx hb dX5_number_53 rfl (lv_at hl 3 rfl) ?_
            refine lv_icmp_gt (tgt := 61) hx hb dX5_number_54 (by decide) (fun c46 => ?_) (fun c46 => ?_)
            · skip
              refine lv_iconst (v := 0) hx hb dX5_number_61 (by decide) ?_
              exact K (0) _ _ _ (by rw [if_neg c42, if_pos c46]) hP hD hS (lv_sub hl [1, 2, 3, 4, 0] rfl)
            · skip
              refine lv_iconst (v := 1) hx hb dX5_number_57 (by decide) ?_
              refine lv_goto (tgt := 62) hx hb dX5_number_58 (by decide) ?_
              exact K (1) _ _ _ (by rw [if_neg c42, if_neg c46]) hP hD hS (lv_sub hl [1, 2, 3, 4, 0] rfl)
    exact L22 (((ln.toInt - (v4 : Int32).toInt).toNat + (if (v8 : Int32) = 0 then 0 else 1)) + 1) (r1) (v8) (v4) _ _ _ (Nat.lt_succ_self _) ((poSE1 (digit_po hpo (by decide)) hw3).1) hq hP hD hS (lv_sub hl [0, 1, 2, 3, 4] rfl)
  refine lv_if_ne (tgt := 19) hx hb dX5_number_12 (by decide) (fun c6 => ?_) (fun c6 => ?_)
  · skip
    refine lv_iconst (v := 0) hx hb dX5_number_19 (by decide) ?_
    exact K (0) _ _ _ (by rw [if_neg c6]) hP hD hS (lv_sub hl [1, 2, 3, 0] rfl)
  · skip
    refine lv_iconst (v := 1) hx hb dX5_number_15 (by decide) ?_
    refine lv_goto (tgt := 20) hx hb dX5_number_16 (by decide) ?_
    exact K (1) _ _ _ (by rw [if_pos c6]) hP hD hS (lv_sub hl [1, 2, 3, 0] rfl)
theorem lpNumb_po {pd : Nat → Int32} {ln wr x1 x2 : Int32} : ∀ (fu : Nat) (n g q : Int32), (ln.toInt - q.toInt).toNat + (if g = 0 then 0 else 1) < fu → poOK q ln → poS q (lp_X5_number_22 wr pd ln x1 x2 fu n g q).2.1 ln := by
  intro fu
  induction fu with
  | zero => intro n g q h; exact absurd h (Nat.not_lt_zero _)
  | succ fu ih =>
    intro n g q hmu hq
    unfold lp_X5_number_22
    by_cases a : g = 0
    · simp only [if_pos a, kb]
      exact poS.rfl' hq
    · simp only [if_neg a, kb]
      have s1 := numb_po (pd := pd) (P := x2 < 10 * n + sh_X5_next pd ln q - 48) hq rfl rfl
      exact s1.trans (ih _ _ _ (numb_mu (pd := pd) (P := x2 < 10 * n + sh_X5_next pd ln q - 48) hq hmu a rfl rfl) s1.1)
theorem number_po {pd : Nat → Int32} {ln po wr x1 x2 : Int32} (h : poOK po ln) : poS po (sh_X5_number pd ln po wr x1 x2).2.1 ln := by
  simp only [sh_X5_number, kb]
  have s1 := digit_po (pd := pd) (wr := wr) (lo := 1) (hi := 9) h (by decide)
  exact s1.trans (lpNumb_po _ _ _ _ (Nat.lt_succ_self _) s1.1)
