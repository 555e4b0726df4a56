theorem isub_to {x y : Int32} (h0 : -1000000000 ≤ x.toInt - y.toInt) (h1 : x.toInt - y.toInt ≤ 1000000000) : (x - y).toInt = x.toInt - y.toInt := by
  rw [Int32.toInt_sub]
  exact Int.bmod_eq_of_le (by omega) (by omega)
theorem iadd_to {x y : Int32} (h0 : -1000000000 ≤ x.toInt + y.toInt) (h1 : x.toInt + y.toInt ≤ 1000000000) : (x + y).toInt = x.toInt + y.toInt := by
  rw [Int32.toInt_add]
  exact Int.bmod_eq_of_le (by omega) (by omega)
theorem ige_of {x : Int32} (h : 0 ≤ x.toInt) : ∃ n : Nat, n < 2 ^ 31 ∧ x = nI n := by
  refine nI_of (fun c => ?_)
  rw [Int32.lt_iff_toInt_lt] at c
  have : (0 : Int32).toInt = 0 := rfl
  omega
theorem idiv_bd {x y : Int32} (h : 0 ≤ x.toInt) (hy : 0 < y.toInt) : 0 ≤ (x / y).toInt ∧ (x / y).toInt ≤ x.toInt := by
  obtain ⟨n, hn, rfl⟩ := ige_of h
  obtain ⟨d, hd, rfl⟩ := ige_of (x := y) (by omega)
  rw [nI_toInt hd] at hy
  rw [pk_div hn (by omega) hd, nI_toInt hn, nI_toInt (Nat.lt_of_le_of_lt (Nat.div_le_self _ _) hn)]
  have := Nat.div_le_self n d
  generalize n / d = t at this ⊢
  omega
section IVU
variable {sv : Nat → Int32}
theorem iv_other (h : iv sv) {i : Nat} {v : Int32} (h0 : 18 ≤ i) (h1 : i ≤ 30) : iv (upd sv i v) := by
  obtain ⟨a, b, c, d, e1, e2, e3, e4⟩ := h
  refine ⟨fun k hk => ?_, fun k hk => ?_, fun k hk => ?_, ?_, ?_, ?_, ?_, ?_⟩
  · rw [pk_un (by omega)]; exact a k hk
  · rw [pk_un (by omega), pk_un (by omega), pk_un (by omega)]; exact b k hk
  · rw [pk_un (by omega)]; exact c k hk
  · rw [pk_un (by omega), pk_un (by omega)]; exact d
  · rw [pk_un (by omega)]; exact e1
  · rw [pk_un (by omega)]; exact e2
  · rw [pk_un (by omega)]; exact e3
  · rw [pk_un (by omega)]; exact e4
/-- hand and settled of one cup -/
theorem iv_cups (h : iv sv) {i : Nat} {v w : Int32} (hi : i < 4) (h0 : 0 ≤ v.toInt) (h1 : 0 ≤ w.toInt) (h2 : v.toInt + w.toInt ≤ 6000) {f : Nat → Int32} (e1 : f (4 + i) = v) (e2 : f (8 + i) = w) (e3 : ∀ j, j ≠ 4 + i → j ≠ 8 + i → f j = sv j) : iv f := by
  obtain ⟨a, b, c, d, g1, g2, g3, g4⟩ := h
  refine ⟨fun k hk => ?_, fun k hk => ?_, fun k hk => ?_, ?_, ?_, ?_, ?_, ?_⟩
  · rw [e3 _ (by omega) (by omega)]; exact a k hk
  · by_cases q : k = i
    · subst q
      rw [e1, e2, e3 (12 + k) (by omega) (by omega)]
      have := b k hk
      omega
    · rw [e3 (4 + k) (by omega) (by omega), e3 (8 + k) (by omega) (by omega), e3 (12 + k) (by omega) (by omega)]; exact b k hk
  · rw [e3 _ (by omega) (by omega)]; exact c k hk
  · rw [e3 _ (by omega) (by omega), e3 _ (by omega) (by omega)]; exact d
  · rw [e3 _ (by omega) (by omega)]; exact g1
  · rw [e3 _ (by omega) (by omega)]; exact g2
  · rw [e3 _ (by omega) (by omega)]; exact g3
  · rw [e3 _ (by omega) (by omega)]; exact g4
theorem iv_hd (h : iv sv) {i : Nat} {v : Int32} (hi : i < 4) (h0 : 0 ≤ v.toInt) (h2 : v.toInt ≤ (sv (4 + i)).toInt) : iv (upd sv (4 + i) v) := by
  have b := h.2.1 i hi
  refine iv_cups h (v := v) (w := sv (8 + i)) hi h0 b.2.1 (by omega) pk_us (pk_un (by omega)) (fun j h1 h2 => pk_un h1)
theorem iv_chip (h : iv sv) {i : Nat} {v : Int32} (hi : i < 4) (h0 : 0 ≤ v.toInt) (h2 : v.toInt ≤ 4000) : iv (upd sv (12 + i) v) := by
  obtain ⟨a, b, c, d, g1, g2, g3, g4⟩ := h
  refine ⟨fun k hk => ?_, fun k hk => ?_, fun k hk => ?_, ?_, ?_, ?_, ?_, ?_⟩
  · rw [pk_un (by omega)]; exact a k hk
  · by_cases q : k = i
    · subst q
      rw [pk_us, pk_un (by omega), pk_un (by omega)]
      have := b k hk
      omega
    · rw [pk_un (by omega), pk_un (by omega), pk_un (by omega)]; exact b k hk
  · rw [pk_un (by omega)]; exact c k hk
  · rw [pk_un (by omega), pk_un (by omega)]; exact d
  · rw [pk_un (by omega)]; exact g1
  · rw [pk_un (by omega)]; exact g2
  · rw [pk_un (by omega)]; exact g3
  · rw [pk_un (by omega)]; exact g4
theorem iv_none (h : iv sv) {i : Nat} (hi : i < 2) : iv (upd sv (16 + i) (-1)) := by
  obtain ⟨a, b, c, d, g1, g2, g3, g4⟩ := h
  refine ⟨fun k hk => ?_, fun k hk => ?_, fun k hk => ?_, ?_, ?_, ?_, ?_, ?_⟩
  · rw [pk_un (by omega)]; exact a k hk
  · rw [pk_un (by omega), pk_un (by omega), pk_un (by omega)]; exact b k hk
  · by_cases q : k = i
    · subst q
      rw [pk_us]; decide
    · rw [pk_un (by omega)]; exact c k hk
  · rcases (show i = 0 ∨ i = 1 by omega) with rfl | rfl
    · exact Or.inl pk_us
    · rw [pk_un (j := 16) (by decide), pk_us (k := 17)]
      by_cases q : sv 16 = -1
      · exact Or.inl q
      · exact Or.inr q
  · rw [pk_un (by omega)]; exact g1
  · rw [pk_un (by omega)]; exact g2
  · rw [pk_un (by omega)]; exact g3
  · rw [pk_un (by omega)]; exact g4
end IVU
theorem iv_takes {sv : Nat → Int32} {q : Int32} (h : iv sv) (hq : vp_in q 2) : iv (sh_X5_takes sv q).2 := by
  simp only [sh_X5_takes, kb]
  split
  · exact h
  · rename_i c
    have hc := iv_cup h hq c
    have e2 := k_ix (k := 16) hq (by decide) (by decide)
    have l2 := (k_cl hq).1
    simp only [show (16 : Int32).toInt.toNat = 16 from rfl] at e2
    dsimp only
    rw [e2] at hc ⊢
    have e1 := k_ix (k := 4) hc (by decide) (by decide)
    have l1 := (k_cl hc).1
    have b := h.2.1 _ l1
    simp only [show (4 : Int32).toInt.toNat = 4 from rfl] at e1
    rw [e1, show (29 : Int32).toNatClampNeg = 29 from rfl]
    have d := idiv_bd (y := 50) b.1 (by decide)
    refine iv_none (iv_other (iv_hd h l1 ?_ ?_) (by decide) (by decide)) l2
    · rw [isub_to (by omega) (by omega)]; omega
    · rw [isub_to (by omega) (by omega)]; omega
theorem whereIn {sv : Nat → Int32} {x : Int32} (c : ¬ sh_X5_where sv x = -1) : vp_in (sh_X5_where sv x) 2 := by
  unfold sh_X5_where at *
  split
  · exact k_in (by decide)
  · rename_i h1
    rw [if_neg h1] at c
    split
    · exact k_in (by decide)
    · rename_i h2
      rw [if_neg h2] at c
      exact absurd rfl c
theorem snd_iv {r : Int32} {g : Nat → Int32} {f : Int32 × (Nat → Int32)} (h : iv f.2) (e : (r, g) = f) : iv g := by
  have : g = f.2 := by rw [← e]
  rw [this]; exact h

def sh_X5_moves (sv : Nat → Int32) (x1 : Int32) (x2 : Int32) : Int32 × (Nat → Int32) := (if (sh_X5_where sv x1) = x2 then ((0 : Int32), sv) else (if (sh_X5_where sv x1) = (-1) then (kb (sh_X5_takes sv x2) (fun z_r16 => (kb (α := Nat → Int32) (upd z_r16.2 (16 + x2).toNatClampNeg x1) (fun z_f20 => ((0 + z_r16.1), z_f20))))) else (kb (sh_X5_takes sv (sh_X5_where sv x1)) (fun z_r6 => (kb (sh_X5_takes z_r6.2 x2) (fun z_r10 => (kb (α := Nat → Int32) (upd z_r10.2 (16 + x2).toNatClampNeg x1) (fun z_f14 => ((z_r6.1 + z_r10.1), z_f14)))))))))
abbrev rm_X5_moves : Room := { frames := 1, cells := 0, slots := 0, locals := 23 }
theorem hd_X5_moves : hdT yX5_moves 2 := by decide +kernel
set_option maxHeartbeats 40000000 in
set_option maxRecDepth 100000 in
theorem c_X5_moves (l : Launch) (D : va_G) (cI cC cQ : ClassId) (sz : Nat) (h0 : Nat) (a : Nat → Nat) (sv : Nat → Int32) (pa : Nat → Int32) (pn : Int32) (sn : Nat → Int32) (kp : Int32) (pd : Nat → Int32) (ln : Int32) (so : Nat → Int32) (po : Int32) (wr : Int32) (lt : Int32) (fr : Int32) (sc : Int32) (tm : Int32) (hd : Int32) (st : Int32) (x1 : Int32) (x2 : Int32) (hi_x2 : vp_in x2 2) (hiv : iv sv) : Met l yX5_moves (wsO yX5_moves cX5_moves 5 (some .int)) rm_X5_moves (va_Pc [.ref h0, .int x1, .int x2] (inW D (TYS cI cC cQ) (MO cI h0 a sv pa pn sn kp pd ln so po wr lt fr sc tm hd st) sz)) (va_Qi (fun (r : Int32) (u : (Nat → Int32)) => (r, u) = sh_X5_moves sv x1 x2) (fun (u : (Nat → Int32)) => atW D (TYS cI cC cQ) (va_A (MO cI h0 a sv pa pn sn kp pd ln so po wr lt fr sc tm hd st) sz) (MO cI h0 a u pa pn sn kp pd ln so po wr lt fr sc tm hd st)) (va_A (MO cI h0 a sv pa pn sn kp pd ln so po wr lt fr sc tm hd st) sz)) 0 0 (va_A (MO cI h0 a sv pa pn sn kp pd ln so po wr lt fr sc tm hd st) sz) := by
  refine k_meti .int rfl (by decide) (Nat.le_of_ble_eq_true rfl) ?_
  intro p e s m args below meth c A ls Q H locs hargs hret hx hb hts hown hml hname hN hA hS hP hK hD hl
  have hl : lv_has ls 5 [(0, .ref h0), (1, .int x1), (2, .int x2)] := hl
  obtain ⟨Xq, hX⟩ : ∃ Xq, Xq = sh_X5_moves sv x1 x2 := ⟨_, rfl⟩
  have hq : Xq = (if (sh_X5_where sv x1) = x2 then ((0 : Int32), sv) else (if (sh_X5_where sv x1) = (-1) then (kb (sh_X5_takes sv x2) (fun z_r16 => (kb (α := Nat → Int32) (upd z_r16.2 (16 + x2).toNatClampNeg x1) (fun z_f20 => ((0 + z_r16.1), z_f20))))) else (kb (sh_X5_takes sv (sh_X5_where sv x1)) (fun z_r6 => (kb (sh_X5_takes z_r6.2 x2) (fun z_r10 => (kb (α := Nat → Int32) (upd z_r10.2 (16 + x2).toNatClampNeg x1) (fun z_f14 => ((z_r6.1 + z_r10.1), z_f14))))))))) := hX
  refine lv_aload_n hx hb dX5_moves_0 rfl (lv_at hl 0 rfl) ?_
  refine lv_iload_n hx hb dX5_moves_1 rfl (lv_at hl 1 rfl) ?_
  have hPs := k_self hP
  have hDs := k_selfD hD
  refine k_behi (X := []) (Y := []) (va_runV (As := [.int x1]) (rest := []) ⟨hx, hb, hml, hown, hts⟩ (c_X5_where l D cI cC cQ H.size h0 a sv pa pn sn kp pd ln so po wr lt fr sc tm hd st x1) (kcwV hts wd_ml_RX5_67 wd_im_yX5_where wd_sel_yX5_where wd_ini_RX5 wd_code_yX5_where rfl rfl rfl hd_X5_where ⟨Nat.le_of_ble_eq_true rfl, Nat.le_of_ble_eq_true rfl⟩) ⟨in_blind, va_recv hK (pa_l (pa_r hPs)) (ci := 5) (q0 := 0) rfl rfl, k_pre hK (pa_l (pa_r hPs)) (da_l (da_r hDs)) hN⟩ rfl rfl hl.1 rfl (lv_room (Nat.le_of_ble_eq_true rfl)) dX5_moves_2 ⟨Nat.le_of_ble_eq_true rfl, Nat.le_of_ble_eq_true rfl⟩) hPs hDs hS hA (fun r1 u2 H locs hw3 hP hD hS => ?_)
  have hP := k_unP hP
  have hD := k_unD hD
  have hP : va_P D vwCl (MO cI h0 a sv pa pn sn kp pd ln so po wr lt fr sc tm hd st) H := hP
  have hD : va_D A (MO cI h0 a sv pa pn sn kp pd ln so po wr lt fr sc tm hd st) := hD
  have hw3 : r1 = (sh_X5_where sv x1) := hw3
  subst hw3
  refine lv_istore_n (lv' := [(3, .int (sh_X5_where sv x1)), (0, .ref h0), (1, .int x1), (2, .int x2)]) hx hb dX5_moves_5 rfl hl (by decide) rfl (fun ls hl => ?_)
  refine lv_iload_n hx hb dX5_moves_6 rfl (lv_at hl 0 rfl) ?_
  refine lv_iload_n hx hb dX5_moves_7 rfl (lv_at hl 3 rfl) ?_
  refine lv_icmp_ne (tgt := 13) hx hb dX5_moves_8 (by decide) (fun c4 => ?_) (fun c4 => ?_)
  · have hq := it_neg hq c4
    refine lv_iload_n hx hb dX5_moves_13 rfl (lv_at hl 0 rfl) ?_
    refine lv_iconst (v := (-1)) hx hb dX5_moves_14 (by decide) ?_
    refine lv_icmp_ne (tgt := 22) hx hb dX5_moves_15 (by decide) (fun c5 => ?_) (fun c5 => ?_)
    · have hq := it_neg hq c5
      refine lv_aload_n hx hb dX5_moves_22 rfl (lv_at hl 1 rfl) ?_
      refine lv_iload_n hx hb dX5_moves_23 rfl (lv_at hl 0 rfl) ?_
      have hPs := k_self hP
      have hDs := k_selfD hD
      refine k_behi (X := []) (Y := []) (va_runV (As := [.int (sh_X5_where sv x1)]) (rest := []) ⟨hx, hb, hml, hown, hts⟩ (c_X5_takes l D cI cC cQ H.size h0 a sv pa pn sn kp pd ln so po wr lt fr sc tm hd st (sh_X5_where sv x1) ((whereIn c5)) (hiv)) (kcwV hts wd_ml_RX5_70 wd_im_yX5_takes wd_sel_yX5_takes wd_ini_RX5 wd_code_yX5_takes rfl rfl rfl hd_X5_takes ⟨Nat.le_of_ble_eq_true rfl, Nat.le_of_ble_eq_true rfl⟩) ⟨in_blind, va_recv hK (pa_l (pa_r hPs)) (ci := 5) (q0 := 0) rfl rfl, k_pre hK (pa_l (pa_r hPs)) (da_l (da_r hDs)) hN⟩ rfl rfl hl.1 rfl (lv_room (Nat.le_of_ble_eq_true rfl)) dX5_moves_24 ⟨Nat.le_of_ble_eq_true rfl, Nat.le_of_ble_eq_true rfl⟩) hPs hDs hS hA (fun r6 u7 H locs hw8 hP hD hS => ?_)
      obtain ⟨f9, rfl⟩ : ∃ z, z = u7 := ⟨_, rfl⟩
      have hP := k_unP hP
      have hD := k_unD hD
      have hP : va_P D vwCl (MO cI h0 a f9 pa pn sn kp pd ln so po wr lt fr sc tm hd st) H := hP
      have hD : va_D A (MO cI h0 a f9 pa pn sn kp pd ln so po wr lt fr sc tm hd st) := hD
      have hw8 : (r6, f9) = (sh_X5_takes sv (sh_X5_where sv x1)) := hw8
      have hq := kb_to hq hw8
      refine lv_istore (lv' := [(4, .int r6), (3, .int (sh_X5_where sv x1)), (0, .ref h0), (1, .int x1), (2, .int x2)]) hx hb dX5_moves_27 hl (by decide) rfl (fun ls hl => ?_)
      refine lv_iload hx hb dX5_moves_29 (lv_at hl 0 rfl) ?_
      refine lv_aload_n hx hb dX5_moves_31 rfl (lv_at hl 2 rfl) ?_
      refine lv_iload_n hx hb dX5_moves_32 rfl (lv_at hl 4 rfl) ?_
      have hPs := k_self hP
      have hDs := k_selfD hD
      refine k_behi (X := []) (Y := []) (va_runV (As := [.int x2]) (rest := [.int r6]) ⟨hx, hb, hml, hown, hts⟩ (c_X5_takes l D cI cC cQ H.size h0 a f9 pa pn sn kp pd ln so po wr lt fr sc tm hd st x2 (hi_x2) ((snd_iv (iv_takes hiv (whereIn c5)) hw8))) (kcwV hts wd_ml_RX5_70 wd_im_yX5_takes wd_sel_yX5_takes wd_ini_RX5 wd_code_yX5_takes rfl rfl rfl hd_X5_takes ⟨Nat.le_of_ble_eq_true rfl, Nat.le_of_ble_eq_true rfl⟩) ⟨in_blind, va_recv hK (pa_l (pa_r hPs)) (ci := 5) (q0 := 0) rfl rfl, k_pre hK (pa_l (pa_r hPs)) (da_l (da_r hDs)) hN⟩ rfl rfl hl.1 rfl (lv_room (Nat.le_of_ble_eq_true rfl)) dX5_moves_33 ⟨Nat.le_of_ble_eq_true rfl, Nat.le_of_ble_eq_true rfl⟩) hPs hDs hS hA (fun r10 u11 H locs hw12 hP hD hS => ?_)
      obtain ⟨f13, rfl⟩ : ∃ z, z = u11 := ⟨_, rfl⟩
      have hP := k_unP hP
      have hD := k_unD hD
      have hP : va_P D vwCl (MO cI h0 a f13 pa pn sn kp pd ln so po wr lt fr sc tm hd st) H := hP
      have hD : va_D A (MO cI h0 a f13 pa pn sn kp pd ln so po wr lt fr sc tm hd st) := hD
      have hw12 : (r10, f13) = (sh_X5_takes f9 x2) := hw12
      have hq := kb_to hq hw12
      refine lv_iadd hx hb dX5_moves_36 ?_
      refine lv_istore (lv' := [(4, .int (r6 + r10)), (3, .int (sh_X5_where sv x1)), (0, .ref h0), (1, .int x1), (2, .int x2)]) hx hb dX5_moves_37 hl (by decide) rfl (fun ls hl => ?_)
      refine lv_aload_n hx hb dX5_moves_39 rfl (lv_at hl 2 rfl) ?_
      refine va_get (D := D) (ci := 5) (v := .ref (a 0)) (C := RX5) (T := TX5) (N := 16) hx hb hts inA5 hown hK hP 0 rfl rfl 0 (by decide) (hts _ wd_fl_RX5_7) (fun _ h9 => h9) rfl dX5_moves_40 ?_
      refine lv_bipush (v := 16) hx hb dX5_moves_43 (by decide) ?_
      refine lv_iload_n hx hb dX5_moves_45 rfl (lv_at hl 4 rfl) ?_
      refine lv_iadd hx hb dX5_moves_46 ?_
      refine lv_iload_n hx hb dX5_moves_47 rfl (lv_at hl 3 rfl) ?_
      refine va_iast hx hb hK hP hD hS 1 0 rfl rfl (vp_add hi_x2 (by decide) (by decide) (by decide)) dX5_moves_48 (fun H locs hP hD hS => ?_)
      have hP : va_P D vwCl (MO cI h0 a (upd f13 (16 + x2).toNatClampNeg x1) pa pn sn kp pd ln so po wr lt fr sc tm hd st) H := hP
      have hD : va_D A (MO cI h0 a (upd f13 (16 + x2).toNatClampNeg x1) pa pn sn kp pd ln so po wr lt fr sc tm hd st) := hD
      obtain ⟨f14, hf15⟩ : ∃ z : Nat → Int32, z = (upd f13 (16 + x2).toNatClampNeg x1) := ⟨_, rfl⟩
      have hP : va_P D vwCl (MO cI h0 a f14 pa pn sn kp pd ln so po wr lt fr sc tm hd st) H := by rw [hf15]; exact hP
      have hD : va_D A (MO cI h0 a f14 pa pn sn kp pd ln so po wr lt fr sc tm hd st) := by rw [hf15]; exact hD
      have hq := kb_to hq hf15
      refine lv_iload hx hb dX5_moves_49 (lv_at hl 0 rfl) ?_
      exact hret _ _ _ _ ((r6 + r10)) f14 dX5_moves_51 rfl (hq.symm.trans hX) hP hD hS
    · have hq := it_pos hq c5
      refine lv_iconst (v := 0) hx hb dX5_moves_18 (by decide) ?_
      refine lv_goto (tgt := 27) hx hb dX5_moves_19 (by decide) ?_
      refine lv_istore (lv' := [(4, .int 0), (3, .int (sh_X5_where sv x1)), (0, .ref h0), (1, .int x1), (2, .int x2)]) hx hb dX5_moves_27 hl (by decide) rfl (fun ls hl => ?_)
      refine lv_iload hx hb dX5_moves_29 (lv_at hl 0 rfl) ?_
      refine lv_aload_n hx hb dX5_moves_31 rfl (lv_at hl 2 rfl) ?_
      refine lv_iload_n hx hb dX5_moves_32 rfl (lv_at hl 4 rfl) ?_
      have hPs := k_self hP
      have hDs := k_selfD hD
      refine k_behi (X := []) (Y := []) (va_runV (As := [.int x2]) (rest := [.int 0]) ⟨hx, hb, hml, hown, hts⟩ (c_X5_takes l D cI cC cQ H.size h0 a sv pa pn sn kp pd ln so po wr lt fr sc tm hd st x2 (hi_x2) (hiv)) (kcwV hts wd_ml_RX5_70 wd_im_yX5_takes wd_sel_yX5_takes wd_ini_RX5 wd_code_yX5_takes rfl rfl rfl hd_X5_takes ⟨Nat.le_of_ble_eq_true rfl, Nat.le_of_ble_eq_true rfl⟩) ⟨in_blind, va_recv hK (pa_l (pa_r hPs)) (ci := 5) (q0 := 0) rfl rfl, k_pre hK (pa_l (pa_r hPs)) (da_l (da_r hDs)) hN⟩ rfl rfl hl.1 rfl (lv_room (Nat.le_of_ble_eq_true rfl)) dX5_moves_33 ⟨Nat.le_of_ble_eq_true rfl, Nat.le_of_ble_eq_true rfl⟩) hPs hDs hS hA (fun r16 u17 H locs hw18 hP hD hS => ?_)
      obtain ⟨f19, rfl⟩ : ∃ z, z = u17 := ⟨_, rfl⟩
      have hP := k_unP hP
      have hD := k_unD hD
      have hP : va_P D vwCl (MO cI h0 a f19 pa pn sn kp pd ln so po wr lt fr sc tm hd st) H := hP
      have hD : va_D A (MO cI h0 a f19 pa pn sn kp pd ln so po wr lt fr sc tm hd st) := hD
      have hw18 : (r16, f19) = (sh_X5_takes sv x2) := hw18
      have hq := kb_to hq hw18
      refine lv_iadd hx hb dX5_moves_36 ?_
      refine lv_istore (lv' := [(4, .int (0 + r16)), (3, .int (sh_X5_where sv x1)), (0, .ref h0), (1, .int x1), (2, .int x2)]) hx hb dX5_moves_37 hl (by decide) rfl (fun ls hl => ?_)
      refine lv_aload_n hx hb dX5_moves_39 rfl (lv_at hl 2 rfl) ?_
      refine va_get (D := D) (ci := 5) (v := .ref (a 0)) (C := RX5) (T := TX5) (N := 16) hx hb hts inA5 hown hK hP 0 rfl rfl 0 (by decide) (hts _ wd_fl_RX5_7) (fun _ h9 => h9) rfl dX5_moves_40 ?_
      refine lv_bipush (v := 16) hx hb dX5_moves_43 (by decide) ?_
      refine lv_iload_n hx hb dX5_moves_45 rfl (lv_at hl 4 rfl) ?_
      refine lv_iadd hx hb dX5_moves_46 ?_
      refine lv_iload_n hx hb dX5_moves_47 rfl (lv_at hl 3 rfl) ?_
      refine va_iast hx hb hK hP hD hS 1 0 rfl rfl (vp_add hi_x2 (by decide) (by decide) (by decide)) dX5_moves_48 (fun H locs hP hD hS => ?_)
      have hP : va_P D vwCl (MO cI h0 a (upd f19 (16 + x2).toNatClampNeg x1) pa pn sn kp pd ln so po wr lt fr sc tm hd st) H := hP
      have hD : va_D A (MO cI h0 a (upd f19 (16 + x2).toNatClampNeg x1) pa pn sn kp pd ln so po wr lt fr sc tm hd st) := hD
      obtain ⟨f20, hf21⟩ : ∃ z : Nat → Int32, z = (upd f19 (16 + x2).toNatClampNeg x1) := ⟨_, rfl⟩
      have hP : va_P D vwCl (MO cI h0 a f20 pa pn sn kp pd ln so po wr lt fr sc tm hd st) H := by rw [hf21]; exact hP
      have hD : va_D A (MO cI h0 a f20 pa pn sn kp pd ln so po wr lt fr sc tm hd st) := by rw [hf21]; exact hD
      have hq := kb_to hq hf21
      refine lv_iload hx hb dX5_moves_49 (lv_at hl 0 rfl) ?_
      exact hret _ _ _ _ ((0 + r16)) f20 dX5_moves_51 rfl (hq.symm.trans hX) hP hD hS
  · have hq := it_pos hq c4
    refine lv_iconst (v := 0) hx hb dX5_moves_11 (by decide) ?_
    exact hret _ _ _ _ (0) sv dX5_moves_12 rfl (hq.symm.trans hX) hP hD hS
def sh_X5_move (sv : Nat → Int32) (pa : Nat → Int32) (pn : Int32) (x1 : Int32) (x2 : Int32) : Int32 × (Nat → Int32) × (Nat → Int32) × (Int32) := (if (sh_X5_isCup x1) = 0 then ((-1 : Int32), sv, pa, pn) else (if (sh_X5_isPrinter x2) = 0 then ((-1 : Int32), sv, pa, pn) else (kb (sh_X5_records sv pa pn) (fun z_f12 => (kb (sh_X5_moves sv x1 x2) (fun z_r14 => (z_r14.1, z_r14.2, z_f12.1, z_f12.2)))))))
abbrev rm_X5_move : Room := { frames := 2, cells := 0, slots := 0, locals := 47 }
theorem hd_X5_move : hdT yX5_move 2 := by decide +kernel
set_option maxHeartbeats 40000000 in
set_option maxRecDepth 100000 in
theorem c_X5_move (l : Launch) (D : va_G) (cI cC cQ : ClassId) (sz : Nat) (h0 : Nat) (a : Nat → Nat) (sv : Nat → Int32) (pa : Nat → Int32) (pn : Int32) (sn : Nat → Int32) (kp : Int32) (pd : Nat → Int32) (ln : Int32) (so : Nat → Int32) (po : Int32) (wr : Int32) (lt : Int32) (fr : Int32) (sc : Int32) (tm : Int32) (hd : Int32) (st : Int32) (x1 : Int32) (x2 : Int32) (hpn0 : vp_in pn 5) (hiv : iv sv) : Met l yX5_move (wsO yX5_move cX5_move 3 (some .int)) rm_X5_move (va_Pc [.ref h0, .int x1, .int x2] (inW D (TYS cI cC cQ) (MO cI h0 a sv pa pn sn kp pd ln so po wr lt fr sc tm hd st) sz)) (va_Qi (fun (r : Int32) (u : (Nat → Int32) × (Nat → Int32) × (Int32)) => (r, u) = sh_X5_move sv pa pn x1 x2) (fun (u : (Nat → Int32) × (Nat → Int32) × (Int32)) => atW D (TYS cI cC cQ) (va_A (MO cI h0 a sv pa pn sn kp pd ln so po wr lt fr sc tm hd st) sz) (MO cI h0 a u.1 u.2.1 u.2.2 sn kp pd ln so po wr lt fr sc tm hd st)) (va_A (MO cI h0 a sv pa pn sn kp pd ln so po wr lt fr sc tm hd st) sz)) 0 0 (va_A (MO cI h0 a sv pa pn sn kp pd ln so po wr lt fr sc tm hd st) sz) := by
  refine k_meti .int rfl (by decide) (Nat.le_of_ble_eq_true rfl) ?_
  intro p e s m args below meth c A ls Q H locs hargs hret hx hb hts hown hml hname hN hA hS hP hK hD hl
  have hl : lv_has ls 3 [(0, .ref h0), (1, .int x1), (2, .int x2)] := hl
  obtain ⟨Xq, hX⟩ : ∃ Xq, Xq = sh_X5_move sv pa pn x1 x2 := ⟨_, rfl⟩
  have hq : Xq = (if (sh_X5_isCup x1) = 0 then ((-1 : Int32), sv, pa, pn) else (if (sh_X5_isPrinter x2) = 0 then ((-1 : Int32), sv, pa, pn) else (kb (sh_X5_records sv pa pn) (fun z_f12 => (kb (sh_X5_moves sv x1 x2) (fun z_r14 => (z_r14.1, z_r14.2, z_f12.1, z_f12.2))))))) := hX
  refine lv_iload_n hx hb dX5_move_0 rfl (lv_at hl 1 rfl) ?_
  have hPs : va_P D vwCl ([] ++ ([] ++ (MO cI h0 a sv pa pn sn kp pd ln so po wr lt fr sc tm hd st))) H := hP
  have hDs : va_D A ([] ++ ([] ++ (MO cI h0 a sv pa pn sn kp pd ln so po wr lt fr sc tm hd st))) := hD
  refine k_behi (X := []) (Y := (MO cI h0 a sv pa pn sn kp pd ln so po wr lt fr sc tm hd st)) (va_runS (As := [.int x1]) (rest := []) ⟨hx, hb, hml, hown, hts⟩ (c_X5_isCup l D cI cC cQ H.size x1) (kcwS hts wd_ml_RX5_61 wd_st_yX5_isCup wd_ini_RX5 wd_code_yX5_isCup rfl rfl hd_X5_isCup ⟨Nat.le_of_ble_eq_true rfl, Nat.le_of_ble_eq_true rfl⟩) ⟨in_blind, k_pre hK (pa_l (pa_r hPs)) (da_l (da_r hDs)) hN⟩ rfl rfl hl.1 rfl (lv_room (Nat.le_of_ble_eq_true rfl)) dX5_move_1 ⟨Nat.le_of_ble_eq_true rfl, Nat.le_of_ble_eq_true rfl⟩) hPs hDs hS hA (fun r1 u2 H locs hw3 hP hD hS => ?_)
  have hP : va_P D vwCl (MO cI h0 a sv pa pn sn kp pd ln so po wr lt fr sc tm hd st) H := hP
  have hD : va_D A (MO cI h0 a sv pa pn sn kp pd ln so po wr lt fr sc tm hd st) := hD
  have hw3 : r1 = (sh_X5_isCup x1) := hw3
  subst hw3
  refine lv_if_eq (tgt := 14) hx hb dX5_move_4 (by decide) (fun c4 => ?_) (fun c4 => ?_)
  · have hq := it_pos hq c4
    refine lv_iconst (v := (-1)) hx hb dX5_move_14 (by decide) ?_
    exact hret _ _ _ _ ((-1)) (sv, pa, pn) dX5_move_15 rfl (hq.symm.trans hX) hP hD hS
  · have hq := it_neg hq c4
    refine lv_iload_n hx hb dX5_move_7 rfl (lv_at hl 2 rfl) ?_
    have hPs : va_P D vwCl ([] ++ ([] ++ (MO cI h0 a sv pa pn sn kp pd ln so po wr lt fr sc tm hd st))) H := hP
    have hDs : va_D A ([] ++ ([] ++ (MO cI h0 a sv pa pn sn kp pd ln so po wr lt fr sc tm hd st))) := hD
    refine k_behi (X := []) (Y := (MO cI h0 a sv pa pn sn kp pd ln so po wr lt fr sc tm hd st)) (va_runS (As := [.int x2]) (rest := []) ⟨hx, hb, hml, hown, hts⟩ (c_X5_isPrinter l D cI cC cQ H.size x2) (kcwS hts wd_ml_RX5_48 wd_st_yX5_isPrinter wd_ini_RX5 wd_code_yX5_isPrinter rfl rfl hd_X5_isPrinter ⟨Nat.le_of_ble_eq_true rfl, Nat.le_of_ble_eq_true rfl⟩) ⟨in_blind, k_pre hK (pa_l (pa_r hPs)) (da_l (da_r hDs)) hN⟩ rfl rfl hl.1 rfl (lv_room (Nat.le_of_ble_eq_true rfl)) dX5_move_8 ⟨Nat.le_of_ble_eq_true rfl, Nat.le_of_ble_eq_true rfl⟩) hPs hDs hS hA (fun r5 u6 H locs hw7 hP hD hS => ?_)
    have hP : va_P D vwCl (MO cI h0 a sv pa pn sn kp pd ln so po wr lt fr sc tm hd st) H := hP
    have hD : va_D A (MO cI h0 a sv pa pn sn kp pd ln so po wr lt fr sc tm hd st) := hD
    have hw7 : r5 = (sh_X5_isPrinter x2) := hw7
    subst hw7
    refine lv_if_ne (tgt := 16) hx hb dX5_move_11 (by decide) (fun c8 => ?_) (fun c8 => ?_)
    · have hq := it_neg hq c8
      refine lv_aload_n hx hb dX5_move_16 rfl (lv_at hl 0 rfl) ?_
      have hPs := k_self hP
      have hDs := k_selfD hD
      refine k_behv (X := []) (Y := []) (va_runV (As := []) (rest := []) ⟨hx, hb, hml, hown, hts⟩ (c_X5_records l D cI cC cQ H.size h0 a sv pa pn sn kp pd ln so po wr lt fr sc tm hd st (hpn0)) (kcwV hts wd_ml_RX5_55 wd_im_yX5_records wd_sel_yX5_records wd_ini_RX5 wd_code_yX5_records rfl rfl rfl hd_X5_records ⟨Nat.le_of_ble_eq_true rfl, Nat.le_of_ble_eq_true rfl⟩) ⟨in_blind, va_recv hK (pa_l (pa_r hPs)) (ci := 5) (q0 := 0) rfl rfl, k_pre hK (pa_l (pa_r hPs)) (da_l (da_r hDs)) hN⟩ rfl rfl hl.1 rfl (lv_room (Nat.le_of_ble_eq_true rfl)) dX5_move_17 ⟨Nat.le_of_ble_eq_true rfl, Nat.le_of_ble_eq_true rfl⟩) hPs hDs hS hA (fun u10 H locs hw11 hP hD hS => ?_)
      obtain ⟨f12, v13⟩ := u10
      have hP := k_unP hP
      have hD := k_unD hD
      have hP : va_P D vwCl (MO cI h0 a sv f12 v13 sn kp pd ln so po wr lt fr sc tm hd st) H := hP
      have hD : va_D A (MO cI h0 a sv f12 v13 sn kp pd ln so po wr lt fr sc tm hd st) := hD
      have hw11 : (f12, v13) = (sh_X5_records sv pa pn) := hw11
      have hq := kb_to hq hw11
      refine lv_aload_n hx hb dX5_move_20 rfl (lv_at hl 0 rfl) ?_
      refine lv_iload_n hx hb dX5_move_21 rfl (lv_at hl 1 rfl) ?_
      refine lv_iload_n hx hb dX5_move_22 rfl (lv_at hl 2 rfl) ?_
      have hPs := k_self hP
      have hDs := k_selfD hD
      refine k_behi (X := []) (Y := []) (va_runV (As := [.int x1, .int x2]) (rest := []) ⟨hx, hb, hml, hown, hts⟩ (c_X5_moves l D cI cC cQ H.size h0 a sv f12 v13 sn kp pd ln so po wr lt fr sc tm hd st x1 x2 ((mIn2 c8)) (hiv)) (kcwV hts wd_ml_RX5_73 wd_im_yX5_moves wd_sel_yX5_moves wd_ini_RX5 wd_code_yX5_moves rfl rfl rfl hd_X5_moves ⟨Nat.le_of_ble_eq_true rfl, Nat.le_of_ble_eq_true rfl⟩) ⟨in_blind, va_recv hK (pa_l (pa_r hPs)) (ci := 5) (q0 := 0) rfl rfl, k_pre hK (pa_l (pa_r hPs)) (da_l (da_r hDs)) hN⟩ rfl rfl hl.1 rfl (lv_room (Nat.le_of_ble_eq_true rfl)) dX5_move_23 ⟨Nat.le_of_ble_eq_true rfl, Nat.le_of_ble_eq_true rfl⟩) hPs hDs hS hA (fun r14 u15 H locs hw16 hP hD hS => ?_)
      obtain ⟨f17, rfl⟩ : ∃ z, z = u15 := ⟨_, rfl⟩
      have hP := k_unP hP
      have hD := k_unD hD
      have hP : va_P D vwCl (MO cI h0 a f17 f12 v13 sn kp pd ln so po wr lt fr sc tm hd st) H := hP
      have hD : va_D A (MO cI h0 a f17 f12 v13 sn kp pd ln so po wr lt fr sc tm hd st) := hD
      have hw16 : (r14, f17) = (sh_X5_moves sv x1 x2) := hw16
      have hq := kb_to hq hw16
      exact hret _ _ _ _ (r14) (f17, f12, v13) dX5_move_26 rfl (hq.symm.trans hX) hP hD hS
    · have hq := it_pos hq c8
      refine lv_iconst (v := (-1)) hx hb dX5_move_14 (by decide) ?_
      exact hret _ _ _ _ ((-1)) (sv, pa, pn) dX5_move_15 rfl (hq.symm.trans hX) hP hD hS
