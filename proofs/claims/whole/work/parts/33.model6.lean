theorem pages_mu {t n0 r v v2 : Int32} {n : Nat} (hmu : (t.toInt - n0.toInt).toNat + (if r = 0 then 1 else 0) < n + 1) (c1 : ¬ t ≤ n0) (hr : r = 0) (hv2 : v2 = if v = 0 then 1 else 0) : (t.toInt - (n0 + v2).toInt).toNat + (if v = 0 then 1 else 0) < n := by
  rw [if_pos hr] at hmu
  by_cases c : v = 0
  · rw [if_pos c] at hv2 ⊢
    rw [hv2]
    have := k_mu (x := t) (v := n0) (n := (t.toInt - n0.toInt).toNat) (by omega) c1
    omega
  · rw [if_neg c] at hv2 ⊢
    rw [hv2, Int32.add_zero]
    omega
def lp_X5_pages_4 (so : Nat → Int32) (fr : Int32) (sc : Int32) (tm : Int32) : Nat → (Int32) → (Int32) → (Nat → Int32) → (Int32 × (Nat → Int32) × (Nat → Int32))
  | 0, _, _, _ => default
  | fu + 1, n1, r2, l_sv => (if tm ≤ n1 then (kb (α := Nat → Int32) (upd so (0 : Int32).toNatClampNeg r2) (fun z_f13 => (kb (α := Nat → Int32) (upd z_f13 (3 : Int32).toNatClampNeg n1) (fun z_f15 => (n1, l_sv, z_f15))))) else (if r2 = 0 then (kb (sh_X5_prints l_sv fr sc) (fun z_r32 => (kb (α := (Int32)) (if 10 ≤ z_r32.1 then 0 else z_r32.1) (fun z_v38 => (kb (α := (Int32)) (if z_v38 = 0 then 1 else 0) (fun z_v41 => (lp_X5_pages_4 so fr sc tm fu (n1 + z_v41) z_v38 z_r32.2))))))) else (kb (α := Nat → Int32) (upd so (0 : Int32).toNatClampNeg r2) (fun z_f28 => (kb (α := Nat → Int32) (upd z_f28 (3 : Int32).toNatClampNeg n1) (fun z_f30 => (n1, l_sv, z_f30)))))))
def sh_X5_pages (sv : Nat → Int32) (so : Nat → Int32) (fr : Int32) (sc : Int32) (tm : Int32) : Int32 × (Nat → Int32) × (Nat → Int32) := (lp_X5_pages_4 so fr sc tm (((tm.toInt - (0 : Int32).toInt).toNat + (if (0 : Int32) = 0 then 1 else 0)) + 1) 0 0 sv)
abbrev rm_X5_pages : Room := { frames := 3, cells := 0, slots := 0, locals := 75 }
theorem hd_X5_pages : hdT yX5_pages 0 := by decide +kernel
set_option maxHeartbeats 40000000 in
set_option maxRecDepth 100000 in
theorem c_X5_pages (l : Launch) (D : va_G) (cI cC cQ : ClassId) (sz : Nat) (h0 : Nat) (a : Nat → Nat) (sv : Nat → Int32) (pa : Nat → Int32) (pn : Int32) (sn : Nat → Int32) (kp : Int32) (pd : Nat → Int32) (ln : Int32) (so : Nat → Int32) (po : Int32) (wr : Int32) (lt : Int32) (fr : Int32) (sc : Int32) (tm : Int32) (hd : Int32) (st : Int32)  (hiv : iv sv) (hfr : vp_in fr 2) (hdots : dotsOK sc) : Met l yX5_pages (wsO yX5_pages cX5_pages 4 (some .int)) rm_X5_pages (va_Pc [.ref h0] (inW D (TYS cI cC cQ) (MO cI h0 a sv pa pn sn kp pd ln so po wr lt fr sc tm hd st) sz)) (va_Qi (fun (r : Int32) (u : (Nat → Int32) × (Nat → Int32)) => (r, u) = sh_X5_pages sv so fr sc tm) (fun (u : (Nat → Int32) × (Nat → Int32)) => atW D (TYS cI cC cQ) (va_A (MO cI h0 a sv pa pn sn kp pd ln so po wr lt fr sc tm hd st) sz) (MO cI h0 a u.1 pa pn sn kp pd ln u.2 po wr lt fr sc tm hd st)) (va_A (MO cI h0 a sv pa pn sn kp pd ln so po wr lt fr sc tm hd st) sz)) 0 0 (va_A (MO cI h0 a sv pa pn sn kp pd ln so po wr lt fr sc tm hd st) sz) := by
  refine k_meti .int rfl (by decide) (Nat.le_of_ble_eq_true rfl) ?_
  intro p e s m args below meth c A ls Q H locs hargs hret hx hb hts hown hml hname hN hA hS hP hK hD hl
  have hl : lv_has ls 4 [(0, .ref h0)] := hl
  obtain ⟨Xq, hX⟩ : ∃ Xq, Xq = sh_X5_pages sv so fr sc tm := ⟨_, rfl⟩
  have hq : Xq = (lp_X5_pages_4 so fr sc tm (((tm.toInt - (0 : Int32).toInt).toNat + (if (0 : Int32) = 0 then 1 else 0)) + 1) 0 0 sv) := hX
  refine lv_iconst (v := 0) hx hb dX5_pages_0 (by decide) ?_
  refine lv_istore_n (lv' := [(1, .int 0), (0, .ref h0)]) hx hb dX5_pages_1 rfl hl (by decide) rfl (fun ls hl => ?_)
  refine lv_iconst (v := 0) hx hb dX5_pages_2 (by decide) ?_
  refine lv_istore_n (lv' := [(2, .int 0), (1, .int 0), (0, .ref h0)]) hx hb dX5_pages_3 rfl hl (by decide) rfl (fun ls hl => ?_)
  have L4 : ∀ (fu : Nat) (n1 : Int32) (r2 : Int32) (l_sv : Nat → Int32) (H : Heap) (locs : List Loc) (ls : Array Slot), ((tm.toInt - (n1 : Int32).toInt).toNat + (if (r2 : Int32) = 0 then 1 else 0)) < fu → (iv l_sv) → Xq = lp_X5_pages_4 so fr sc tm fu n1 r2 l_sv → va_P D vwCl (MO cI h0 a l_sv pa pn sn kp pd ln so po wr lt fr sc tm hd st) H → va_D A (MO cI h0 a l_sv pa pn sn kp pd ln so po wr lt fr sc tm hd st) → va_S A s.heap H locs → lv_has ls 4 [(2, .int r2), (1, .int n1), (0, .ref h0)] → W p l e rm_X5_pages s m args below meth c H locs 0 0 Q (F0 m 4 ls []) := by
    intro fu
    induction fu with
    | zero => intro n1 r2 l_sv H locs ls hmu; exact absurd hmu (Nat.not_lt_zero _)
    | succ fu ih =>
      intro n1 r2 l_sv H locs ls hmu hiv1 hq hP hD hS hl
      have hq : Xq = (if tm ≤ n1 then (kb (α := Nat → Int32) (upd so (0 : Int32).toNatClampNeg r2) (fun z_f13 => (kb (α := Nat → Int32) (upd z_f13 (3 : Int32).toNatClampNeg n1) (fun z_f15 => (n1, l_sv, z_f15))))) else (if r2 = 0 then (kb (sh_X5_prints l_sv fr sc) (fun z_r32 => (kb (α := (Int32)) (if 10 ≤ z_r32.1 then 0 else z_r32.1) (fun z_v38 => (kb (α := (Int32)) (if z_v38 = 0 then 1 else 0) (fun z_v41 => (lp_X5_pages_4 so fr sc tm fu (n1 + z_v41) z_v38 z_r32.2))))))) else (kb (α := Nat → Int32) (upd so (0 : Int32).toNatClampNeg r2) (fun z_f28 => (kb (α := Nat → Int32) (upd z_f28 (3 : Int32).toNatClampNeg n1) (fun z_f30 => (n1, l_sv, z_f30))))))) := hq
      refine lv_iload_n hx hb dX5_pages_4 rfl (lv_at hl 1 rfl) ?_
      refine lv_aload_n hx hb dX5_pages_5 rfl (lv_at hl 2 rfl) ?_
      refine va_get (D := D) (ci := 5) (v := .int tm) (C := RX5) (T := TX5) (N := 16) hx hb hts inA5 hown hK hP 0 rfl rfl 13 (by decide) (hts _ wd_fl_RX5_102) (fun _ h9 => h9) rfl dX5_pages_6 ?_
      refine lv_icmp_ge (tgt := 56) hx hb dX5_pages_9 (by decide) (fun c1 => ?_) (fun c1 => ?_)
      · have hq := it_pos hq c1
        refine lv_aload_n hx hb dX5_pages_56 rfl (lv_at hl 2 rfl) ?_
        refine va_get (D := D) (ci := 5) (v := .ref (a 4)) (C := RX5) (T := TX5) (N := 16) hx hb hts inA5 hown hK hP 0 rfl rfl 7 (by decide) (hts _ wd_fl_RX5_22) (fun _ h9 => h9) rfl dX5_pages_57 ?_
        refine lv_iconst (v := 0) hx hb dX5_pages_60 (by decide) ?_
        refine lv_iload_n hx hb dX5_pages_61 rfl (lv_at hl 0 rfl) ?_
        refine va_iast hx hb hK hP hD hS 5 0 rfl rfl (k_in (by decide)) dX5_pages_62 (fun H locs hP hD hS => ?_)
        have hP : va_P D vwCl (MO cI h0 a l_sv pa pn sn kp pd ln (upd so (0 : Int32).toNatClampNeg r2) po wr lt fr sc tm hd st) H := hP
        have hD : va_D A (MO cI h0 a l_sv pa pn sn kp pd ln (upd so (0 : Int32).toNatClampNeg r2) po wr lt fr sc tm hd st) := hD
        obtain ⟨f13, hf14⟩ : ∃ z : Nat → Int32, z = (upd so (0 : Int32).toNatClampNeg r2) := ⟨_, rfl⟩
        have hP : va_P D vwCl (MO cI h0 a l_sv pa pn sn kp pd ln f13 po wr lt fr sc tm hd st) H := by rw [hf14]; exact hP
        have hD : va_D A (MO cI h0 a l_sv pa pn sn kp pd ln f13 po wr lt fr sc tm hd st) := by rw [hf14]; exact hD
        have hq := kb_to hq hf14
        refine lv_aload_n hx hb dX5_pages_63 rfl (lv_at hl 2 rfl) ?_
        refine va_get (D := D) (ci := 5) (v := .ref (a 4)) (C := RX5) (T := TX5) (N := 16) hx hb hts inA5 hown hK hP 0 rfl rfl 7 (by decide) (hts _ wd_fl_RX5_22) (fun _ h9 => h9) rfl dX5_pages_64 ?_
        refine lv_iconst (v := 3) hx hb dX5_pages_67 (by decide) ?_
        refine lv_iload_n hx hb dX5_pages_68 rfl (lv_at hl 1 rfl) ?_
        refine va_iast hx hb hK hP hD hS 5 0 rfl rfl (k_in (by decide)) dX5_pages_69 (fun H locs hP hD hS => ?_)
        have hP : va_P D vwCl (MO cI h0 a l_sv pa pn sn kp pd ln (upd f13 (3 : Int32).toNatClampNeg n1) po wr lt fr sc tm hd st) H := hP
        have hD : va_D A (MO cI h0 a l_sv pa pn sn kp pd ln (upd f13 (3 : Int32).toNatClampNeg n1) po wr lt fr sc tm hd st) := hD
        obtain ⟨f15, hf16⟩ : ∃ z : Nat → Int32, z = (upd f13 (3 : Int32).toNatClampNeg n1) := ⟨_, rfl⟩
        have hP : va_P D vwCl (MO cI h0 a l_sv pa pn sn kp pd ln f15 po wr lt fr sc tm hd st) H := by rw [hf16]; exact hP
        have hD : va_D A (MO cI h0 a l_sv pa pn sn kp pd ln f15 po wr lt fr sc tm hd st) := by rw [hf16]; exact hD
        have hq := kb_to hq hf16
        refine lv_iload_n hx hb dX5_pages_70 rfl (lv_at hl 1 rfl) ?_
        exact hret _ _ _ _ (n1) (l_sv, f15) dX5_pages_71 rfl (hq.symm.trans hX) hP hD hS
      · have hq := it_neg hq c1
        refine lv_iload_n hx hb dX5_pages_12 rfl (lv_at hl 0 rfl) ?_
        refine lv_if_ne (tgt := 56) hx hb dX5_pages_13 (by decide) (fun c17 => ?_) (fun c17 => ?_)
        · have hq := it_neg hq c17
          refine lv_aload_n hx hb dX5_pages_56 rfl (lv_at hl 2 rfl) ?_
          refine va_get (D := D) (ci := 5) (v := .ref (a 4)) (C := RX5) (T := TX5) (N := 16) hx hb hts inA5 hown hK hP 0 rfl rfl 7 (by decide) (hts _ wd_fl_RX5_22) (fun _ h9 => h9) rfl dX5_pages_57 ?_
          refine lv_iconst (v := 0) hx hb dX5_pages_60 (by decide) ?_
          refine lv_iload_n hx hb dX5_pages_61 rfl (lv_at hl 0 rfl) ?_
          refine va_iast hx hb hK hP hD hS 5 0 rfl rfl (k_in (by decide)) dX5_pages_62 (fun H locs hP hD hS => ?_)
          have hP : va_P D vwCl (MO cI h0 a l_sv pa pn sn kp pd ln (upd so (0 : Int32).toNatClampNeg r2) po wr lt fr sc tm hd st) H := hP
          have hD : va_D A (MO cI h0 a l_sv pa pn sn kp pd ln (upd so (0 : Int32).toNatClampNeg r2) po wr lt fr sc tm hd st) := hD
          obtain ⟨f28, hf29⟩ : ∃ z : Nat → Int32, z = (upd so (0 : Int32).toNatClampNeg r2) := ⟨_, rfl⟩
          have hP : va_P D vwCl (MO cI h0 a l_sv pa pn sn kp pd ln f28 po wr lt fr sc tm hd st) H := by rw [hf29]; exact hP
          have hD : va_D A (MO cI h0 a l_sv pa pn sn kp pd ln f28 po wr lt fr sc tm hd st) := by rw [hf29]; exact hD
          have hq := kb_to hq hf29
          refine lv_aload_n hx hb dX5_pages_63 rfl (lv_at hl 2 rfl) ?_
          refine va_get (D := D) (ci := 5) (v := .ref (a 4)) (C := RX5) (T := TX5) (N := 16) hx hb hts inA5 hown hK hP 0 rfl rfl 7 (by decide) (hts _ wd_fl_RX5_22) (fun _ h9 => h9) rfl dX5_pages_64 ?_
          refine lv_iconst (v := 3) hx hb dX5_pages_67 (by decide) ?_
          refine lv_iload_n hx hb dX5_pages_68 rfl (lv_at hl 1 rfl) ?_
          refine va_iast hx hb hK hP hD hS 5 0 rfl rfl (k_in (by decide)) dX5_pages_69 (fun H locs hP hD hS => ?_)
          have hP : va_P D vwCl (MO cI h0 a l_sv pa pn sn kp pd ln (upd f28 (3 : Int32).toNatClampNeg n1) po wr lt fr sc tm hd st) H := hP
          have hD : va_D A (MO cI h0 a l_sv pa pn sn kp pd ln (upd f28 (3 : Int32).toNatClampNeg n1) po wr lt fr sc tm hd st) := hD
          obtain ⟨f30, hf31⟩ : ∃ z : Nat → Int32, z = (upd f28 (3 : Int32).toNatClampNeg n1) := ⟨_, rfl⟩
          have hP : va_P D vwCl (MO cI h0 a l_sv pa pn sn kp pd ln f30 po wr lt fr sc tm hd st) H := by rw [hf31]; exact hP
          have hD : va_D A (MO cI h0 a l_sv pa pn sn kp pd ln f30 po wr lt fr sc tm hd st) := by rw [hf31]; exact hD
          have hq := kb_to hq hf31
          refine lv_iload_n hx hb dX5_pages_70 rfl (lv_at hl 1 rfl) ?_
          exact hret _ _ _ _ (n1) (l_sv, f30) dX5_pages_71 rfl (hq.symm.trans hX) hP hD hS
        · have hq := it_pos hq c17
          refine lv_aload_n hx hb dX5_pages_16 rfl (lv_at hl 2 rfl) ?_
          refine lv_aload_n hx hb dX5_pages_17 rfl (lv_at hl 2 rfl) ?_
          refine va_get (D := D) (ci := 5) (v := .int fr) (C := RX5) (T := TX5) (N := 16) hx hb hts inA5 hown hK hP 0 rfl rfl 11 (by decide) (hts _ wd_fl_RX5_105) (fun _ h9 => h9) rfl dX5_pages_18 ?_
          refine lv_aload_n hx hb dX5_pages_21 rfl (lv_at hl 2 rfl) ?_
          refine va_get (D := D) (ci := 5) (v := .int sc) (C := RX5) (T := TX5) (N := 16) hx hb hts inA5 hown hK hP 0 rfl rfl 12 (by decide) (hts _ wd_fl_RX5_115) (fun _ h9 => h9) rfl dX5_pages_22 ?_
          have hPs := k_self hP
          have hDs := k_selfD hD
          refine k_behi (X := []) (Y := []) (va_runV (As := [.int fr, .int sc]) (rest := []) ⟨hx, hb, hml, hown, hts⟩ (c_X5_prints l D cI cC cQ H.size h0 a l_sv pa pn sn kp pd ln so po wr lt fr sc tm hd st fr sc (hfr) (hiv1)) (kcwV hts wd_ml_RX5_58 wd_im_yX5_prints wd_sel_yX5_prints wd_ini_RX5 wd_code_yX5_prints rfl rfl rfl hd_X5_prints ⟨Nat.le_of_ble_eq_true rfl, Nat.le_of_ble_eq_true rfl⟩) ⟨in_blind, va_recv hK (pa_l (pa_r hPs)) (ci := 5) (q0 := 0) rfl rfl, k_pre hK (pa_l (pa_r hPs)) (da_l (da_r hDs)) hN⟩ rfl rfl hl.1 rfl (lv_room (Nat.le_of_ble_eq_true rfl)) dX5_pages_25 ⟨Nat.le_of_ble_eq_true rfl, Nat.le_of_ble_eq_true rfl⟩) hPs hDs hS hA (fun r32 u33 H locs hw34 hP hD hS => ?_)
          obtain ⟨f35, rfl⟩ : ∃ z, z = u33 := ⟨_, rfl⟩
          have hP := k_unP hP
          have hD := k_unD hD
          have hP : va_P D vwCl (MO cI h0 a f35 pa pn sn kp pd ln so po wr lt fr sc tm hd st) H := hP
          have hD : va_D A (MO cI h0 a f35 pa pn sn kp pd ln so po wr lt fr sc tm hd st) := hD
          have hw34 : (r32, f35) = (sh_X5_prints l_sv fr sc) := hw34
          have hq := kb_to hq hw34
          refine lv_istore_n (lv' := [(3, .int r32), (2, .int r2), (1, .int n1), (0, .ref h0)]) hx hb dX5_pages_28 rfl hl (by decide) rfl (fun ls hl => ?_)
          refine lv_iload_n hx hb dX5_pages_29 rfl (lv_at hl 0 rfl) ?_
          refine lv_bipush (v := 10) hx hb dX5_pages_30 (by decide) ?_
          have K : ∀ (v38 : Int32) (H : Heap) (locs : List Loc) (ls : Array Slot), v38 = (if 10 ≤ r32 then 0 else r32) → va_P D vwCl (MO cI h0 a f35 pa pn sn kp pd ln so po wr lt fr sc tm hd st) H → va_D A (MO cI h0 a f35 pa pn sn kp pd ln so po wr lt fr sc tm hd st) → va_S A s.heap H locs → lv_has ls 4 [(0, .ref h0), (1, .int n1), (2, .int r2), (3, .int r32)] → W p l e rm_X5_pages s m args below meth c H locs 0 0 Q (F0 m 40 ls [.int v38]) := by
            intro v38 H locs ls hv37 hP hD hS hl
            have hq := kb_to hq hv37
            refine lv_istore_n (lv' := [(2, .int v38), (0, .ref h0), (1, .int n1), (3, .int r32)]) hx hb dX5_pages_40 rfl hl (by decide) rfl (fun ls hl => ?_)
            refine lv_iload_n hx hb dX5_pages_41 rfl (lv_at hl 2 rfl) ?_
            refine lv_iload_n hx hb dX5_pages_42 rfl (lv_at hl 0 rfl) ?_
            have K : ∀ (v41 : Int32) (H : Heap) (locs : List Loc) (ls : Array Slot), v41 = (if v38 = 0 then 1 else 0) → va_P D vwCl (MO cI h0 a f35 pa pn sn kp pd ln so po wr lt fr sc tm hd st) H → va_D A (MO cI h0 a f35 pa pn sn kp pd ln so po wr lt fr sc tm hd st) → va_S A s.heap H locs → lv_has ls 4 [(0, .ref h0), (1, .int n1), (2, .int v38), (3, .int r32)] → W p l e rm_X5_pages s m args below meth c H locs 0 0 Q (F0 m 51 ls [.int v41, .int n1]) := by
              intro v41 H locs ls hv40 hP hD hS hl
              have hq := kb_to hq hv40
              refine lv_iadd hx hb dX5_pages_51 ?_
              refine lv_istore_n (lv' := [(1, .int (n1 + v41)), (0, .ref h0), (2, .int v38), (3, .int r32)]) hx hb dX5_pages_52 rfl hl (by decide) rfl (fun ls hl => ?_)
              refine lv_goto (tgt := 4) hx hb dX5_pages_53 (by decide) ?_
              exact ih ((n1 + v41)) (v38) (f35) _ _ _ (pages_mu hmu c1 c17 hv40) ((snd_iv (iv_prints hiv1 hfr hdots) hw34)) hq hP hD hS (lv_sub hl [2, 0, 1] rfl)
            refine lv_if_ne (tgt := 50) hx hb dX5_pages_43 (by decide) (fun c39 => ?_) (fun c39 => ?_)
            · skip
              refine lv_iconst (v := 0) hx hb dX5_pages_50 (by decide) ?_
              exact K (0) _ _ _ (by rw [if_neg c39]) hP hD hS (lv_sub hl [1, 2, 0, 3] rfl)
            · skip
              refine lv_iconst (v := 1) hx hb dX5_pages_46 (by decide) ?_
              refine lv_goto (tgt := 51) hx hb dX5_pages_47 (by decide) ?_
              exact K (1) _ _ _ (by rw [if_pos c39]) hP hD hS (lv_sub hl [1, 2, 0, 3] rfl)
          refine lv_icmp_ge (tgt := 39) hx hb dX5_pages_32 (by decide) (fun c36 => ?_) (fun c36 => ?_)
          · skip
            refine lv_iconst (v := 0) hx hb dX5_pages_39 (by decide) ?_
            exact K (0) _ _ _ (by rw [if_pos c36]) hP hD hS (lv_sub hl [3, 2, 1, 0] rfl)
          · skip
            refine lv_iload_n hx hb dX5_pages_35 rfl (lv_at hl 0 rfl) ?_
            refine lv_goto (tgt := 40) hx hb dX5_pages_36 (by decide) ?_
            exact K (r32) _ _ _ (by rw [if_neg c36]) hP hD hS (lv_sub hl [3, 2, 1, 0] rfl)
  exact L4 (((tm.toInt - (0 : Int32).toInt).toNat + (if (0 : Int32) = 0 then 1 else 0)) + 1) (0) (0) (sv) _ _ _ (Nat.lt_succ_self _) (hiv) hq hP hD hS (lv_sub hl [0, 1, 2] rfl)
