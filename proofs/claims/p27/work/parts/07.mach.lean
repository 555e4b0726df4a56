def sh_X1_tonerFor (ki : Nat → Int32) (x1 : Int32) (x2 : Int32) (x3 : Int32) : Int32 := (if (ki x1.toNatClampNeg) = 1 then (((x2 * x3) * 3) / 4) else (if (ki x1.toNatClampNeg) = 2 then (((x2 * x3) * 9) / 8) else (x2 * x3)))
abbrev rm_X1_tonerFor : Room := { frames := 0, cells := 0, slots := 0, locals := 0 }
theorem hd_X1_tonerFor : hdT yX1_tonerFor 3 := by decide +kernel
set_option maxHeartbeats 40000000 in
set_option maxRecDepth 100000 in
theorem c_X1_tonerFor (l : Launch) (D : va_G) (cI cC cQ : ClassId) (sz : Nat) (h0 : Nat) (a : Nat → Nat) (se : Nat → Int32) (ki : Nat → Int32) (ha : Nat → Int32) (sl : Nat → Int32) (ch : Nat → Int32) (ci : Nat → Int32) (dk : Nat → Int32) (li : Nat → Int32) (re : Nat → Int32) (dt : Nat → Int32) (la : Nat → Int32) (us : Int32) (sp : Int32) (rf : Int32) (x1 : Int32) (x2 : Int32) (x3 : Int32) (hi_x1 : vp_in x1 4) : Met l yX1_tonerFor (wsO yX1_tonerFor cX1_tonerFor 5 (some .int)) rm_X1_tonerFor (va_Pc [.ref h0, .int x1, .int x2, .int x3] (inW D (TYS cI cC cQ) (MW cI h0 a se ki ha sl ch ci dk li re dt la us sp rf) sz)) (va_Qi (fun (r : Int32) (_ : Unit) => r = sh_X1_tonerFor ki x1 x2 x3) (fun (u : Unit) => atW D (TYS cI cC cQ) (va_A (MW cI h0 a se ki ha sl ch ci dk li re dt la us sp rf) sz) (MW cI h0 a se ki ha sl ch ci dk li re dt la us sp rf)) (va_A (MW cI h0 a se ki ha sl ch ci dk li re dt la us sp rf) sz)) 0 0 (va_A (MW cI h0 a se ki ha sl ch ci dk li re dt la us sp rf) sz) := by
  refine k_meti .int rfl (by decide) (Nat.le_of_ble_eq_true rfl) ?_
  intro p e s m args below meth c A ls Q H locs hargs hret hx hb hts hown hml hname hN hA hS hP hK hD hl
  have hl : lv_has ls 5 [(0, .ref h0), (1, .int x1), (2, .int x2), (3, .int x3)] := hl
  obtain ⟨Xq, hX⟩ : ∃ Xq, Xq = sh_X1_tonerFor ki x1 x2 x3 := ⟨_, rfl⟩
  have hq : Xq = (if (ki x1.toNatClampNeg) = 1 then (((x2 * x3) * 3) / 4) else (if (ki x1.toNatClampNeg) = 2 then (((x2 * x3) * 9) / 8) else (x2 * x3))) := hX
  refine lv_iload_n hx hb dX1_tonerFor_0 rfl (lv_at hl 2 rfl) ?_
  refine lv_iload_n hx hb dX1_tonerFor_1 rfl (lv_at hl 3 rfl) ?_
  refine lv_imul hx hb dX1_tonerFor_2 ?_
  refine lv_istore (lv' := [(4, .int (x2 * x3)), (0, .ref h0), (1, .int x1), (2, .int x2), (3, .int x3)]) hx hb dX1_tonerFor_3 hl (by decide) rfl (fun ls hl => ?_)
  refine lv_aload_n hx hb dX1_tonerFor_5 rfl (lv_at hl 1 rfl) ?_
  refine va_get (D := D) (ci := 1) (v := .ref (a 1)) (C := RX1) (T := TX1) (N := 14) hx hb hts inA1 hown hK hP 0 rfl rfl 1 (by decide) (hts _ wd_fl_RX1_15) (fun _ h9 => h9) rfl dX1_tonerFor_6 ?_
  refine lv_iload_n hx hb dX1_tonerFor_9 rfl (lv_at hl 2 rfl) ?_
  refine va_iald hx hb hK hP 2 0 rfl rfl hi_x1 dX1_tonerFor_10 ?_
  by_cases c1 : (ki x1.toNatClampNeg) = 1
  · have hq := it_pos hq c1
    refine lv_lookup (tgt := 36) hx hb dX1_tonerFor_11 (by decide) (by rw [c1] <;> rfl) (by decide) ?_
    refine lv_iload hx hb dX1_tonerFor_36 (lv_at hl 0 rfl) ?_
    refine lv_iconst (v := 3) hx hb dX1_tonerFor_38 (by decide) ?_
    refine lv_imul hx hb dX1_tonerFor_39 ?_
    refine lv_iconst (v := 4) hx hb dX1_tonerFor_40 (by decide) ?_
    refine lv_idiv hx hb dX1_tonerFor_41 (by decide) ?_
    exact hret _ _ _ _ ((((x2 * x3) * 3) / 4)) () dX1_tonerFor_42 rfl (hq.symm.trans hX) hP hD hS
  have hq := it_neg hq c1
  by_cases c2 : (ki x1.toNatClampNeg) = 2
  · have hq := it_pos hq c2
    refine lv_lookup (tgt := 43) hx hb dX1_tonerFor_11 (by decide) (by rw [c2] <;> rfl) (by decide) ?_
    refine lv_iload hx hb dX1_tonerFor_43 (lv_at hl 0 rfl) ?_
    refine lv_bipush (v := 9) hx hb dX1_tonerFor_45 (by decide) ?_
    refine lv_imul hx hb dX1_tonerFor_47 ?_
    refine lv_bipush (v := 8) hx hb dX1_tonerFor_48 (by decide) ?_
    refine lv_idiv hx hb dX1_tonerFor_50 (by decide) ?_
    exact hret _ _ _ _ ((((x2 * x3) * 9) / 8)) () dX1_tonerFor_51 rfl (hq.symm.trans hX) hP hD hS
  have hq := it_neg hq c2
  refine lv_lookup (tgt := 52) hx hb dX1_tonerFor_11 (by decide) (k_lk2 c1 c2) (by decide) ?_
  refine lv_iload hx hb dX1_tonerFor_52 (lv_at hl 0 rfl) ?_
  exact hret _ _ _ _ ((x2 * x3)) () dX1_tonerFor_54 rfl (hq.symm.trans hX) hP hD hS
def sh_X1_chipFor (ki : Nat → Int32) (x1 : Int32) (x2 : Int32) (x3 : Int32) : Int32 := (kb (α := (Int32)) (if (ki x1.toNatClampNeg) = 2 then (x2 * x3) else (sh_X1_tonerFor ki x1 x2 x3)) (fun z_v6 => z_v6))
abbrev rm_X1_chipFor : Room := { frames := 1, cells := 0, slots := 0, locals := 24 }
theorem hd_X1_chipFor : hdT yX1_chipFor 3 := by decide +kernel
set_option maxHeartbeats 40000000 in
set_option maxRecDepth 100000 in
theorem c_X1_chipFor (l : Launch) (D : va_G) (cI cC cQ : ClassId) (sz : Nat) (h0 : Nat) (a : Nat → Nat) (se : Nat → Int32) (ki : Nat → Int32) (ha : Nat → Int32) (sl : Nat → Int32) (ch : Nat → Int32) (ci : Nat → Int32) (dk : Nat → Int32) (li : Nat → Int32) (re : Nat → Int32) (dt : Nat → Int32) (la : Nat → Int32) (us : Int32) (sp : Int32) (rf : Int32) (x1 : Int32) (x2 : Int32) (x3 : Int32) (hi_x1 : vp_in x1 4) : Met l yX1_chipFor (wsO yX1_chipFor cX1_chipFor 4 (some .int)) rm_X1_chipFor (va_Pc [.ref h0, .int x1, .int x2, .int x3] (inW D (TYS cI cC cQ) (MW cI h0 a se ki ha sl ch ci dk li re dt la us sp rf) sz)) (va_Qi (fun (r : Int32) (_ : Unit) => r = sh_X1_chipFor ki x1 x2 x3) (fun (u : Unit) => atW D (TYS cI cC cQ) (va_A (MW cI h0 a se ki ha sl ch ci dk li re dt la us sp rf) sz) (MW cI h0 a se ki ha sl ch ci dk li re dt la us sp rf)) (va_A (MW cI h0 a se ki ha sl ch ci dk li re dt la us sp rf) sz)) 0 0 (va_A (MW cI h0 a se ki ha sl ch ci dk li re dt la us sp rf) sz) := by
  refine k_meti .int rfl (by decide) (Nat.le_of_ble_eq_true rfl) ?_
  intro p e s m args below meth c A ls Q H locs hargs hret hx hb hts hown hml hname hN hA hS hP hK hD hl
  have hl : lv_has ls 4 [(0, .ref h0), (1, .int x1), (2, .int x2), (3, .int x3)] := hl
  obtain ⟨Xq, hX⟩ : ∃ Xq, Xq = sh_X1_chipFor ki x1 x2 x3 := ⟨_, rfl⟩
  have hq : Xq = (kb (α := (Int32)) (if (ki x1.toNatClampNeg) = 2 then (x2 * x3) else (sh_X1_tonerFor ki x1 x2 x3)) (fun z_v6 => z_v6)) := hX
  refine lv_aload_n hx hb dX1_chipFor_0 rfl (lv_at hl 0 rfl) ?_
  refine va_get (D := D) (ci := 1) (v := .ref (a 1)) (C := RX1) (T := TX1) (N := 14) hx hb hts inA1 hown hK hP 0 rfl rfl 1 (by decide) (hts _ wd_fl_RX1_15) (fun _ h9 => h9) rfl dX1_chipFor_1 ?_
  refine lv_iload_n hx hb dX1_chipFor_4 rfl (lv_at hl 1 rfl) ?_
  refine va_iald hx hb hK hP 2 0 rfl rfl hi_x1 dX1_chipFor_5 ?_
  refine lv_iconst (v := 2) hx hb dX1_chipFor_6 (by decide) ?_
  have K : ∀ (v6 : Int32) (H : Heap) (locs : List Loc) (ls : Array Slot), v6 = (if (ki x1.toNatClampNeg) = 2 then (x2 * x3) else (sh_X1_tonerFor ki x1 x2 x3)) → va_P D vwCl (MW cI h0 a se ki ha sl ch ci dk li re dt la us sp rf) H → va_D A (MW cI h0 a se ki ha sl ch ci dk li re dt la us sp rf) → va_S A s.heap H locs → lv_has ls 4 [(0, .ref h0), (1, .int x1), (2, .int x2), (3, .int x3)] → W p l e rm_X1_chipFor s m args below meth c H locs 0 0 Q (F0 m 23 ls [.int v6]) := by
    intro v6 H locs ls hv5 hP hD hS hl
    have hq := kb_to hq hv5
    exact hret _ _ _ _ (v6) () dX1_chipFor_23 rfl (hq.symm.trans hX) hP hD hS
  refine lv_icmp_ne (tgt := 16) hx hb dX1_chipFor_7 (by decide) (fun c1 => ?_) (fun c1 => ?_)
  · skip
    refine lv_aload_n hx hb dX1_chipFor_16 rfl (lv_at hl 0 rfl) ?_
    refine lv_iload_n hx hb dX1_chipFor_17 rfl (lv_at hl 1 rfl) ?_
    refine lv_iload_n hx hb dX1_chipFor_18 rfl (lv_at hl 2 rfl) ?_
    refine lv_iload_n hx hb dX1_chipFor_19 rfl (lv_at hl 3 rfl) ?_
    have hPs := k_self hP
    have hDs := k_selfD hD
    refine k_behi (X := []) (Y := []) (va_runV (As := [.int x1, .int x2, .int x3]) (rest := []) ⟨hx, hb, hml, hown, hts⟩ (c_X1_tonerFor l D cI cC cQ H.size h0 a se ki ha sl ch ci dk li re dt la us sp rf x1 x2 x3 (hi_x1)) (kcwV hts wd_ml_RX1_61 wd_im_yX1_tonerFor wd_sel_yX1_tonerFor wd_ini_RX1 wd_code_yX1_tonerFor rfl rfl rfl hd_X1_tonerFor ⟨Nat.le_of_ble_eq_true rfl, Nat.le_of_ble_eq_true rfl⟩) ⟨in_blind, va_recv hK (pa_l (pa_r hPs)) (ci := 1) (q0 := 0) rfl rfl, k_pre hK (pa_l (pa_r hPs)) (da_l (da_r hDs)) hN⟩ rfl rfl hl.1 rfl (lv_room (Nat.le_of_ble_eq_true rfl)) dX1_chipFor_20 ⟨Nat.le_of_ble_eq_true rfl, Nat.le_of_ble_eq_true rfl⟩) hPs hDs hS hA (fun r2 u3 H locs hw4 hP hD hS => ?_)
    have hP := k_unP hP
    have hD := k_unD hD
    have hP : va_P D vwCl (MW cI h0 a se ki ha sl ch ci dk li re dt la us sp rf) H := hP
    have hD : va_D A (MW cI h0 a se ki ha sl ch ci dk li re dt la us sp rf) := hD
    have hw4 : r2 = (sh_X1_tonerFor ki x1 x2 x3) := hw4
    subst hw4
    exact K ((sh_X1_tonerFor ki x1 x2 x3)) _ _ _ (by rw [if_neg c1]) hP hD hS (lv_sub hl [0, 1, 2, 3] rfl)
  · skip
    refine lv_iload_n hx hb dX1_chipFor_10 rfl (lv_at hl 2 rfl) ?_
    refine lv_iload_n hx hb dX1_chipFor_11 rfl (lv_at hl 3 rfl) ?_
    refine lv_imul hx hb dX1_chipFor_12 ?_
    refine lv_goto (tgt := 23) hx hb dX1_chipFor_13 (by decide) ?_
    exact K ((x2 * x3)) _ _ _ (by rw [if_pos c1]) hP hD hS (lv_sub hl [0, 1, 2, 3] rfl)
def sh_X1_refusal (se : Nat → Int32) (ha : Nat → Int32) (ch : Nat → Int32) (x1 : Int32) : Int32 := (if (sh_X4_isCup x1) = 0 then (1 : Int32) else (if (ch x1.toNatClampNeg) = 0 then (if (se (2 : Int32).toNatClampNeg) = 1 then (2 : Int32) else (if (ha x1.toNatClampNeg) = 0 then (3 : Int32) else (0 : Int32))) else (if (ha x1.toNatClampNeg) = 0 then (3 : Int32) else (0 : Int32))))
abbrev rm_X1_refusal : Room := { frames := 1, cells := 0, slots := 0, locals := 20 }
theorem hd_X1_refusal : hdT yX1_refusal 1 := by decide +kernel
set_option maxHeartbeats 40000000 in
set_option maxRecDepth 100000 in
theorem c_X1_refusal (l : Launch) (D : va_G) (cI cC cQ : ClassId) (sz : Nat) (h0 : Nat) (a : Nat → Nat) (se : Nat → Int32) (ki : Nat → Int32) (ha : Nat → Int32) (sl : Nat → Int32) (ch : Nat → Int32) (ci : Nat → Int32) (dk : Nat → Int32) (li : Nat → Int32) (re : Nat → Int32) (dt : Nat → Int32) (la : Nat → Int32) (us : Int32) (sp : Int32) (rf : Int32) (x1 : Int32)  : Met l yX1_refusal (wsO yX1_refusal cX1_refusal 2 (some .int)) rm_X1_refusal (va_Pc [.ref h0, .int x1] (inW D (TYS cI cC cQ) (MW cI h0 a se ki ha sl ch ci dk li re dt la us sp rf) sz)) (va_Qi (fun (r : Int32) (_ : Unit) => r = sh_X1_refusal se ha ch x1) (fun (u : Unit) => atW D (TYS cI cC cQ) (va_A (MW cI h0 a se ki ha sl ch ci dk li re dt la us sp rf) sz) (MW cI h0 a se ki ha sl ch ci dk li re dt la us sp rf)) (va_A (MW cI h0 a se ki ha sl ch ci dk li re dt la us sp rf) sz)) 0 0 (va_A (MW cI h0 a se ki ha sl ch ci dk li re dt la us sp rf) sz) := by
  refine k_meti .int rfl (by decide) (Nat.le_of_ble_eq_true rfl) ?_
  intro p e s m args below meth c A ls Q H locs hargs hret hx hb hts hown hml hname hN hA hS hP hK hD hl
  have hl : lv_has ls 2 [(0, .ref h0), (1, .int x1)] := hl
  obtain ⟨Xq, hX⟩ : ∃ Xq, Xq = sh_X1_refusal se ha ch x1 := ⟨_, rfl⟩
  have hq : Xq = (if (sh_X4_isCup x1) = 0 then (1 : Int32) else (if (ch x1.toNatClampNeg) = 0 then (if (se (2 : Int32).toNatClampNeg) = 1 then (2 : Int32) else (if (ha x1.toNatClampNeg) = 0 then (3 : Int32) else (0 : Int32))) else (if (ha x1.toNatClampNeg) = 0 then (3 : Int32) else (0 : Int32)))) := hX
  refine lv_iload_n hx hb dX1_refusal_0 rfl (lv_at hl 1 rfl) ?_
  have hPs : va_P D vwCl ([] ++ ([] ++ (MW cI h0 a se ki ha sl ch ci dk li re dt la us sp rf))) H := hP
  have hDs : va_D A ([] ++ ([] ++ (MW cI h0 a se ki ha sl ch ci dk li re dt la us sp rf))) := hD
  refine k_behi (X := []) (Y := (MW cI h0 a se ki ha sl ch ci dk li re dt la us sp rf)) (va_runSN (As := [.int x1]) (rest := []) ⟨hx, hb, hml, hown, hts⟩ (c_X4_isCup l D cI cC cQ H.size x1) ⟨kcnB hts hN wn_nl_RX1_65 wd_ini_RX4 wd_code_yX4_isCup rfl rfl hd_X4_isCup ⟨Nat.le_of_ble_eq_true rfl, Nat.le_of_ble_eq_true rfl⟩, hts _ wd_st_yX4_isCup, trivial⟩ ⟨in_blind, k_pre hK (pa_l (pa_r hPs)) (da_l (da_r hDs)) hN⟩ rfl rfl hl.1 rfl (lv_room (Nat.le_of_ble_eq_true rfl)) dX1_refusal_1 ⟨Nat.le_of_ble_eq_true rfl, Nat.le_of_ble_eq_true rfl⟩) hPs hDs hS hA (fun r1 u2 H locs hw3 hP hD hS => ?_)
  have hP : va_P D vwCl (MW cI h0 a se ki ha sl ch ci dk li re dt la us sp rf) H := hP
  have hD : va_D A (MW cI h0 a se ki ha sl ch ci dk li re dt la us sp rf) := hD
  have hw3 : r1 = (sh_X4_isCup x1) := hw3
  subst hw3
  refine lv_if_ne (tgt := 9) hx hb dX1_refusal_4 (by decide) (fun c4 => ?_) (fun c4 => ?_)
  · have hq := it_neg hq c4
    refine lv_aload_n hx hb dX1_refusal_9 rfl (lv_at hl 0 rfl) ?_
    refine va_get (D := D) (ci := 1) (v := .ref (a 4)) (C := RX1) (T := TX1) (N := 14) hx hb hts inA1 hown hK hP 0 rfl rfl 4 (by decide) (hts _ wd_fl_RX1_24) (fun _ h9 => h9) rfl dX1_refusal_10 ?_
    refine lv_iload_n hx hb dX1_refusal_13 rfl (lv_at hl 1 rfl) ?_
    refine va_iald hx hb hK hP 5 0 rfl rfl (isIn4 c4) dX1_refusal_14 ?_
    refine lv_if_ne (tgt := 30) hx hb dX1_refusal_15 (by decide) (fun c5 => ?_) (fun c5 => ?_)
    · have hq := it_neg hq c5
      refine lv_aload_n hx hb dX1_refusal_30 rfl (lv_at hl 0 rfl) ?_
      refine va_get (D := D) (ci := 1) (v := .ref (a 2)) (C := RX1) (T := TX1) (N := 14) hx hb hts inA1 hown hK hP 0 rfl rfl 2 (by decide) (hts _ wd_fl_RX1_18) (fun _ h9 => h9) rfl dX1_refusal_31 ?_
      refine lv_iload_n hx hb dX1_refusal_34 rfl (lv_at hl 1 rfl) ?_
      refine va_iald hx hb hK hP 3 0 rfl rfl (isIn4 c4) dX1_refusal_35 ?_
      refine lv_if_ne (tgt := 43) hx hb dX1_refusal_36 (by decide) (fun c6 => ?_) (fun c6 => ?_)
      · have hq := it_neg hq c6
        refine lv_iconst (v := 0) hx hb dX1_refusal_43 (by decide) ?_
        exact hret _ _ _ _ (0) () dX1_refusal_44 rfl (hq.symm.trans hX) hP hD hS
      · have hq := it_pos hq c6
        refine lv_iconst (v := 3) hx hb dX1_refusal_39 (by decide) ?_
        refine lv_goto (tgt := 44) hx hb dX1_refusal_40 (by decide) ?_
        exact hret _ _ _ _ (3) () dX1_refusal_44 rfl (hq.symm.trans hX) hP hD hS
    · have hq := it_pos hq c5
      refine lv_aload_n hx hb dX1_refusal_18 rfl (lv_at hl 0 rfl) ?_
      refine va_get (D := D) (ci := 1) (v := .ref (a 0)) (C := RX1) (T := TX1) (N := 14) hx hb hts inA1 hown hK hP 0 rfl rfl 0 (by decide) (hts _ wd_fl_RX1_9) (fun _ h9 => h9) rfl dX1_refusal_19 ?_
      refine lv_iconst (v := 2) hx hb dX1_refusal_22 (by decide) ?_
      refine va_iald hx hb hK hP 1 0 rfl rfl (k_in (by decide)) dX1_refusal_23 ?_
      refine lv_iconst (v := 1) hx hb dX1_refusal_24 (by decide) ?_
      refine lv_icmp_ne (tgt := 30) hx hb dX1_refusal_25 (by decide) (fun c7 => ?_) (fun c7 => ?_)
      · have hq := it_neg hq c7
        refine lv_aload_n hx hb dX1_refusal_30 rfl (lv_at hl 0 rfl) ?_
        refine va_get (D := D) (ci := 1) (v := .ref (a 2)) (C := RX1) (T := TX1) (N := 14) hx hb hts inA1 hown hK hP 0 rfl rfl 2 (by decide) (hts _ wd_fl_RX1_18) (fun _ h9 => h9) rfl dX1_refusal_31 ?_
        refine lv_iload_n hx hb dX1_refusal_34 rfl (lv_at hl 1 rfl) ?_
        refine va_iald hx hb hK hP 3 0 rfl rfl (isIn4 c4) dX1_refusal_35 ?_
        refine lv_if_ne (tgt := 43) hx hb dX1_refusal_36 (by decide) (fun c8 => ?_) (fun c8 => ?_)
        · have hq := it_neg hq c8
          refine lv_iconst (v := 0) hx hb dX1_refusal_43 (by decide) ?_
          exact hret _ _ _ _ (0) () dX1_refusal_44 rfl (hq.symm.trans hX) hP hD hS
        · have hq := it_pos hq c8
          refine lv_iconst (v := 3) hx hb dX1_refusal_39 (by decide) ?_
          refine lv_goto (tgt := 44) hx hb dX1_refusal_40 (by decide) ?_
          exact hret _ _ _ _ (3) () dX1_refusal_44 rfl (hq.symm.trans hX) hP hD hS
      · have hq := it_pos hq c7
        refine lv_iconst (v := 2) hx hb dX1_refusal_28 (by decide) ?_
        exact hret _ _ _ _ (2) () dX1_refusal_29 rfl (hq.symm.trans hX) hP hD hS
  · have hq := it_pos hq c4
    refine lv_iconst (v := 1) hx hb dX1_refusal_7 (by decide) ?_
    exact hret _ _ _ _ (1) () dX1_refusal_8 rfl (hq.symm.trans hX) hP hD hS
theorem refIn {se ha ch : Nat → Int32} {x : Int32} (h : sh_X1_refusal se ha ch x = 0) : vp_in x 4 := by
  unfold sh_X1_refusal at h
  split at h
  · exact absurd h (by decide)
  · exact isIn4 (by assumption)
def sh_X1_useToner (ha : Nat → Int32) (us : Int32) (x1 : Int32) (x2 : Int32) : Int32 × (Nat → Int32) × (Int32) := (kb (α := (Int32)) (if x2 ≤ (ha x1.toNatClampNeg) then x2 else (ha x1.toNatClampNeg)) (fun z_v3 => (kb (α := (Int32)) (if z_v3 = x2 then 100 else (sh_X4_share (z_v3 * 100) x2)) (fun z_v9 => (z_v9, (upd ha x1.toNatClampNeg ((ha x1.toNatClampNeg) - z_v3)), (us + z_v3))))))
abbrev rm_X1_useToner : Room := { frames := 1, cells := 0, slots := 0, locals := 21 }
theorem hd_X1_useToner : hdT yX1_useToner 2 := by decide +kernel
set_option maxHeartbeats 40000000 in
set_option maxRecDepth 100000 in
theorem c_X1_useToner (l : Launch) (D : va_G) (cI cC cQ : ClassId) (sz : Nat) (h0 : Nat) (a : Nat → Nat) (se : Nat → Int32) (ki : Nat → Int32) (ha : Nat → Int32) (sl : Nat → Int32) (ch : Nat → Int32) (ci : Nat → Int32) (dk : Nat → Int32) (li : Nat → Int32) (re : Nat → Int32) (dt : Nat → Int32) (la : Nat → Int32) (us : Int32) (sp : Int32) (rf : Int32) (x1 : Int32) (x2 : Int32) (hi_x1 : vp_in x1 4) : Met l yX1_useToner (wsO yX1_useToner cX1_useToner 4 (some .int)) rm_X1_useToner (va_Pc [.ref h0, .int x1, .int x2] (inW D (TYS cI cC cQ) (MW cI h0 a se ki ha sl ch ci dk li re dt la us sp rf) sz)) (va_Qi (fun (r : Int32) (u : (Nat → Int32) × (Int32)) => (r, u) = sh_X1_useToner ha us x1 x2) (fun (u : (Nat → Int32) × (Int32)) => atW D (TYS cI cC cQ) (va_A (MW cI h0 a se ki ha sl ch ci dk li re dt la us sp rf) sz) (MW cI h0 a se ki u.1 sl ch ci dk li re dt la u.2 sp rf)) (va_A (MW cI h0 a se ki ha sl ch ci dk li re dt la us sp rf) sz)) 0 0 (va_A (MW cI h0 a se ki ha sl ch ci dk li re dt la us sp rf) sz) := by
  refine k_meti .int rfl (by decide) (Nat.le_of_ble_eq_true rfl) ?_
  intro p e s m args below meth c A ls Q H locs hargs hret hx hb hts hown hml hname hN hA hS hP hK hD hl
  have hl : lv_has ls 4 [(0, .ref h0), (1, .int x1), (2, .int x2)] := hl
  obtain ⟨Xq, hX⟩ : ∃ Xq, Xq = sh_X1_useToner ha us x1 x2 := ⟨_, rfl⟩
  have hq : Xq = (kb (α := (Int32)) (if x2 ≤ (ha x1.toNatClampNeg) then x2 else (ha x1.toNatClampNeg)) (fun z_v3 => (kb (α := (Int32)) (if z_v3 = x2 then 100 else (sh_X4_share (z_v3 * 100) x2)) (fun z_v9 => (z_v9, (upd ha x1.toNatClampNeg ((ha x1.toNatClampNeg) - z_v3)), (us + z_v3)))))) := hX
  refine lv_aload_n hx hb dX1_useToner_0 rfl (lv_at hl 0 rfl) ?_
  refine va_get (D := D) (ci := 1) (v := .ref (a 2)) (C := RX1) (T := TX1) (N := 14) hx hb hts inA1 hown hK hP 0 rfl rfl 2 (by decide) (hts _ wd_fl_RX1_18) (fun _ h9 => h9) rfl dX1_useToner_1 ?_
  refine lv_iload_n hx hb dX1_useToner_4 rfl (lv_at hl 1 rfl) ?_
  refine va_iald hx hb hK hP 3 0 rfl rfl hi_x1 dX1_useToner_5 ?_
  refine lv_iload_n hx hb dX1_useToner_6 rfl (lv_at hl 2 rfl) ?_
  have K : ∀ (v3 : Int32) (H : Heap) (locs : List Loc) (ls : Array Slot), v3 = (if x2 ≤ (ha x1.toNatClampNeg) then x2 else (ha x1.toNatClampNeg)) → va_P D vwCl (MW cI h0 a se ki ha sl ch ci dk li re dt la us sp rf) H → va_D A (MW cI h0 a se ki ha sl ch ci dk li re dt la us sp rf) → va_S A s.heap H locs → lv_has ls 4 [(0, .ref h0), (1, .int x1), (2, .int x2)] → W p l e rm_X1_useToner s m args below meth c H locs 0 0 Q (F0 m 20 ls [.int v3]) := by
    intro v3 H locs ls hv2 hP hD hS hl
    have hq := kb_to hq hv2
    refine lv_istore_n (lv' := [(3, .int v3), (0, .ref h0), (1, .int x1), (2, .int x2)]) hx hb dX1_useToner_20 rfl hl (by decide) rfl (fun ls hl => ?_)
    refine lv_aload_n hx hb dX1_useToner_21 rfl (lv_at hl 1 rfl) ?_
    refine va_get (D := D) (ci := 1) (v := .ref (a 2)) (C := RX1) (T := TX1) (N := 14) hx hb hts inA1 hown hK hP 0 rfl rfl 2 (by decide) (hts _ wd_fl_RX1_18) (fun _ h9 => h9) rfl dX1_useToner_22 ?_
    refine lv_iload_n hx hb dX1_useToner_25 rfl (lv_at hl 2 rfl) ?_
    refine lv_dup2_11 hx hb dX1_useToner_26 rfl rfl ?_
    refine va_iald hx hb hK hP 3 0 rfl rfl hi_x1 dX1_useToner_27 ?_
    refine lv_iload_n hx hb dX1_useToner_28 rfl (lv_at hl 0 rfl) ?_
    refine lv_isub hx hb dX1_useToner_29 ?_
    refine va_iast hx hb hK hP hD hS 3 0 rfl rfl hi_x1 dX1_useToner_30 (fun H locs hP hD hS => ?_)
    have hP : va_P D vwCl (MW cI h0 a se ki (upd ha x1.toNatClampNeg ((ha x1.toNatClampNeg) - v3)) sl ch ci dk li re dt la us sp rf) H := hP
    have hD : va_D A (MW cI h0 a se ki (upd ha x1.toNatClampNeg ((ha x1.toNatClampNeg) - v3)) sl ch ci dk li re dt la us sp rf) := hD
    refine lv_aload_n hx hb dX1_useToner_31 rfl (lv_at hl 1 rfl) ?_
    refine lv_dup hx hb dX1_useToner_32 rfl ?_
    refine va_get (D := D) (ci := 1) (v := .int us) (C := RX1) (T := TX1) (N := 14) hx hb hts inA1 hown hK hP 0 rfl rfl 11 (by decide) (hts _ wd_fl_RX1_45) (fun _ h9 => h9) rfl dX1_useToner_33 ?_
    refine lv_iload_n hx hb dX1_useToner_36 rfl (lv_at hl 0 rfl) ?_
    refine lv_iadd hx hb dX1_useToner_37 ?_
    refine va_put (D := D) (ci := 1) (v := .int (us + v3)) (ty := .int) (C := RX1) (T := TX1) (N := 14) hx hb hts inA1 tyX1 tyX1_ok nmX1 hown hK hP hD hS 0 rfl rfl 11 (by decide) (hts _ wd_fl_RX1_45) (fun _ h9 => h9) rfl (by decide +kernel) rfl rfl (Nat.le_of_ble_eq_true rfl) dX1_useToner_38 (fun H locs hP hD hS => ?_)
    have hP : va_P D vwCl (MW cI h0 a se ki (upd ha x1.toNatClampNeg ((ha x1.toNatClampNeg) - v3)) sl ch ci dk li re dt la (us + v3) sp rf) H := hP
    have hD : va_D A (MW cI h0 a se ki (upd ha x1.toNatClampNeg ((ha x1.toNatClampNeg) - v3)) sl ch ci dk li re dt la (us + v3) sp rf) := hD
    refine lv_iload_n hx hb dX1_useToner_41 rfl (lv_at hl 0 rfl) ?_
    refine lv_iload_n hx hb dX1_useToner_42 rfl (lv_at hl 3 rfl) ?_
    have K : ∀ (v9 : Int32) (H : Heap) (locs : List Loc) (ls : Array Slot), v9 = (if v3 = x2 then 100 else (sh_X4_share (v3 * 100) x2)) → va_P D vwCl (MW cI h0 a se ki (upd ha x1.toNatClampNeg ((ha x1.toNatClampNeg) - v3)) sl ch ci dk li re dt la (us + v3) sp rf) H → va_D A (MW cI h0 a se ki (upd ha x1.toNatClampNeg ((ha x1.toNatClampNeg) - v3)) sl ch ci dk li re dt la (us + v3) sp rf) → va_S A s.heap H locs → lv_has ls 4 [(0, .ref h0), (1, .int x1), (2, .int x2), (3, .int v3)] → W p l e rm_X1_useToner s m args below meth c H locs 0 0 Q (F0 m 59 ls [.int v9]) := by
      intro v9 H locs ls hv8 hP hD hS hl
      have hq := kb_to hq hv8
      exact hret _ _ _ _ (v9) ((upd ha x1.toNatClampNeg ((ha x1.toNatClampNeg) - v3)), (us + v3)) dX1_useToner_59 rfl (hq.symm.trans hX) hP hD hS
    refine lv_icmp_ne (tgt := 51) hx hb dX1_useToner_43 (by decide) (fun c4 => ?_) (fun c4 => ?_)
    · skip
      refine lv_iload_n hx hb dX1_useToner_51 rfl (lv_at hl 0 rfl) ?_
      refine lv_bipush (v := 100) hx hb dX1_useToner_52 (by decide) ?_
      refine lv_imul hx hb dX1_useToner_54 ?_
      refine lv_iload_n hx hb dX1_useToner_55 rfl (lv_at hl 3 rfl) ?_
      have hPs : va_P D vwCl ([] ++ ([] ++ (MW cI h0 a se ki (upd ha x1.toNatClampNeg ((ha x1.toNatClampNeg) - v3)) sl ch ci dk li re dt la (us + v3) sp rf))) H := hP
      have hDs : va_D A ([] ++ ([] ++ (MW cI h0 a se ki (upd ha x1.toNatClampNeg ((ha x1.toNatClampNeg) - v3)) sl ch ci dk li re dt la (us + v3) sp rf))) := hD
      refine k_behi (X := []) (Y := (MW cI h0 a se ki (upd ha x1.toNatClampNeg ((ha x1.toNatClampNeg) - v3)) sl ch ci dk li re dt la (us + v3) sp rf)) (va_runSN (As := [.int (v3 * 100), .int x2]) (rest := []) ⟨hx, hb, hml, hown, hts⟩ (c_X4_share l D cI cC cQ H.size (v3 * 100) x2) ⟨kcnB hts hN wn_nl_RX1_84 wd_ini_RX4 wd_code_yX4_share rfl rfl hd_X4_share ⟨Nat.le_of_ble_eq_true rfl, Nat.le_of_ble_eq_true rfl⟩, hts _ wd_st_yX4_share, trivial⟩ ⟨in_blind, k_pre hK (pa_l (pa_r hPs)) (da_l (da_r hDs)) hN⟩ rfl rfl hl.1 rfl (lv_room (Nat.le_of_ble_eq_true rfl)) dX1_useToner_56 ⟨Nat.le_of_ble_eq_true rfl, Nat.le_of_ble_eq_true rfl⟩) hPs hDs hS hA (fun r5 u6 H locs hw7 hP hD hS => ?_)
      have hP : va_P D vwCl (MW cI h0 a se ki (upd ha x1.toNatClampNeg ((ha x1.toNatClampNeg) - v3)) sl ch ci dk li re dt la (us + v3) sp rf) H := hP
      have hD : va_D A (MW cI h0 a se ki (upd ha x1.toNatClampNeg ((ha x1.toNatClampNeg) - v3)) sl ch ci dk li re dt la (us + v3) sp rf) := hD
      have hw7 : r5 = (sh_X4_share (v3 * 100) x2) := hw7
      subst hw7
      exact K ((sh_X4_share (v3 * 100) x2)) _ _ _ (by rw [if_neg c4]) hP hD hS (lv_sub hl [1, 2, 3, 0] rfl)
    · skip
      refine lv_bipush (v := 100) hx hb dX1_useToner_46 (by decide) ?_
      refine lv_goto (tgt := 59) hx hb dX1_useToner_48 (by decide) ?_
      exact K (100) _ _ _ (by rw [if_pos c4]) hP hD hS (lv_sub hl [1, 2, 3, 0] rfl)
  refine lv_icmp_ge (tgt := 19) hx hb dX1_useToner_7 (by decide) (fun c1 => ?_) (fun c1 => ?_)
  · skip
    refine lv_iload_n hx hb dX1_useToner_19 rfl (lv_at hl 2 rfl) ?_
    exact K (x2) _ _ _ (by rw [if_pos c1]) hP hD hS (lv_sub hl [0, 1, 2] rfl)
  · skip
    refine lv_aload_n hx hb dX1_useToner_10 rfl (lv_at hl 0 rfl) ?_
    refine va_get (D := D) (ci := 1) (v := .ref (a 2)) (C := RX1) (T := TX1) (N := 14) hx hb hts inA1 hown hK hP 0 rfl rfl 2 (by decide) (hts _ wd_fl_RX1_18) (fun _ h9 => h9) rfl dX1_useToner_11 ?_
    refine lv_iload_n hx hb dX1_useToner_14 rfl (lv_at hl 1 rfl) ?_
    refine va_iald hx hb hK hP 3 0 rfl rfl hi_x1 dX1_useToner_15 ?_
    refine lv_goto (tgt := 20) hx hb dX1_useToner_16 (by decide) ?_
    exact K ((ha x1.toNatClampNeg)) _ _ _ (by rw [if_neg c1]) hP hD hS (lv_sub hl [0, 1, 2] rfl)
def sh_X1_settleToner (se : Nat → Int32) (ha : Nat → Int32) (sl : Nat → Int32) (x1 : Int32) : (Nat → Int32) × (Nat → Int32) := ((upd ha x1.toNatClampNeg ((ha x1.toNatClampNeg) - (sh_X4_share (ha x1.toNatClampNeg) (se (1 : Int32).toNatClampNeg)))), (upd sl x1.toNatClampNeg ((sl x1.toNatClampNeg) + (sh_X4_share (ha x1.toNatClampNeg) (se (1 : Int32).toNatClampNeg)))))
abbrev rm_X1_settleToner : Room := { frames := 1, cells := 0, slots := 0, locals := 21 }
theorem hd_X1_settleToner : hdT yX1_settleToner 1 := by decide +kernel
set_option maxHeartbeats 40000000 in
set_option maxRecDepth 100000 in
theorem c_X1_settleToner (l : Launch) (D : va_G) (cI cC cQ : ClassId) (sz : Nat) (h0 : Nat) (a : Nat → Nat) (se : Nat → Int32) (ki : Nat → Int32) (ha : Nat → Int32) (sl : Nat → Int32) (ch : Nat → Int32) (ci : Nat → Int32) (dk : Nat → Int32) (li : Nat → Int32) (re : Nat → Int32) (dt : Nat → Int32) (la : Nat → Int32) (us : Int32) (sp : Int32) (rf : Int32) (x1 : Int32) (hi_x1 : vp_in x1 4) : Met l yX1_settleToner (wsO yX1_settleToner cX1_settleToner 3 none) rm_X1_settleToner (va_Pc [.ref h0, .int x1] (inW D (TYS cI cC cQ) (MW cI h0 a se ki ha sl ch ci dk li re dt la us sp rf) sz)) (va_Qv (fun (u : (Nat → Int32) × (Nat → Int32)) => u = sh_X1_settleToner se ha sl x1) (fun (u : (Nat → Int32) × (Nat → Int32)) => atW D (TYS cI cC cQ) (va_A (MW cI h0 a se ki ha sl ch ci dk li re dt la us sp rf) sz) (MW cI h0 a se ki u.1 u.2 ch ci dk li re dt la us sp rf)) (va_A (MW cI h0 a se ki ha sl ch ci dk li re dt la us sp rf) sz)) 0 0 (va_A (MW cI h0 a se ki ha sl ch ci dk li re dt la us sp rf) sz) := by
  refine k_metv rfl (by decide) (Nat.le_of_ble_eq_true rfl) ?_
  intro p e s m args below meth c A ls Q H locs hargs hret hx hb hts hown hml hname hN hA hS hP hK hD hl
  have hl : lv_has ls 3 [(0, .ref h0), (1, .int x1)] := hl
  obtain ⟨Xq, hX⟩ : ∃ Xq, Xq = sh_X1_settleToner se ha sl x1 := ⟨_, rfl⟩
  have hq : Xq = ((upd ha x1.toNatClampNeg ((ha x1.toNatClampNeg) - (sh_X4_share (ha x1.toNatClampNeg) (se (1 : Int32).toNatClampNeg)))), (upd sl x1.toNatClampNeg ((sl x1.toNatClampNeg) + (sh_X4_share (ha x1.toNatClampNeg) (se (1 : Int32).toNatClampNeg))))) := hX
  refine lv_aload_n hx hb dX1_settleToner_0 rfl (lv_at hl 0 rfl) ?_
  refine va_get (D := D) (ci := 1) (v := .ref (a 2)) (C := RX1) (T := TX1) (N := 14) hx hb hts inA1 hown hK hP 0 rfl rfl 2 (by decide) (hts _ wd_fl_RX1_18) (fun _ h9 => h9) rfl dX1_settleToner_1 ?_
  refine lv_iload_n hx hb dX1_settleToner_4 rfl (lv_at hl 1 rfl) ?_
  refine va_iald hx hb hK hP 3 0 rfl rfl hi_x1 dX1_settleToner_5 ?_
  refine lv_aload_n hx hb dX1_settleToner_6 rfl (lv_at hl 0 rfl) ?_
  refine va_get (D := D) (ci := 1) (v := .ref (a 0)) (C := RX1) (T := TX1) (N := 14) hx hb hts inA1 hown hK hP 0 rfl rfl 0 (by decide) (hts _ wd_fl_RX1_9) (fun _ h9 => h9) rfl dX1_settleToner_7 ?_
  refine lv_iconst (v := 1) hx hb dX1_settleToner_10 (by decide) ?_
  refine va_iald hx hb hK hP 1 0 rfl rfl (k_in (by decide)) dX1_settleToner_11 ?_
  have hPs : va_P D vwCl ([] ++ ([] ++ (MW cI h0 a se ki ha sl ch ci dk li re dt la us sp rf))) H := hP
  have hDs : va_D A ([] ++ ([] ++ (MW cI h0 a se ki ha sl ch ci dk li re dt la us sp rf))) := hD
  refine k_behi (X := []) (Y := (MW cI h0 a se ki ha sl ch ci dk li re dt la us sp rf)) (va_runSN (As := [.int (ha x1.toNatClampNeg), .int (se (1 : Int32).toNatClampNeg)]) (rest := []) ⟨hx, hb, hml, hown, hts⟩ (c_X4_share l D cI cC cQ H.size (ha x1.toNatClampNeg) (se (1 : Int32).toNatClampNeg)) ⟨kcnB hts hN wn_nl_RX1_84 wd_ini_RX4 wd_code_yX4_share rfl rfl hd_X4_share ⟨Nat.le_of_ble_eq_true rfl, Nat.le_of_ble_eq_true rfl⟩, hts _ wd_st_yX4_share, trivial⟩ ⟨in_blind, k_pre hK (pa_l (pa_r hPs)) (da_l (da_r hDs)) hN⟩ rfl rfl hl.1 rfl (lv_room (Nat.le_of_ble_eq_true rfl)) dX1_settleToner_12 ⟨Nat.le_of_ble_eq_true rfl, Nat.le_of_ble_eq_true rfl⟩) hPs hDs hS hA (fun r1 u2 H locs hw3 hP hD hS => ?_)
  have hP : va_P D vwCl (MW cI h0 a se ki ha sl ch ci dk li re dt la us sp rf) H := hP
  have hD : va_D A (MW cI h0 a se ki ha sl ch ci dk li re dt la us sp rf) := hD
  have hw3 : r1 = (sh_X4_share (ha x1.toNatClampNeg) (se (1 : Int32).toNatClampNeg)) := hw3
  subst hw3
  refine lv_istore_n (lv' := [(2, .int (sh_X4_share (ha x1.toNatClampNeg) (se (1 : Int32).toNatClampNeg))), (0, .ref h0), (1, .int x1)]) hx hb dX1_settleToner_15 rfl hl (by decide) rfl (fun ls hl => ?_)
  refine lv_aload_n hx hb dX1_settleToner_16 rfl (lv_at hl 1 rfl) ?_
  refine va_get (D := D) (ci := 1) (v := .ref (a 2)) (C := RX1) (T := TX1) (N := 14) hx hb hts inA1 hown hK hP 0 rfl rfl 2 (by decide) (hts _ wd_fl_RX1_18) (fun _ h9 => h9) rfl dX1_settleToner_17 ?_
  refine lv_iload_n hx hb dX1_settleToner_20 rfl (lv_at hl 2 rfl) ?_
  refine lv_dup2_11 hx hb dX1_settleToner_21 rfl rfl ?_
  refine va_iald hx hb hK hP 3 0 rfl rfl hi_x1 dX1_settleToner_22 ?_
  refine lv_iload_n hx hb dX1_settleToner_23 rfl (lv_at hl 0 rfl) ?_
  refine lv_isub hx hb dX1_settleToner_24 ?_
  refine va_iast hx hb hK hP hD hS 3 0 rfl rfl hi_x1 dX1_settleToner_25 (fun H locs hP hD hS => ?_)
  have hP : va_P D vwCl (MW cI h0 a se ki (upd ha x1.toNatClampNeg ((ha x1.toNatClampNeg) - (sh_X4_share (ha x1.toNatClampNeg) (se (1 : Int32).toNatClampNeg)))) sl ch ci dk li re dt la us sp rf) H := hP
  have hD : va_D A (MW cI h0 a se ki (upd ha x1.toNatClampNeg ((ha x1.toNatClampNeg) - (sh_X4_share (ha x1.toNatClampNeg) (se (1 : Int32).toNatClampNeg)))) sl ch ci dk li re dt la us sp rf) := hD
  refine lv_aload_n hx hb dX1_settleToner_26 rfl (lv_at hl 1 rfl) ?_
  refine va_get (D := D) (ci := 1) (v := .ref (a 3)) (C := RX1) (T := TX1) (N := 14) hx hb hts inA1 hown hK hP 0 rfl rfl 3 (by decide) (hts _ wd_fl_RX1_21) (fun _ h9 => h9) rfl dX1_settleToner_27 ?_
  refine lv_iload_n hx hb dX1_settleToner_30 rfl (lv_at hl 2 rfl) ?_
  refine lv_dup2_11 hx hb dX1_settleToner_31 rfl rfl ?_
  refine va_iald hx hb hK hP 4 0 rfl rfl hi_x1 dX1_settleToner_32 ?_
  refine lv_iload_n hx hb dX1_settleToner_33 rfl (lv_at hl 0 rfl) ?_
  refine lv_iadd hx hb dX1_settleToner_34 ?_
  refine va_iast hx hb hK hP hD hS 4 0 rfl rfl hi_x1 dX1_settleToner_35 (fun H locs hP hD hS => ?_)
  have hP : va_P D vwCl (MW cI h0 a se ki (upd ha x1.toNatClampNeg ((ha x1.toNatClampNeg) - (sh_X4_share (ha x1.toNatClampNeg) (se (1 : Int32).toNatClampNeg)))) (upd sl x1.toNatClampNeg ((sl x1.toNatClampNeg) + (sh_X4_share (ha x1.toNatClampNeg) (se (1 : Int32).toNatClampNeg)))) ch ci dk li re dt la us sp rf) H := hP
  have hD : va_D A (MW cI h0 a se ki (upd ha x1.toNatClampNeg ((ha x1.toNatClampNeg) - (sh_X4_share (ha x1.toNatClampNeg) (se (1 : Int32).toNatClampNeg)))) (upd sl x1.toNatClampNeg ((sl x1.toNatClampNeg) + (sh_X4_share (ha x1.toNatClampNeg) (se (1 : Int32).toNatClampNeg)))) ch ci dk li re dt la us sp rf) := hD
  exact hret _ _ _ _ ((upd ha x1.toNatClampNeg ((ha x1.toNatClampNeg) - (sh_X4_share (ha x1.toNatClampNeg) (se (1 : Int32).toNatClampNeg)))), (upd sl x1.toNatClampNeg ((sl x1.toNatClampNeg) + (sh_X4_share (ha x1.toNatClampNeg) (se (1 : Int32).toNatClampNeg))))) dX1_settleToner_36 (hq.symm.trans hX) hP hD hS
def sh_X1_shakeCup (ha : Nat → Int32) (sl : Nat → Int32) (x1 : Int32) : Int32 × (Nat → Int32) × (Nat → Int32) := (((sl x1.toNatClampNeg) / 2), (upd ha x1.toNatClampNeg ((ha x1.toNatClampNeg) + ((sl x1.toNatClampNeg) / 2))), (upd sl x1.toNatClampNeg ((sl x1.toNatClampNeg) - ((sl x1.toNatClampNeg) / 2))))
abbrev rm_X1_shakeCup : Room := { frames := 0, cells := 0, slots := 0, locals := 0 }
theorem hd_X1_shakeCup : hdT yX1_shakeCup 1 := by decide +kernel
set_option maxHeartbeats 40000000 in
set_option maxRecDepth 100000 in
theorem c_X1_shakeCup (l : Launch) (D : va_G) (cI cC cQ : ClassId) (sz : Nat) (h0 : Nat) (a : Nat → Nat) (se : Nat → Int32) (ki : Nat → Int32) (ha : Nat → Int32) (sl : Nat → Int32) (ch : Nat → Int32) (ci : Nat → Int32) (dk : Nat → Int32) (li : Nat → Int32) (re : Nat → Int32) (dt : Nat → Int32) (la : Nat → Int32) (us : Int32) (sp : Int32) (rf : Int32) (x1 : Int32) (hi_x1 : vp_in x1 4) : Met l yX1_shakeCup (wsO yX1_shakeCup cX1_shakeCup 3 (some .int)) rm_X1_shakeCup (va_Pc [.ref h0, .int x1] (inW D (TYS cI cC cQ) (MW cI h0 a se ki ha sl ch ci dk li re dt la us sp rf) sz)) (va_Qi (fun (r : Int32) (u : (Nat → Int32) × (Nat → Int32)) => (r, u) = sh_X1_shakeCup ha sl x1) (fun (u : (Nat → Int32) × (Nat → Int32)) => atW D (TYS cI cC cQ) (va_A (MW cI h0 a se ki ha sl ch ci dk li re dt la us sp rf) sz) (MW cI h0 a se ki u.1 u.2 ch ci dk li re dt la us sp rf)) (va_A (MW cI h0 a se ki ha sl ch ci dk li re dt la us sp rf) sz)) 0 0 (va_A (MW cI h0 a se ki ha sl ch ci dk li re dt la us sp rf) sz) := by
  refine k_meti .int rfl (by decide) (Nat.le_of_ble_eq_true rfl) ?_
  intro p e s m args below meth c A ls Q H locs hargs hret hx hb hts hown hml hname hN hA hS hP hK hD hl
  have hl : lv_has ls 3 [(0, .ref h0), (1, .int x1)] := hl
  obtain ⟨Xq, hX⟩ : ∃ Xq, Xq = sh_X1_shakeCup ha sl x1 := ⟨_, rfl⟩
  have hq : Xq = (((sl x1.toNatClampNeg) / 2), (upd ha x1.toNatClampNeg ((ha x1.toNatClampNeg) + ((sl x1.toNatClampNeg) / 2))), (upd sl x1.toNatClampNeg ((sl x1.toNatClampNeg) - ((sl x1.toNatClampNeg) / 2)))) := hX
  refine lv_aload_n hx hb dX1_shakeCup_0 rfl (lv_at hl 0 rfl) ?_
  refine va_get (D := D) (ci := 1) (v := .ref (a 3)) (C := RX1) (T := TX1) (N := 14) hx hb hts inA1 hown hK hP 0 rfl rfl 3 (by decide) (hts _ wd_fl_RX1_21) (fun _ h9 => h9) rfl dX1_shakeCup_1 ?_
  refine lv_iload_n hx hb dX1_shakeCup_4 rfl (lv_at hl 1 rfl) ?_
  refine va_iald hx hb hK hP 4 0 rfl rfl hi_x1 dX1_shakeCup_5 ?_
  refine lv_iconst (v := 2) hx hb dX1_shakeCup_6 (by decide) ?_
  refine lv_idiv hx hb dX1_shakeCup_7 (by decide) ?_
  refine lv_istore_n (lv' := [(2, .int ((sl x1.toNatClampNeg) / 2)), (0, .ref h0), (1, .int x1)]) hx hb dX1_shakeCup_8 rfl hl (by decide) rfl (fun ls hl => ?_)
  refine lv_aload_n hx hb dX1_shakeCup_9 rfl (lv_at hl 1 rfl) ?_
  refine va_get (D := D) (ci := 1) (v := .ref (a 3)) (C := RX1) (T := TX1) (N := 14) hx hb hts inA1 hown hK hP 0 rfl rfl 3 (by decide) (hts _ wd_fl_RX1_21) (fun _ h9 => h9) rfl dX1_shakeCup_10 ?_
  refine lv_iload_n hx hb dX1_shakeCup_13 rfl (lv_at hl 2 rfl) ?_
  refine lv_dup2_11 hx hb dX1_shakeCup_14 rfl rfl ?_
  refine va_iald hx hb hK hP 4 0 rfl rfl hi_x1 dX1_shakeCup_15 ?_
  refine lv_iload_n hx hb dX1_shakeCup_16 rfl (lv_at hl 0 rfl) ?_
  refine lv_isub hx hb dX1_shakeCup_17 ?_
  refine va_iast hx hb hK hP hD hS 4 0 rfl rfl hi_x1 dX1_shakeCup_18 (fun H locs hP hD hS => ?_)
  have hP : va_P D vwCl (MW cI h0 a se ki ha (upd sl x1.toNatClampNeg ((sl x1.toNatClampNeg) - ((sl x1.toNatClampNeg) / 2))) ch ci dk li re dt la us sp rf) H := hP
  have hD : va_D A (MW cI h0 a se ki ha (upd sl x1.toNatClampNeg ((sl x1.toNatClampNeg) - ((sl x1.toNatClampNeg) / 2))) ch ci dk li re dt la us sp rf) := hD
  refine lv_aload_n hx hb dX1_shakeCup_19 rfl (lv_at hl 1 rfl) ?_
  refine va_get (D := D) (ci := 1) (v := .ref (a 2)) (C := RX1) (T := TX1) (N := 14) hx hb hts inA1 hown hK hP 0 rfl rfl 2 (by decide) (hts _ wd_fl_RX1_18) (fun _ h9 => h9) rfl dX1_shakeCup_20 ?_
  refine lv_iload_n hx hb dX1_shakeCup_23 rfl (lv_at hl 2 rfl) ?_
  refine lv_dup2_11 hx hb dX1_shakeCup_24 rfl rfl ?_
  refine va_iald hx hb hK hP 3 0 rfl rfl hi_x1 dX1_shakeCup_25 ?_
  refine lv_iload_n hx hb dX1_shakeCup_26 rfl (lv_at hl 0 rfl) ?_
  refine lv_iadd hx hb dX1_shakeCup_27 ?_
  refine va_iast hx hb hK hP hD hS 3 0 rfl rfl hi_x1 dX1_shakeCup_28 (fun H locs hP hD hS => ?_)
  have hP : va_P D vwCl (MW cI h0 a se ki (upd ha x1.toNatClampNeg ((ha x1.toNatClampNeg) + ((sl x1.toNatClampNeg) / 2))) (upd sl x1.toNatClampNeg ((sl x1.toNatClampNeg) - ((sl x1.toNatClampNeg) / 2))) ch ci dk li re dt la us sp rf) H := hP
  have hD : va_D A (MW cI h0 a se ki (upd ha x1.toNatClampNeg ((ha x1.toNatClampNeg) + ((sl x1.toNatClampNeg) / 2))) (upd sl x1.toNatClampNeg ((sl x1.toNatClampNeg) - ((sl x1.toNatClampNeg) / 2))) ch ci dk li re dt la us sp rf) := hD
  refine lv_iload_n hx hb dX1_shakeCup_29 rfl (lv_at hl 0 rfl) ?_
  exact hret _ _ _ _ (((sl x1.toNatClampNeg) / 2)) ((upd ha x1.toNatClampNeg ((ha x1.toNatClampNeg) + ((sl x1.toNatClampNeg) / 2))), (upd sl x1.toNatClampNeg ((sl x1.toNatClampNeg) - ((sl x1.toNatClampNeg) / 2)))) dX1_shakeCup_30 rfl (hq.symm.trans hX) hP hD hS
def sh_X1_printerOf (ci : Nat → Int32) (x1 : Int32) : Int32 := (if (ci (0 : Int32).toNatClampNeg) = x1 then (0 : Int32) else (if (ci (1 : Int32).toNatClampNeg) = x1 then (1 : Int32) else (-4 : Int32)))
abbrev rm_X1_printerOf : Room := { frames := 0, cells := 0, slots := 0, locals := 0 }
theorem hd_X1_printerOf : hdT yX1_printerOf 1 := by decide +kernel
set_option maxHeartbeats 40000000 in
set_option maxRecDepth 100000 in
theorem c_X1_printerOf (l : Launch) (D : va_G) (cI cC cQ : ClassId) (sz : Nat) (h0 : Nat) (a : Nat → Nat) (se : Nat → Int32) (ki : Nat → Int32) (ha : Nat → Int32) (sl : Nat → Int32) (ch : Nat → Int32) (ci : Nat → Int32) (dk : Nat → Int32) (li : Nat → Int32) (re : Nat → Int32) (dt : Nat → Int32) (la : Nat → Int32) (us : Int32) (sp : Int32) (rf : Int32) (x1 : Int32)  : Met l yX1_printerOf (wsO yX1_printerOf cX1_printerOf 3 (some .int)) rm_X1_printerOf (va_Pc [.ref h0, .int x1] (inW D (TYS cI cC cQ) (MW cI h0 a se ki ha sl ch ci dk li re dt la us sp rf) sz)) (va_Qi (fun (r : Int32) (_ : Unit) => r = sh_X1_printerOf ci x1) (fun (u : Unit) => atW D (TYS cI cC cQ) (va_A (MW cI h0 a se ki ha sl ch ci dk li re dt la us sp rf) sz) (MW cI h0 a se ki ha sl ch ci dk li re dt la us sp rf)) (va_A (MW cI h0 a se ki ha sl ch ci dk li re dt la us sp rf) sz)) 0 0 (va_A (MW cI h0 a se ki ha sl ch ci dk li re dt la us sp rf) sz) := by
  refine k_meti .int rfl (by decide) (Nat.le_of_ble_eq_true rfl) ?_
  intro p e s m args below meth c A ls Q H locs hargs hret hx hb hts hown hml hname hN hA hS hP hK hD hl
  have hl : lv_has ls 3 [(0, .ref h0), (1, .int x1)] := hl
  obtain ⟨Xq, hX⟩ : ∃ Xq, Xq = sh_X1_printerOf ci x1 := ⟨_, rfl⟩
  have hq : Xq = (if (ci (0 : Int32).toNatClampNeg) = x1 then (0 : Int32) else (if (ci (1 : Int32).toNatClampNeg) = x1 then (1 : Int32) else (-4 : Int32))) := hX
  refine lv_iconst (v := 0) hx hb dX1_printerOf_0 (by decide) ?_
  refine lv_istore_n (lv' := [(2, .int 0), (0, .ref h0), (1, .int x1)]) hx hb dX1_printerOf_1 rfl hl (by decide) rfl (fun ls hl => ?_)
  refine lv_iload_n hx hb dX1_printerOf_2 rfl (lv_at hl 0 rfl) ?_
  refine lv_iconst (v := 2) hx hb dX1_printerOf_3 (by decide) ?_
  refine lv_icmp_ge (tgt := 25) hx hb dX1_printerOf_4 (by decide) (fun c9 => absurd c9 (by decide)) (fun _ => ?_)
  refine lv_aload_n hx hb dX1_printerOf_7 rfl (lv_at hl 1 rfl) ?_
  refine va_get (D := D) (ci := 1) (v := .ref (a 5)) (C := RX1) (T := TX1) (N := 14) hx hb hts inA1 hown hK hP 0 rfl rfl 5 (by decide) (hts _ wd_fl_RX1_27) (fun _ h9 => h9) rfl dX1_printerOf_8 ?_
  refine lv_iload_n hx hb dX1_printerOf_11 rfl (lv_at hl 0 rfl) ?_
  refine va_iald hx hb hK hP 6 0 rfl rfl (k_in (by decide)) dX1_printerOf_12 ?_
  refine lv_iload_n hx hb dX1_printerOf_13 rfl (lv_at hl 2 rfl) ?_
  refine lv_icmp_ne (tgt := 19) hx hb dX1_printerOf_14 (by decide) (fun c1 => ?_) (fun c1 => ?_)
  · have hq := it_neg hq c1
    refine lv_iinc (v := 1) (lv' := [(2, .int 1), (0, .ref h0), (1, .int x1)]) hx hb dX1_printerOf_19 hl (k := 0) rfl (by decide) (by decide) rfl (fun ls hl => ?_)
    refine lv_goto (tgt := 2) hx hb dX1_printerOf_22 (by decide) ?_
    refine lv_iload_n hx hb dX1_printerOf_2 rfl (lv_at hl 0 rfl) ?_
    refine lv_iconst (v := 2) hx hb dX1_printerOf_3 (by decide) ?_
    refine lv_icmp_ge (tgt := 25) hx hb dX1_printerOf_4 (by decide) (fun c9 => absurd c9 (by decide)) (fun _ => ?_)
    refine lv_aload_n hx hb dX1_printerOf_7 rfl (lv_at hl 1 rfl) ?_
    refine va_get (D := D) (ci := 1) (v := .ref (a 5)) (C := RX1) (T := TX1) (N := 14) hx hb hts inA1 hown hK hP 0 rfl rfl 5 (by decide) (hts _ wd_fl_RX1_27) (fun _ h9 => h9) rfl dX1_printerOf_8 ?_
    refine lv_iload_n hx hb dX1_printerOf_11 rfl (lv_at hl 0 rfl) ?_
    refine va_iald hx hb hK hP 6 0 rfl rfl (k_in (by decide)) dX1_printerOf_12 ?_
    refine lv_iload_n hx hb dX1_printerOf_13 rfl (lv_at hl 2 rfl) ?_
    refine lv_icmp_ne (tgt := 19) hx hb dX1_printerOf_14 (by decide) (fun c2 => ?_) (fun c2 => ?_)
    · have hq := it_neg hq c2
      refine lv_iinc (v := 2) (lv' := [(2, .int 2), (0, .ref h0), (1, .int x1)]) hx hb dX1_printerOf_19 hl (k := 0) rfl (by decide) (by decide) rfl (fun ls hl => ?_)
      refine lv_goto (tgt := 2) hx hb dX1_printerOf_22 (by decide) ?_
      refine lv_iload_n hx hb dX1_printerOf_2 rfl (lv_at hl 0 rfl) ?_
      refine lv_iconst (v := 2) hx hb dX1_printerOf_3 (by decide) ?_
      refine lv_icmp_ge (tgt := 25) hx hb dX1_printerOf_4 (by decide) (fun _ => ?_) (fun c9 => absurd c9 (by decide))
      refine lv_bipush (v := (-4)) hx hb dX1_printerOf_25 (by decide) ?_
      exact hret _ _ _ _ ((-4)) () dX1_printerOf_27 rfl (hq.symm.trans hX) hP hD hS
    · have hq := it_pos hq c2
      refine lv_iload_n hx hb dX1_printerOf_17 rfl (lv_at hl 0 rfl) ?_
      exact hret _ _ _ _ (1) () dX1_printerOf_18 rfl (hq.symm.trans hX) hP hD hS
  · have hq := it_pos hq c1
    refine lv_iload_n hx hb dX1_printerOf_17 rfl (lv_at hl 0 rfl) ?_
    exact hret _ _ _ _ (0) () dX1_printerOf_18 rfl (hq.symm.trans hX) hP hD hS
def sh_X1_toner (ha : Nat → Int32) (sl : Nat → Int32) (x1 : Int32) : Int32 := ((ha x1.toNatClampNeg) + (sl x1.toNatClampNeg))
abbrev rm_X1_toner : Room := { frames := 0, cells := 0, slots := 0, locals := 0 }
theorem hd_X1_toner : hdT yX1_toner 1 := by decide +kernel
set_option maxHeartbeats 40000000 in
set_option maxRecDepth 100000 in
theorem c_X1_toner (l : Launch) (D : va_G) (cI cC cQ : ClassId) (sz : Nat) (h0 : Nat) (a : Nat → Nat) (se : Nat → Int32) (ki : Nat → Int32) (ha : Nat → Int32) (sl : Nat → Int32) (ch : Nat → Int32) (ci : Nat → Int32) (dk : Nat → Int32) (li : Nat → Int32) (re : Nat → Int32) (dt : Nat → Int32) (la : Nat → Int32) (us : Int32) (sp : Int32) (rf : Int32) (x1 : Int32) (hi_x1 : vp_in x1 4) : Met l yX1_toner (wsO yX1_toner cX1_toner 2 (some .int)) rm_X1_toner (va_Pc [.ref h0, .int x1] (inW D (TYS cI cC cQ) (MW cI h0 a se ki ha sl ch ci dk li re dt la us sp rf) sz)) (va_Qi (fun (r : Int32) (_ : Unit) => r = sh_X1_toner ha sl x1) (fun (u : Unit) => atW D (TYS cI cC cQ) (va_A (MW cI h0 a se ki ha sl ch ci dk li re dt la us sp rf) sz) (MW cI h0 a se ki ha sl ch ci dk li re dt la us sp rf)) (va_A (MW cI h0 a se ki ha sl ch ci dk li re dt la us sp rf) sz)) 0 0 (va_A (MW cI h0 a se ki ha sl ch ci dk li re dt la us sp rf) sz) := by
  refine k_meti .int rfl (by decide) (Nat.le_of_ble_eq_true rfl) ?_
  intro p e s m args below meth c A ls Q H locs hargs hret hx hb hts hown hml hname hN hA hS hP hK hD hl
  have hl : lv_has ls 2 [(0, .ref h0), (1, .int x1)] := hl
  obtain ⟨Xq, hX⟩ : ∃ Xq, Xq = sh_X1_toner ha sl x1 := ⟨_, rfl⟩
  have hq : Xq = ((ha x1.toNatClampNeg) + (sl x1.toNatClampNeg)) := hX
  refine lv_aload_n hx hb dX1_toner_0 rfl (lv_at hl 0 rfl) ?_
  refine va_get (D := D) (ci := 1) (v := .ref (a 2)) (C := RX1) (T := TX1) (N := 14) hx hb hts inA1 hown hK hP 0 rfl rfl 2 (by decide) (hts _ wd_fl_RX1_18) (fun _ h9 => h9) rfl dX1_toner_1 ?_
  refine lv_iload_n hx hb dX1_toner_4 rfl (lv_at hl 1 rfl) ?_
  refine va_iald hx hb hK hP 3 0 rfl rfl hi_x1 dX1_toner_5 ?_
  refine lv_aload_n hx hb dX1_toner_6 rfl (lv_at hl 0 rfl) ?_
  refine va_get (D := D) (ci := 1) (v := .ref (a 3)) (C := RX1) (T := TX1) (N := 14) hx hb hts inA1 hown hK hP 0 rfl rfl 3 (by decide) (hts _ wd_fl_RX1_21) (fun _ h9 => h9) rfl dX1_toner_7 ?_
  refine lv_iload_n hx hb dX1_toner_10 rfl (lv_at hl 1 rfl) ?_
  refine va_iald hx hb hK hP 4 0 rfl rfl hi_x1 dX1_toner_11 ?_
  refine lv_iadd hx hb dX1_toner_12 ?_
  exact hret _ _ _ _ (((ha x1.toNatClampNeg) + (sl x1.toNatClampNeg))) () dX1_toner_13 rfl (hq.symm.trans hX) hP hD hS
def sh_X1_empty (ha : Nat → Int32) (ci : Nat → Int32) (sp : Int32) (x1 : Int32) : (Nat → Int32) × (Nat → Int32) × (Int32) := (if (sh_X4_isCup (ci x1.toNatClampNeg)) = 0 then (ha, ci, sp) else ((upd ha (ci x1.toNatClampNeg).toNatClampNeg ((ha (ci x1.toNatClampNeg).toNatClampNeg) - ((ha (ci x1.toNatClampNeg).toNatClampNeg) / 50))), (upd ci x1.toNatClampNeg (-4)), (sp + ((ha (ci x1.toNatClampNeg).toNatClampNeg) / 50))))
abbrev rm_X1_empty : Room := { frames := 1, cells := 0, slots := 0, locals := 20 }
theorem hd_X1_empty : hdT yX1_empty 1 := by decide +kernel
set_option maxHeartbeats 40000000 in
set_option maxRecDepth 100000 in
theorem c_X1_empty (l : Launch) (D : va_G) (cI cC cQ : ClassId) (sz : Nat) (h0 : Nat) (a : Nat → Nat) (se : Nat → Int32) (ki : Nat → Int32) (ha : Nat → Int32) (sl : Nat → Int32) (ch : Nat → Int32) (ci : Nat → Int32) (dk : Nat → Int32) (li : Nat → Int32) (re : Nat → Int32) (dt : Nat → Int32) (la : Nat → Int32) (us : Int32) (sp : Int32) (rf : Int32) (x1 : Int32) (hi_x1 : vp_in x1 2) : Met l yX1_empty (wsO yX1_empty cX1_empty 4 none) rm_X1_empty (va_Pc [.ref h0, .int x1] (inW D (TYS cI cC cQ) (MW cI h0 a se ki ha sl ch ci dk li re dt la us sp rf) sz)) (va_Qv (fun (u : (Nat → Int32) × (Nat → Int32) × (Int32)) => u = sh_X1_empty ha ci sp x1) (fun (u : (Nat → Int32) × (Nat → Int32) × (Int32)) => atW D (TYS cI cC cQ) (va_A (MW cI h0 a se ki ha sl ch ci dk li re dt la us sp rf) sz) (MW cI h0 a se ki u.1 sl ch u.2.1 dk li re dt la us u.2.2 rf)) (va_A (MW cI h0 a se ki ha sl ch ci dk li re dt la us sp rf) sz)) 0 0 (va_A (MW cI h0 a se ki ha sl ch ci dk li re dt la us sp rf) sz) := by
  refine k_metv rfl (by decide) (Nat.le_of_ble_eq_true rfl) ?_
  intro p e s m args below meth c A ls Q H locs hargs hret hx hb hts hown hml hname hN hA hS hP hK hD hl
  have hl : lv_has ls 4 [(0, .ref h0), (1, .int x1)] := hl
  obtain ⟨Xq, hX⟩ : ∃ Xq, Xq = sh_X1_empty ha ci sp x1 := ⟨_, rfl⟩
  have hq : Xq = (if (sh_X4_isCup (ci x1.toNatClampNeg)) = 0 then (ha, ci, sp) else ((upd ha (ci x1.toNatClampNeg).toNatClampNeg ((ha (ci x1.toNatClampNeg).toNatClampNeg) - ((ha (ci x1.toNatClampNeg).toNatClampNeg) / 50))), (upd ci x1.toNatClampNeg (-4)), (sp + ((ha (ci x1.toNatClampNeg).toNatClampNeg) / 50)))) := hX
  refine lv_aload_n hx hb dX1_empty_0 rfl (lv_at hl 0 rfl) ?_
  refine va_get (D := D) (ci := 1) (v := .ref (a 5)) (C := RX1) (T := TX1) (N := 14) hx hb hts inA1 hown hK hP 0 rfl rfl 5 (by decide) (hts _ wd_fl_RX1_27) (fun _ h9 => h9) rfl dX1_empty_1 ?_
  refine lv_iload_n hx hb dX1_empty_4 rfl (lv_at hl 1 rfl) ?_
  refine va_iald hx hb hK hP 6 0 rfl rfl hi_x1 dX1_empty_5 ?_
  refine lv_istore_n (lv' := [(2, .int (ci x1.toNatClampNeg)), (0, .ref h0), (1, .int x1)]) hx hb dX1_empty_6 rfl hl (by decide) rfl (fun ls hl => ?_)
  refine lv_iload_n hx hb dX1_empty_7 rfl (lv_at hl 0 rfl) ?_
  have hPs : va_P D vwCl ([] ++ ([] ++ (MW cI h0 a se ki ha sl ch ci dk li re dt la us sp rf))) H := hP
  have hDs : va_D A ([] ++ ([] ++ (MW cI h0 a se ki ha sl ch ci dk li re dt la us sp rf))) := hD
  refine k_behi (X := []) (Y := (MW cI h0 a se ki ha sl ch ci dk li re dt la us sp rf)) (va_runSN (As := [.int (ci x1.toNatClampNeg)]) (rest := []) ⟨hx, hb, hml, hown, hts⟩ (c_X4_isCup l D cI cC cQ H.size (ci x1.toNatClampNeg)) ⟨kcnB hts hN wn_nl_RX1_65 wd_ini_RX4 wd_code_yX4_isCup rfl rfl hd_X4_isCup ⟨Nat.le_of_ble_eq_true rfl, Nat.le_of_ble_eq_true rfl⟩, hts _ wd_st_yX4_isCup, trivial⟩ ⟨in_blind, k_pre hK (pa_l (pa_r hPs)) (da_l (da_r hDs)) hN⟩ rfl rfl hl.1 rfl (lv_room (Nat.le_of_ble_eq_true rfl)) dX1_empty_8 ⟨Nat.le_of_ble_eq_true rfl, Nat.le_of_ble_eq_true rfl⟩) hPs hDs hS hA (fun r1 u2 H locs hw3 hP hD hS => ?_)
  have hP : va_P D vwCl (MW cI h0 a se ki ha sl ch ci dk li re dt la us sp rf) H := hP
  have hD : va_D A (MW cI h0 a se ki ha sl ch ci dk li re dt la us sp rf) := hD
  have hw3 : r1 = (sh_X4_isCup (ci x1.toNatClampNeg)) := hw3
  subst hw3
  refine lv_if_ne (tgt := 15) hx hb dX1_empty_11 (by decide) (fun c4 => ?_) (fun c4 => ?_)
  · have hq := it_neg hq c4
    refine lv_aload_n hx hb dX1_empty_15 rfl (lv_at hl 1 rfl) ?_
    refine va_get (D := D) (ci := 1) (v := .ref (a 2)) (C := RX1) (T := TX1) (N := 14) hx hb hts inA1 hown hK hP 0 rfl rfl 2 (by decide) (hts _ wd_fl_RX1_18) (fun _ h9 => h9) rfl dX1_empty_16 ?_
    refine lv_iload_n hx hb dX1_empty_19 rfl (lv_at hl 0 rfl) ?_
    refine va_iald hx hb hK hP 3 0 rfl rfl (isIn4 c4) dX1_empty_20 ?_
    refine lv_bipush (v := 50) hx hb dX1_empty_21 (by decide) ?_
    refine lv_idiv hx hb dX1_empty_23 (by decide) ?_
    refine lv_istore_n (lv' := [(3, .int ((ha (ci x1.toNatClampNeg).toNatClampNeg) / 50)), (2, .int (ci x1.toNatClampNeg)), (0, .ref h0), (1, .int x1)]) hx hb dX1_empty_24 rfl hl (by decide) rfl (fun ls hl => ?_)
    refine lv_aload_n hx hb dX1_empty_25 rfl (lv_at hl 2 rfl) ?_
    refine va_get (D := D) (ci := 1) (v := .ref (a 2)) (C := RX1) (T := TX1) (N := 14) hx hb hts inA1 hown hK hP 0 rfl rfl 2 (by decide) (hts _ wd_fl_RX1_18) (fun _ h9 => h9) rfl dX1_empty_26 ?_
    refine lv_iload_n hx hb dX1_empty_29 rfl (lv_at hl 1 rfl) ?_
    refine lv_dup2_11 hx hb dX1_empty_30 rfl rfl ?_
    refine va_iald hx hb hK hP 3 0 rfl rfl (isIn4 c4) dX1_empty_31 ?_
    refine lv_iload_n hx hb dX1_empty_32 rfl (lv_at hl 0 rfl) ?_
    refine lv_isub hx hb dX1_empty_33 ?_
    refine va_iast hx hb hK hP hD hS 3 0 rfl rfl (isIn4 c4) dX1_empty_34 (fun H locs hP hD hS => ?_)
    have hP : va_P D vwCl (MW cI h0 a se ki (upd ha (ci x1.toNatClampNeg).toNatClampNeg ((ha (ci x1.toNatClampNeg).toNatClampNeg) - ((ha (ci x1.toNatClampNeg).toNatClampNeg) / 50))) sl ch ci dk li re dt la us sp rf) H := hP
    have hD : va_D A (MW cI h0 a se ki (upd ha (ci x1.toNatClampNeg).toNatClampNeg ((ha (ci x1.toNatClampNeg).toNatClampNeg) - ((ha (ci x1.toNatClampNeg).toNatClampNeg) / 50))) sl ch ci dk li re dt la us sp rf) := hD
    refine lv_aload_n hx hb dX1_empty_35 rfl (lv_at hl 2 rfl) ?_
    refine lv_dup hx hb dX1_empty_36 rfl ?_
    refine va_get (D := D) (ci := 1) (v := .int sp) (C := RX1) (T := TX1) (N := 14) hx hb hts inA1 hown hK hP 0 rfl rfl 12 (by decide) (hts _ wd_fl_RX1_49) (fun _ h9 => h9) rfl dX1_empty_37 ?_
    refine lv_iload_n hx hb dX1_empty_40 rfl (lv_at hl 0 rfl) ?_
    refine lv_iadd hx hb dX1_empty_41 ?_
    refine va_put (D := D) (ci := 1) (v := .int (sp + ((ha (ci x1.toNatClampNeg).toNatClampNeg) / 50))) (ty := .int) (C := RX1) (T := TX1) (N := 14) hx hb hts inA1 tyX1 tyX1_ok nmX1 hown hK hP hD hS 0 rfl rfl 12 (by decide) (hts _ wd_fl_RX1_49) (fun _ h9 => h9) rfl (by decide +kernel) rfl rfl (Nat.le_of_ble_eq_true rfl) dX1_empty_42 (fun H locs hP hD hS => ?_)
    have hP : va_P D vwCl (MW cI h0 a se ki (upd ha (ci x1.toNatClampNeg).toNatClampNeg ((ha (ci x1.toNatClampNeg).toNatClampNeg) - ((ha (ci x1.toNatClampNeg).toNatClampNeg) / 50))) sl ch ci dk li re dt la us (sp + ((ha (ci x1.toNatClampNeg).toNatClampNeg) / 50)) rf) H := hP
    have hD : va_D A (MW cI h0 a se ki (upd ha (ci x1.toNatClampNeg).toNatClampNeg ((ha (ci x1.toNatClampNeg).toNatClampNeg) - ((ha (ci x1.toNatClampNeg).toNatClampNeg) / 50))) sl ch ci dk li re dt la us (sp + ((ha (ci x1.toNatClampNeg).toNatClampNeg) / 50)) rf) := hD
    refine lv_aload_n hx hb dX1_empty_45 rfl (lv_at hl 2 rfl) ?_
    refine va_get (D := D) (ci := 1) (v := .ref (a 5)) (C := RX1) (T := TX1) (N := 14) hx hb hts inA1 hown hK hP 0 rfl rfl 5 (by decide) (hts _ wd_fl_RX1_27) (fun _ h9 => h9) rfl dX1_empty_46 ?_
    refine lv_iload_n hx hb dX1_empty_49 rfl (lv_at hl 3 rfl) ?_
    refine lv_bipush (v := (-4)) hx hb dX1_empty_50 (by decide) ?_
    refine va_iast hx hb hK hP hD hS 6 0 rfl rfl hi_x1 dX1_empty_52 (fun H locs hP hD hS => ?_)
    have hP : va_P D vwCl (MW cI h0 a se ki (upd ha (ci x1.toNatClampNeg).toNatClampNeg ((ha (ci x1.toNatClampNeg).toNatClampNeg) - ((ha (ci x1.toNatClampNeg).toNatClampNeg) / 50))) sl ch (upd ci x1.toNatClampNeg (-4)) dk li re dt la us (sp + ((ha (ci x1.toNatClampNeg).toNatClampNeg) / 50)) rf) H := hP
    have hD : va_D A (MW cI h0 a se ki (upd ha (ci x1.toNatClampNeg).toNatClampNeg ((ha (ci x1.toNatClampNeg).toNatClampNeg) - ((ha (ci x1.toNatClampNeg).toNatClampNeg) / 50))) sl ch (upd ci x1.toNatClampNeg (-4)) dk li re dt la us (sp + ((ha (ci x1.toNatClampNeg).toNatClampNeg) / 50)) rf) := hD
    exact hret _ _ _ _ ((upd ha (ci x1.toNatClampNeg).toNatClampNeg ((ha (ci x1.toNatClampNeg).toNatClampNeg) - ((ha (ci x1.toNatClampNeg).toNatClampNeg) / 50))), (upd ci x1.toNatClampNeg (-4)), (sp + ((ha (ci x1.toNatClampNeg).toNatClampNeg) / 50))) dX1_empty_53 (hq.symm.trans hX) hP hD hS
  · have hq := it_pos hq c4
    exact hret _ _ _ _ (ha, ci, sp) dX1_empty_14 (hq.symm.trans hX) hP hD hS
def sh_X1_fillCup (ki : Nat → Int32) (ha : Nat → Int32) (sl : Nat → Int32) (rf : Int32) (x1 : Int32) (x2 : Int32) : Int32 × (Nat → Int32) × (Nat → Int32) × (Int32) := (kb (α := (Int32)) (if (6000 - (sh_X1_toner ha sl x1)) ≤ x2 then (6000 - (sh_X1_toner ha sl x1)) else x2) (fun z_v6 => (z_v6, (upd ki x1.toNatClampNeg 2), (upd sl x1.toNatClampNeg ((sl x1.toNatClampNeg) + z_v6)), (rf + z_v6))))
abbrev rm_X1_fillCup : Room := { frames := 1, cells := 0, slots := 0, locals := 21 }
theorem hd_X1_fillCup : hdT yX1_fillCup 2 := by decide +kernel
set_option maxHeartbeats 40000000 in
set_option maxRecDepth 100000 in
theorem c_X1_fillCup (l : Launch) (D : va_G) (cI cC cQ : ClassId) (sz : Nat) (h0 : Nat) (a : Nat → Nat) (se : Nat → Int32) (ki : Nat → Int32) (ha : Nat → Int32) (sl : Nat → Int32) (ch : Nat → Int32) (ci : Nat → Int32) (dk : Nat → Int32) (li : Nat → Int32) (re : Nat → Int32) (dt : Nat → Int32) (la : Nat → Int32) (us : Int32) (sp : Int32) (rf : Int32) (x1 : Int32) (x2 : Int32) (hi_x1 : vp_in x1 4) : Met l yX1_fillCup (wsO yX1_fillCup cX1_fillCup 5 (some .int)) rm_X1_fillCup (va_Pc [.ref h0, .int x1, .int x2] (inW D (TYS cI cC cQ) (MW cI h0 a se ki ha sl ch ci dk li re dt la us sp rf) sz)) (va_Qi (fun (r : Int32) (u : (Nat → Int32) × (Nat → Int32) × (Int32)) => (r, u) = sh_X1_fillCup ki ha sl rf x1 x2) (fun (u : (Nat → Int32) × (Nat → Int32) × (Int32)) => atW D (TYS cI cC cQ) (va_A (MW cI h0 a se ki ha sl ch ci dk li re dt la us sp rf) sz) (MW cI h0 a se u.1 ha u.2.1 ch ci dk li re dt la us sp u.2.2)) (va_A (MW cI h0 a se ki ha sl ch ci dk li re dt la us sp rf) sz)) 0 0 (va_A (MW cI h0 a se ki ha sl ch ci dk li re dt la us sp rf) sz) := by
  refine k_meti .int rfl (by decide) (Nat.le_of_ble_eq_true rfl) ?_
  intro p e s m args below meth c A ls Q H locs hargs hret hx hb hts hown hml hname hN hA hS hP hK hD hl
  have hl : lv_has ls 5 [(0, .ref h0), (1, .int x1), (2, .int x2)] := hl
  obtain ⟨Xq, hX⟩ : ∃ Xq, Xq = sh_X1_fillCup ki ha sl rf x1 x2 := ⟨_, rfl⟩
  have hq : Xq = (kb (α := (Int32)) (if (6000 - (sh_X1_toner ha sl x1)) ≤ x2 then (6000 - (sh_X1_toner ha sl x1)) else x2) (fun z_v6 => (z_v6, (upd ki x1.toNatClampNeg 2), (upd sl x1.toNatClampNeg ((sl x1.toNatClampNeg) + z_v6)), (rf + z_v6)))) := hX
  refine lv_sipush (v := 6000) hx hb dX1_fillCup_0 (by decide) ?_
  refine lv_aload_n hx hb dX1_fillCup_3 rfl (lv_at hl 0 rfl) ?_
  refine lv_iload_n hx hb dX1_fillCup_4 rfl (lv_at hl 1 rfl) ?_
  have hPs := k_self hP
  have hDs := k_selfD hD
  refine k_behi (X := []) (Y := []) (va_runV (As := [.int x1]) (rest := [.int 6000]) ⟨hx, hb, hml, hown, hts⟩ (c_X1_toner l D cI cC cQ H.size h0 a se ki ha sl ch ci dk li re dt la us sp rf x1 (hi_x1)) (kcwV hts wd_ml_RX1_96 wd_im_yX1_toner wd_sel_yX1_toner wd_ini_RX1 wd_code_yX1_toner rfl rfl rfl hd_X1_toner ⟨Nat.le_of_ble_eq_true rfl, Nat.le_of_ble_eq_true rfl⟩) ⟨in_blind, va_recv hK (pa_l (pa_r hPs)) (ci := 1) (q0 := 0) rfl rfl, k_pre hK (pa_l (pa_r hPs)) (da_l (da_r hDs)) hN⟩ rfl rfl hl.1 rfl (lv_room (Nat.le_of_ble_eq_true rfl)) dX1_fillCup_5 ⟨Nat.le_of_ble_eq_true rfl, Nat.le_of_ble_eq_true rfl⟩) hPs hDs hS hA (fun r1 u2 H locs hw3 hP hD hS => ?_)
  have hP := k_unP hP
  have hD := k_unD hD
  have hP : va_P D vwCl (MW cI h0 a se ki ha sl ch ci dk li re dt la us sp rf) H := hP
  have hD : va_D A (MW cI h0 a se ki ha sl ch ci dk li re dt la us sp rf) := hD
  have hw3 : r1 = (sh_X1_toner ha sl x1) := hw3
  subst hw3
  refine lv_isub hx hb dX1_fillCup_8 ?_
  refine lv_istore_n (lv' := [(3, .int (6000 - (sh_X1_toner ha sl x1))), (0, .ref h0), (1, .int x1), (2, .int x2)]) hx hb dX1_fillCup_9 rfl hl (by decide) rfl (fun ls hl => ?_)
  refine lv_iload_n hx hb dX1_fillCup_10 rfl (lv_at hl 3 rfl) ?_
  refine lv_iload_n hx hb dX1_fillCup_11 rfl (lv_at hl 0 rfl) ?_
  have K : ∀ (v6 : Int32) (H : Heap) (locs : List Loc) (ls : Array Slot), v6 = (if (6000 - (sh_X1_toner ha sl x1)) ≤ x2 then (6000 - (sh_X1_toner ha sl x1)) else x2) → va_P D vwCl (MW cI h0 a se ki ha sl ch ci dk li re dt la us sp rf) H → va_D A (MW cI h0 a se ki ha sl ch ci dk li re dt la us sp rf) → va_S A s.heap H locs → lv_has ls 5 [(0, .ref h0), (1, .int x1), (2, .int x2), (3, .int (6000 - (sh_X1_toner ha sl x1)))] → W p l e rm_X1_fillCup s m args below meth c H locs 0 0 Q (F0 m 20 ls [.int v6]) := by
    intro v6 H locs ls hv5 hP hD hS hl
    have hq := kb_to hq hv5
    refine lv_istore (lv' := [(4, .int v6), (0, .ref h0), (1, .int x1), (2, .int x2), (3, .int (6000 - (sh_X1_toner ha sl x1)))]) hx hb dX1_fillCup_20 hl (by decide) rfl (fun ls hl => ?_)
    refine lv_aload_n hx hb dX1_fillCup_22 rfl (lv_at hl 1 rfl) ?_
    refine va_get (D := D) (ci := 1) (v := .ref (a 3)) (C := RX1) (T := TX1) (N := 14) hx hb hts inA1 hown hK hP 0 rfl rfl 3 (by decide) (hts _ wd_fl_RX1_21) (fun _ h9 => h9) rfl dX1_fillCup_23 ?_
    refine lv_iload_n hx hb dX1_fillCup_26 rfl (lv_at hl 2 rfl) ?_
    refine lv_dup2_11 hx hb dX1_fillCup_27 rfl rfl ?_
    refine va_iald hx hb hK hP 4 0 rfl rfl hi_x1 dX1_fillCup_28 ?_
    refine lv_iload hx hb dX1_fillCup_29 (lv_at hl 0 rfl) ?_
    refine lv_iadd hx hb dX1_fillCup_31 ?_
    refine va_iast hx hb hK hP hD hS 4 0 rfl rfl hi_x1 dX1_fillCup_32 (fun H locs hP hD hS => ?_)
    have hP : va_P D vwCl (MW cI h0 a se ki ha (upd sl x1.toNatClampNeg ((sl x1.toNatClampNeg) + v6)) ch ci dk li re dt la us sp rf) H := hP
    have hD : va_D A (MW cI h0 a se ki ha (upd sl x1.toNatClampNeg ((sl x1.toNatClampNeg) + v6)) ch ci dk li re dt la us sp rf) := hD
    refine lv_aload_n hx hb dX1_fillCup_33 rfl (lv_at hl 1 rfl) ?_
    refine lv_dup hx hb dX1_fillCup_34 rfl ?_
    refine va_get (D := D) (ci := 1) (v := .int rf) (C := RX1) (T := TX1) (N := 14) hx hb hts inA1 hown hK hP 0 rfl rfl 13 (by decide) (hts _ wd_fl_RX1_52) (fun _ h9 => h9) rfl dX1_fillCup_35 ?_
    refine lv_iload hx hb dX1_fillCup_38 (lv_at hl 0 rfl) ?_
    refine lv_iadd hx hb dX1_fillCup_40 ?_
    refine va_put (D := D) (ci := 1) (v := .int (rf + v6)) (ty := .int) (C := RX1) (T := TX1) (N := 14) hx hb hts inA1 tyX1 tyX1_ok nmX1 hown hK hP hD hS 0 rfl rfl 13 (by decide) (hts _ wd_fl_RX1_52) (fun _ h9 => h9) rfl (by decide +kernel) rfl rfl (Nat.le_of_ble_eq_true rfl) dX1_fillCup_41 (fun H locs hP hD hS => ?_)
    have hP : va_P D vwCl (MW cI h0 a se ki ha (upd sl x1.toNatClampNeg ((sl x1.toNatClampNeg) + v6)) ch ci dk li re dt la us sp (rf + v6)) H := hP
    have hD : va_D A (MW cI h0 a se ki ha (upd sl x1.toNatClampNeg ((sl x1.toNatClampNeg) + v6)) ch ci dk li re dt la us sp (rf + v6)) := hD
    refine lv_aload_n hx hb dX1_fillCup_44 rfl (lv_at hl 1 rfl) ?_
    refine va_get (D := D) (ci := 1) (v := .ref (a 1)) (C := RX1) (T := TX1) (N := 14) hx hb hts inA1 hown hK hP 0 rfl rfl 1 (by decide) (hts _ wd_fl_RX1_15) (fun _ h9 => h9) rfl dX1_fillCup_45 ?_
    refine lv_iload_n hx hb dX1_fillCup_48 rfl (lv_at hl 2 rfl) ?_
    refine lv_iconst (v := 2) hx hb dX1_fillCup_49 (by decide) ?_
    refine va_iast hx hb hK hP hD hS 2 0 rfl rfl hi_x1 dX1_fillCup_50 (fun H locs hP hD hS => ?_)
    have hP : va_P D vwCl (MW cI h0 a se (upd ki x1.toNatClampNeg 2) ha (upd sl x1.toNatClampNeg ((sl x1.toNatClampNeg) + v6)) ch ci dk li re dt la us sp (rf + v6)) H := hP
    have hD : va_D A (MW cI h0 a se (upd ki x1.toNatClampNeg 2) ha (upd sl x1.toNatClampNeg ((sl x1.toNatClampNeg) + v6)) ch ci dk li re dt la us sp (rf + v6)) := hD
    refine lv_iload hx hb dX1_fillCup_51 (lv_at hl 0 rfl) ?_
    exact hret _ _ _ _ (v6) ((upd ki x1.toNatClampNeg 2), (upd sl x1.toNatClampNeg ((sl x1.toNatClampNeg) + v6)), (rf + v6)) dX1_fillCup_53 rfl (hq.symm.trans hX) hP hD hS
  refine lv_icmp_ge (tgt := 19) hx hb dX1_fillCup_12 (by decide) (fun c4 => ?_) (fun c4 => ?_)
  · skip
    refine lv_iload_n hx hb dX1_fillCup_19 rfl (lv_at hl 0 rfl) ?_
    exact K ((6000 - (sh_X1_toner ha sl x1))) _ _ _ (by rw [if_pos c4]) hP hD hS (lv_sub hl [1, 2, 3, 0] rfl)
  · skip
    refine lv_iload_n hx hb dX1_fillCup_15 rfl (lv_at hl 3 rfl) ?_
    refine lv_goto (tgt := 20) hx hb dX1_fillCup_16 (by decide) ?_
    exact K (x2) _ _ _ (by rw [if_neg c4]) hP hD hS (lv_sub hl [1, 2, 3, 0] rfl)
def sh_X1_scaleTells (se : Nat → Int32) (ha : Nat → Int32) (sl : Nat → Int32) (x1 : Int32) : Int32 := ((sh_X4_share (sh_X1_toner ha sl x1) (se (3 : Int32).toNatClampNeg)) * (se (3 : Int32).toNatClampNeg))
abbrev rm_X1_scaleTells : Room := { frames := 1, cells := 0, slots := 0, locals := 21 }
theorem hd_X1_scaleTells : hdT yX1_scaleTells 1 := by decide +kernel
set_option maxHeartbeats 40000000 in
set_option maxRecDepth 100000 in
theorem c_X1_scaleTells (l : Launch) (D : va_G) (cI cC cQ : ClassId) (sz : Nat) (h0 : Nat) (a : Nat → Nat) (se : Nat → Int32) (ki : Nat → Int32) (ha : Nat → Int32) (sl : Nat → Int32) (ch : Nat → Int32) (ci : Nat → Int32) (dk : Nat → Int32) (li : Nat → Int32) (re : Nat → Int32) (dt : Nat → Int32) (la : Nat → Int32) (us : Int32) (sp : Int32) (rf : Int32) (x1 : Int32) (hi_x1 : vp_in x1 4) : Met l yX1_scaleTells (wsO yX1_scaleTells cX1_scaleTells 2 (some .int)) rm_X1_scaleTells (va_Pc [.ref h0, .int x1] (inW D (TYS cI cC cQ) (MW cI h0 a se ki ha sl ch ci dk li re dt la us sp rf) sz)) (va_Qi (fun (r : Int32) (_ : Unit) => r = sh_X1_scaleTells se ha sl x1) (fun (u : Unit) => atW D (TYS cI cC cQ) (va_A (MW cI h0 a se ki ha sl ch ci dk li re dt la us sp rf) sz) (MW cI h0 a se ki ha sl ch ci dk li re dt la us sp rf)) (va_A (MW cI h0 a se ki ha sl ch ci dk li re dt la us sp rf) sz)) 0 0 (va_A (MW cI h0 a se ki ha sl ch ci dk li re dt la us sp rf) sz) := by
  refine k_meti .int rfl (by decide) (Nat.le_of_ble_eq_true rfl) ?_
  intro p e s m args below meth c A ls Q H locs hargs hret hx hb hts hown hml hname hN hA hS hP hK hD hl
  have hl : lv_has ls 2 [(0, .ref h0), (1, .int x1)] := hl
  obtain ⟨Xq, hX⟩ : ∃ Xq, Xq = sh_X1_scaleTells se ha sl x1 := ⟨_, rfl⟩
  have hq : Xq = ((sh_X4_share (sh_X1_toner ha sl x1) (se (3 : Int32).toNatClampNeg)) * (se (3 : Int32).toNatClampNeg)) := hX
  refine lv_aload_n hx hb dX1_scaleTells_0 rfl (lv_at hl 0 rfl) ?_
  refine lv_iload_n hx hb dX1_scaleTells_1 rfl (lv_at hl 1 rfl) ?_
  have hPs := k_self hP
  have hDs := k_selfD hD
  refine k_behi (X := []) (Y := []) (va_runV (As := [.int x1]) (rest := []) ⟨hx, hb, hml, hown, hts⟩ (c_X1_toner l D cI cC cQ H.size h0 a se ki ha sl ch ci dk li re dt la us sp rf x1 (hi_x1)) (kcwV hts wd_ml_RX1_96 wd_im_yX1_toner wd_sel_yX1_toner wd_ini_RX1 wd_code_yX1_toner rfl rfl rfl hd_X1_toner ⟨Nat.le_of_ble_eq_true rfl, Nat.le_of_ble_eq_true rfl⟩) ⟨in_blind, va_recv hK (pa_l (pa_r hPs)) (ci := 1) (q0 := 0) rfl rfl, k_pre hK (pa_l (pa_r hPs)) (da_l (da_r hDs)) hN⟩ rfl rfl hl.1 rfl (lv_room (Nat.le_of_ble_eq_true rfl)) dX1_scaleTells_2 ⟨Nat.le_of_ble_eq_true rfl, Nat.le_of_ble_eq_true rfl⟩) hPs hDs hS hA (fun r1 u2 H locs hw3 hP hD hS => ?_)
  have hP := k_unP hP
  have hD := k_unD hD
  have hP : va_P D vwCl (MW cI h0 a se ki ha sl ch ci dk li re dt la us sp rf) H := hP
  have hD : va_D A (MW cI h0 a se ki ha sl ch ci dk li re dt la us sp rf) := hD
  have hw3 : r1 = (sh_X1_toner ha sl x1) := hw3
  subst hw3
  refine lv_aload_n hx hb dX1_scaleTells_5 rfl (lv_at hl 0 rfl) ?_
  refine va_get (D := D) (ci := 1) (v := .ref (a 0)) (C := RX1) (T := TX1) (N := 14) hx hb hts inA1 hown hK hP 0 rfl rfl 0 (by decide) (hts _ wd_fl_RX1_9) (fun _ h9 => h9) rfl dX1_scaleTells_6 ?_
  refine lv_iconst (v := 3) hx hb dX1_scaleTells_9 (by decide) ?_
  refine va_iald hx hb hK hP 1 0 rfl rfl (k_in (by decide)) dX1_scaleTells_10 ?_
  have hPs : va_P D vwCl ([] ++ ([] ++ (MW cI h0 a se ki ha sl ch ci dk li re dt la us sp rf))) H := hP
  have hDs : va_D A ([] ++ ([] ++ (MW cI h0 a se ki ha sl ch ci dk li re dt la us sp rf))) := hD
  refine k_behi (X := []) (Y := (MW cI h0 a se ki ha sl ch ci dk li re dt la us sp rf)) (va_runSN (As := [.int (sh_X1_toner ha sl x1), .int (se (3 : Int32).toNatClampNeg)]) (rest := []) ⟨hx, hb, hml, hown, hts⟩ (c_X4_share l D cI cC cQ H.size (sh_X1_toner ha sl x1) (se (3 : Int32).toNatClampNeg)) ⟨kcnB hts hN wn_nl_RX1_84 wd_ini_RX4 wd_code_yX4_share rfl rfl hd_X4_share ⟨Nat.le_of_ble_eq_true rfl, Nat.le_of_ble_eq_true rfl⟩, hts _ wd_st_yX4_share, trivial⟩ ⟨in_blind, k_pre hK (pa_l (pa_r hPs)) (da_l (da_r hDs)) hN⟩ rfl rfl hl.1 rfl (lv_room (Nat.le_of_ble_eq_true rfl)) dX1_scaleTells_11 ⟨Nat.le_of_ble_eq_true rfl, Nat.le_of_ble_eq_true rfl⟩) hPs hDs hS hA (fun r4 u5 H locs hw6 hP hD hS => ?_)
  have hP : va_P D vwCl (MW cI h0 a se ki ha sl ch ci dk li re dt la us sp rf) H := hP
  have hD : va_D A (MW cI h0 a se ki ha sl ch ci dk li re dt la us sp rf) := hD
  have hw6 : r4 = (sh_X4_share (sh_X1_toner ha sl x1) (se (3 : Int32).toNatClampNeg)) := hw6
  subst hw6
  refine lv_aload_n hx hb dX1_scaleTells_14 rfl (lv_at hl 0 rfl) ?_
  refine va_get (D := D) (ci := 1) (v := .ref (a 0)) (C := RX1) (T := TX1) (N := 14) hx hb hts inA1 hown hK hP 0 rfl rfl 0 (by decide) (hts _ wd_fl_RX1_9) (fun _ h9 => h9) rfl dX1_scaleTells_15 ?_
  refine lv_iconst (v := 3) hx hb dX1_scaleTells_18 (by decide) ?_
  refine va_iald hx hb hK hP 1 0 rfl rfl (k_in (by decide)) dX1_scaleTells_19 ?_
  refine lv_imul hx hb dX1_scaleTells_20 ?_
  exact hret _ _ _ _ (((sh_X4_share (sh_X1_toner ha sl x1) (se (3 : Int32).toNatClampNeg)) * (se (3 : Int32).toNatClampNeg))) () dX1_scaleTells_21 rfl (hq.symm.trans hX) hP hD hS
def sh_X1_toldLeft (se : Nat → Int32) (ha : Nat → Int32) (sl : Nat → Int32) (ch : Nat → Int32) (x1 : Int32) : Int32 := (((sh_X1_scaleTells se ha sl x1) + (ch x1.toNatClampNeg)) / 2)
abbrev rm_X1_toldLeft : Room := { frames := 2, cells := 0, slots := 0, locals := 42 }
theorem hd_X1_toldLeft : hdT yX1_toldLeft 1 := by decide +kernel
set_option maxHeartbeats 40000000 in
set_option maxRecDepth 100000 in
theorem c_X1_toldLeft (l : Launch) (D : va_G) (cI cC cQ : ClassId) (sz : Nat) (h0 : Nat) (a : Nat → Nat) (se : Nat → Int32) (ki : Nat → Int32) (ha : Nat → Int32) (sl : Nat → Int32) (ch : Nat → Int32) (ci : Nat → Int32) (dk : Nat → Int32) (li : Nat → Int32) (re : Nat → Int32) (dt : Nat → Int32) (la : Nat → Int32) (us : Int32) (sp : Int32) (rf : Int32) (x1 : Int32) (hi_x1 : vp_in x1 4) : Met l yX1_toldLeft (wsO yX1_toldLeft cX1_toldLeft 2 (some .int)) rm_X1_toldLeft (va_Pc [.ref h0, .int x1] (inW D (TYS cI cC cQ) (MW cI h0 a se ki ha sl ch ci dk li re dt la us sp rf) sz)) (va_Qi (fun (r : Int32) (_ : Unit) => r = sh_X1_toldLeft se ha sl ch x1) (fun (u : Unit) => atW D (TYS cI cC cQ) (va_A (MW cI h0 a se ki ha sl ch ci dk li re dt la us sp rf) sz) (MW cI h0 a se ki ha sl ch ci dk li re dt la us sp rf)) (va_A (MW cI h0 a se ki ha sl ch ci dk li re dt la us sp rf) sz)) 0 0 (va_A (MW cI h0 a se ki ha sl ch ci dk li re dt la us sp rf) sz) := by
  refine k_meti .int rfl (by decide) (Nat.le_of_ble_eq_true rfl) ?_
  intro p e s m args below meth c A ls Q H locs hargs hret hx hb hts hown hml hname hN hA hS hP hK hD hl
  have hl : lv_has ls 2 [(0, .ref h0), (1, .int x1)] := hl
  obtain ⟨Xq, hX⟩ : ∃ Xq, Xq = sh_X1_toldLeft se ha sl ch x1 := ⟨_, rfl⟩
  have hq : Xq = (((sh_X1_scaleTells se ha sl x1) + (ch x1.toNatClampNeg)) / 2) := hX
  refine lv_aload_n hx hb dX1_toldLeft_0 rfl (lv_at hl 0 rfl) ?_
  refine lv_iload_n hx hb dX1_toldLeft_1 rfl (lv_at hl 1 rfl) ?_
  have hPs := k_self hP
  have hDs := k_selfD hD
  refine k_behi (X := []) (Y := []) (va_runV (As := [.int x1]) (rest := []) ⟨hx, hb, hml, hown, hts⟩ (c_X1_scaleTells l D cI cC cQ H.size h0 a se ki ha sl ch ci dk li re dt la us sp rf x1 (hi_x1)) (kcwV hts wd_ml_RX1_99 wd_im_yX1_scaleTells wd_sel_yX1_scaleTells wd_ini_RX1 wd_code_yX1_scaleTells rfl rfl rfl hd_X1_scaleTells ⟨Nat.le_of_ble_eq_true rfl, Nat.le_of_ble_eq_true rfl⟩) ⟨in_blind, va_recv hK (pa_l (pa_r hPs)) (ci := 1) (q0 := 0) rfl rfl, k_pre hK (pa_l (pa_r hPs)) (da_l (da_r hDs)) hN⟩ rfl rfl hl.1 rfl (lv_room (Nat.le_of_ble_eq_true rfl)) dX1_toldLeft_2 ⟨Nat.le_of_ble_eq_true rfl, Nat.le_of_ble_eq_true rfl⟩) hPs hDs hS hA (fun r1 u2 H locs hw3 hP hD hS => ?_)
  have hP := k_unP hP
  have hD := k_unD hD
  have hP : va_P D vwCl (MW cI h0 a se ki ha sl ch ci dk li re dt la us sp rf) H := hP
  have hD : va_D A (MW cI h0 a se ki ha sl ch ci dk li re dt la us sp rf) := hD
  have hw3 : r1 = (sh_X1_scaleTells se ha sl x1) := hw3
  subst hw3
  refine lv_aload_n hx hb dX1_toldLeft_5 rfl (lv_at hl 0 rfl) ?_
  refine va_get (D := D) (ci := 1) (v := .ref (a 4)) (C := RX1) (T := TX1) (N := 14) hx hb hts inA1 hown hK hP 0 rfl rfl 4 (by decide) (hts _ wd_fl_RX1_24) (fun _ h9 => h9) rfl dX1_toldLeft_6 ?_
  refine lv_iload_n hx hb dX1_toldLeft_9 rfl (lv_at hl 1 rfl) ?_
  refine va_iald hx hb hK hP 5 0 rfl rfl hi_x1 dX1_toldLeft_10 ?_
  refine lv_iadd hx hb dX1_toldLeft_11 ?_
  refine lv_iconst (v := 2) hx hb dX1_toldLeft_12 (by decide) ?_
  refine lv_idiv hx hb dX1_toldLeft_13 (by decide) ?_
  exact hret _ _ _ _ ((((sh_X1_scaleTells se ha sl x1) + (ch x1.toNatClampNeg)) / 2)) () dX1_toldLeft_14 rfl (hq.symm.trans hX) hP hD hS
def sh_X1_allToner (ha : Nat → Int32) (sl : Nat → Int32) : Int32 := ((((0 + (sh_X1_toner ha sl 0)) + (sh_X1_toner ha sl 1)) + (sh_X1_toner ha sl 2)) + (sh_X1_toner ha sl 3))
abbrev rm_X1_allToner : Room := { frames := 1, cells := 0, slots := 0, locals := 21 }
theorem hd_X1_allToner : hdT yX1_allToner 0 := by decide +kernel
set_option maxHeartbeats 40000000 in
set_option maxRecDepth 100000 in
theorem c_X1_allToner (l : Launch) (D : va_G) (cI cC cQ : ClassId) (sz : Nat) (h0 : Nat) (a : Nat → Nat) (se : Nat → Int32) (ki : Nat → Int32) (ha : Nat → Int32) (sl : Nat → Int32) (ch : Nat → Int32) (ci : Nat → Int32) (dk : Nat → Int32) (li : Nat → Int32) (re : Nat → Int32) (dt : Nat → Int32) (la : Nat → Int32) (us : Int32) (sp : Int32) (rf : Int32)   : Met l yX1_allToner (wsO yX1_allToner cX1_allToner 3 (some .int)) rm_X1_allToner (va_Pc [.ref h0] (inW D (TYS cI cC cQ) (MW cI h0 a se ki ha sl ch ci dk li re dt la us sp rf) sz)) (va_Qi (fun (r : Int32) (_ : Unit) => r = sh_X1_allToner ha sl) (fun (u : Unit) => atW D (TYS cI cC cQ) (va_A (MW cI h0 a se ki ha sl ch ci dk li re dt la us sp rf) sz) (MW cI h0 a se ki ha sl ch ci dk li re dt la us sp rf)) (va_A (MW cI h0 a se ki ha sl ch ci dk li re dt la us sp rf) sz)) 0 0 (va_A (MW cI h0 a se ki ha sl ch ci dk li re dt la us sp rf) sz) := by
  refine k_meti .int rfl (by decide) (Nat.le_of_ble_eq_true rfl) ?_
  intro p e s m args below meth c A ls Q H locs hargs hret hx hb hts hown hml hname hN hA hS hP hK hD hl
  have hl : lv_has ls 3 [(0, .ref h0)] := hl
  obtain ⟨Xq, hX⟩ : ∃ Xq, Xq = sh_X1_allToner ha sl := ⟨_, rfl⟩
  have hq : Xq = ((((0 + (sh_X1_toner ha sl 0)) + (sh_X1_toner ha sl 1)) + (sh_X1_toner ha sl 2)) + (sh_X1_toner ha sl 3)) := hX
  refine lv_iconst (v := 0) hx hb dX1_allToner_0 (by decide) ?_
  refine lv_istore_n (lv' := [(1, .int 0), (0, .ref h0)]) hx hb dX1_allToner_1 rfl hl (by decide) rfl (fun ls hl => ?_)
  refine lv_iconst (v := 0) hx hb dX1_allToner_2 (by decide) ?_
  refine lv_istore_n (lv' := [(2, .int 0), (1, .int 0), (0, .ref h0)]) hx hb dX1_allToner_3 rfl hl (by decide) rfl (fun ls hl => ?_)
  refine lv_iload_n hx hb dX1_allToner_4 rfl (lv_at hl 0 rfl) ?_
  refine lv_iconst (v := 4) hx hb dX1_allToner_5 (by decide) ?_
  refine lv_icmp_ge (tgt := 23) hx hb dX1_allToner_6 (by decide) (fun c9 => absurd c9 (by decide)) (fun _ => ?_)
  refine lv_iload_n hx hb dX1_allToner_9 rfl (lv_at hl 1 rfl) ?_
  refine lv_aload_n hx hb dX1_allToner_10 rfl (lv_at hl 2 rfl) ?_
  refine lv_iload_n hx hb dX1_allToner_11 rfl (lv_at hl 0 rfl) ?_
  have hPs := k_self hP
  have hDs := k_selfD hD
  refine k_behi (X := []) (Y := []) (va_runV (As := [.int 0]) (rest := [.int 0]) ⟨hx, hb, hml, hown, hts⟩ (c_X1_toner l D cI cC cQ H.size h0 a se ki ha sl ch ci dk li re dt la us sp rf 0 ((k_in (by decide)))) (kcwV hts wd_ml_RX1_96 wd_im_yX1_toner wd_sel_yX1_toner wd_ini_RX1 wd_code_yX1_toner rfl rfl rfl hd_X1_toner ⟨Nat.le_of_ble_eq_true rfl, Nat.le_of_ble_eq_true rfl⟩) ⟨in_blind, va_recv hK (pa_l (pa_r hPs)) (ci := 1) (q0 := 0) rfl rfl, k_pre hK (pa_l (pa_r hPs)) (da_l (da_r hDs)) hN⟩ rfl rfl hl.1 rfl (lv_room (Nat.le_of_ble_eq_true rfl)) dX1_allToner_12 ⟨Nat.le_of_ble_eq_true rfl, Nat.le_of_ble_eq_true rfl⟩) hPs hDs hS hA (fun r1 u2 H locs hw3 hP hD hS => ?_)
  have hP := k_unP hP
  have hD := k_unD hD
  have hP : va_P D vwCl (MW cI h0 a se ki ha sl ch ci dk li re dt la us sp rf) H := hP
  have hD : va_D A (MW cI h0 a se ki ha sl ch ci dk li re dt la us sp rf) := hD
  have hw3 : r1 = (sh_X1_toner ha sl 0) := hw3
  subst hw3
  refine lv_iadd hx hb dX1_allToner_15 ?_
  refine lv_istore_n (lv' := [(1, .int (0 + (sh_X1_toner ha sl 0))), (2, .int 0), (0, .ref h0)]) hx hb dX1_allToner_16 rfl hl (by decide) rfl (fun ls hl => ?_)
  refine lv_iinc (v := 1) (lv' := [(2, .int 1), (1, .int (0 + (sh_X1_toner ha sl 0))), (0, .ref h0)]) hx hb dX1_allToner_17 hl (k := 1) rfl (by decide) (by decide) rfl (fun ls hl => ?_)
  refine lv_goto (tgt := 4) hx hb dX1_allToner_20 (by decide) ?_
  refine lv_iload_n hx hb dX1_allToner_4 rfl (lv_at hl 0 rfl) ?_
  refine lv_iconst (v := 4) hx hb dX1_allToner_5 (by decide) ?_
  refine lv_icmp_ge (tgt := 23) hx hb dX1_allToner_6 (by decide) (fun c9 => absurd c9 (by decide)) (fun _ => ?_)
  refine lv_iload_n hx hb dX1_allToner_9 rfl (lv_at hl 1 rfl) ?_
  refine lv_aload_n hx hb dX1_allToner_10 rfl (lv_at hl 2 rfl) ?_
  refine lv_iload_n hx hb dX1_allToner_11 rfl (lv_at hl 0 rfl) ?_
  have hPs := k_self hP
  have hDs := k_selfD hD
  refine k_behi (X := []) (Y := []) (va_runV (As := [.int 1]) (rest := [.int (0 + (sh_X1_toner ha sl 0))]) ⟨hx, hb, hml, hown, hts⟩ (c_X1_toner l D cI cC cQ H.size h0 a se ki ha sl ch ci dk li re dt la us sp rf 1 ((k_in (by decide)))) (kcwV hts wd_ml_RX1_96 wd_im_yX1_toner wd_sel_yX1_toner wd_ini_RX1 wd_code_yX1_toner rfl rfl rfl hd_X1_toner ⟨Nat.le_of_ble_eq_true rfl, Nat.le_of_ble_eq_true rfl⟩) ⟨in_blind, va_recv hK (pa_l (pa_r hPs)) (ci := 1) (q0 := 0) rfl rfl, k_pre hK (pa_l (pa_r hPs)) (da_l (da_r hDs)) hN⟩ rfl rfl hl.1 rfl (lv_room (Nat.le_of_ble_eq_true rfl)) dX1_allToner_12 ⟨Nat.le_of_ble_eq_true rfl, Nat.le_of_ble_eq_true rfl⟩) hPs hDs hS hA (fun r4 u5 H locs hw6 hP hD hS => ?_)
  have hP := k_unP hP
  have hD := k_unD hD
  have hP : va_P D vwCl (MW cI h0 a se ki ha sl ch ci dk li re dt la us sp rf) H := hP
  have hD : va_D A (MW cI h0 a se ki ha sl ch ci dk li re dt la us sp rf) := hD
  have hw6 : r4 = (sh_X1_toner ha sl 1) := hw6
  subst hw6
  refine lv_iadd hx hb dX1_allToner_15 ?_
  refine lv_istore_n (lv' := [(1, .int ((0 + (sh_X1_toner ha sl 0)) + (sh_X1_toner ha sl 1))), (2, .int 1), (0, .ref h0)]) hx hb dX1_allToner_16 rfl hl (by decide) rfl (fun ls hl => ?_)
  refine lv_iinc (v := 2) (lv' := [(2, .int 2), (1, .int ((0 + (sh_X1_toner ha sl 0)) + (sh_X1_toner ha sl 1))), (0, .ref h0)]) hx hb dX1_allToner_17 hl (k := 1) rfl (by decide) (by decide) rfl (fun ls hl => ?_)
  refine lv_goto (tgt := 4) hx hb dX1_allToner_20 (by decide) ?_
  refine lv_iload_n hx hb dX1_allToner_4 rfl (lv_at hl 0 rfl) ?_
  refine lv_iconst (v := 4) hx hb dX1_allToner_5 (by decide) ?_
  refine lv_icmp_ge (tgt := 23) hx hb dX1_allToner_6 (by decide) (fun c9 => absurd c9 (by decide)) (fun _ => ?_)
  refine lv_iload_n hx hb dX1_allToner_9 rfl (lv_at hl 1 rfl) ?_
  refine lv_aload_n hx hb dX1_allToner_10 rfl (lv_at hl 2 rfl) ?_
  refine lv_iload_n hx hb dX1_allToner_11 rfl (lv_at hl 0 rfl) ?_
  have hPs := k_self hP
  have hDs := k_selfD hD
  refine k_behi (X := []) (Y := []) (va_runV (As := [.int 2]) (rest := [.int ((0 + (sh_X1_toner ha sl 0)) + (sh_X1_toner ha sl 1))]) ⟨hx, hb, hml, hown, hts⟩ (c_X1_toner l D cI cC cQ H.size h0 a se ki ha sl ch ci dk li re dt la us sp rf 2 ((k_in (by decide)))) (kcwV hts wd_ml_RX1_96 wd_im_yX1_toner wd_sel_yX1_toner wd_ini_RX1 wd_code_yX1_toner rfl rfl rfl hd_X1_toner ⟨Nat.le_of_ble_eq_true rfl, Nat.le_of_ble_eq_true rfl⟩) ⟨in_blind, va_recv hK (pa_l (pa_r hPs)) (ci := 1) (q0 := 0) rfl rfl, k_pre hK (pa_l (pa_r hPs)) (da_l (da_r hDs)) hN⟩ rfl rfl hl.1 rfl (lv_room (Nat.le_of_ble_eq_true rfl)) dX1_allToner_12 ⟨Nat.le_of_ble_eq_true rfl, Nat.le_of_ble_eq_true rfl⟩) hPs hDs hS hA (fun r7 u8 H locs hw9 hP hD hS => ?_)
  have hP := k_unP hP
  have hD := k_unD hD
  have hP : va_P D vwCl (MW cI h0 a se ki ha sl ch ci dk li re dt la us sp rf) H := hP
  have hD : va_D A (MW cI h0 a se ki ha sl ch ci dk li re dt la us sp rf) := hD
  have hw9 : r7 = (sh_X1_toner ha sl 2) := hw9
  subst hw9
  refine lv_iadd hx hb dX1_allToner_15 ?_
  refine lv_istore_n (lv' := [(1, .int (((0 + (sh_X1_toner ha sl 0)) + (sh_X1_toner ha sl 1)) + (sh_X1_toner ha sl 2))), (2, .int 2), (0, .ref h0)]) hx hb dX1_allToner_16 rfl hl (by decide) rfl (fun ls hl => ?_)
  refine lv_iinc (v := 3) (lv' := [(2, .int 3), (1, .int (((0 + (sh_X1_toner ha sl 0)) + (sh_X1_toner ha sl 1)) + (sh_X1_toner ha sl 2))), (0, .ref h0)]) hx hb dX1_allToner_17 hl (k := 1) rfl (by decide) (by decide) rfl (fun ls hl => ?_)
  refine lv_goto (tgt := 4) hx hb dX1_allToner_20 (by decide) ?_
  refine lv_iload_n hx hb dX1_allToner_4 rfl (lv_at hl 0 rfl) ?_
  refine lv_iconst (v := 4) hx hb dX1_allToner_5 (by decide) ?_
  refine lv_icmp_ge (tgt := 23) hx hb dX1_allToner_6 (by decide) (fun c9 => absurd c9 (by decide)) (fun _ => ?_)
  refine lv_iload_n hx hb dX1_allToner_9 rfl (lv_at hl 1 rfl) ?_
  refine lv_aload_n hx hb dX1_allToner_10 rfl (lv_at hl 2 rfl) ?_
  refine lv_iload_n hx hb dX1_allToner_11 rfl (lv_at hl 0 rfl) ?_
  have hPs := k_self hP
  have hDs := k_selfD hD
  refine k_behi (X := []) (Y := []) (va_runV (As := [.int 3]) (rest := [.int (((0 + (sh_X1_toner ha sl 0)) + (sh_X1_toner ha sl 1)) + (sh_X1_toner ha sl 2))]) ⟨hx, hb, hml, hown, hts⟩ (c_X1_toner l D cI cC cQ H.size h0 a se ki ha sl ch ci dk li re dt la us sp rf 3 ((k_in (by decide)))) (kcwV hts wd_ml_RX1_96 wd_im_yX1_toner wd_sel_yX1_toner wd_ini_RX1 wd_code_yX1_toner rfl rfl rfl hd_X1_toner ⟨Nat.le_of_ble_eq_true rfl, Nat.le_of_ble_eq_true rfl⟩) ⟨in_blind, va_recv hK (pa_l (pa_r hPs)) (ci := 1) (q0 := 0) rfl rfl, k_pre hK (pa_l (pa_r hPs)) (da_l (da_r hDs)) hN⟩ rfl rfl hl.1 rfl (lv_room (Nat.le_of_ble_eq_true rfl)) dX1_allToner_12 ⟨Nat.le_of_ble_eq_true rfl, Nat.le_of_ble_eq_true rfl⟩) hPs hDs hS hA (fun r10 u11 H locs hw12 hP hD hS => ?_)
  have hP := k_unP hP
  have hD := k_unD hD
  have hP : va_P D vwCl (MW cI h0 a se ki ha sl ch ci dk li re dt la us sp rf) H := hP
  have hD : va_D A (MW cI h0 a se ki ha sl ch ci dk li re dt la us sp rf) := hD
  have hw12 : r10 = (sh_X1_toner ha sl 3) := hw12
  subst hw12
  refine lv_iadd hx hb dX1_allToner_15 ?_
  refine lv_istore_n (lv' := [(1, .int ((((0 + (sh_X1_toner ha sl 0)) + (sh_X1_toner ha sl 1)) + (sh_X1_toner ha sl 2)) + (sh_X1_toner ha sl 3))), (2, .int 3), (0, .ref h0)]) hx hb dX1_allToner_16 rfl hl (by decide) rfl (fun ls hl => ?_)
  refine lv_iinc (v := 4) (lv' := [(2, .int 4), (1, .int ((((0 + (sh_X1_toner ha sl 0)) + (sh_X1_toner ha sl 1)) + (sh_X1_toner ha sl 2)) + (sh_X1_toner ha sl 3))), (0, .ref h0)]) hx hb dX1_allToner_17 hl (k := 1) rfl (by decide) (by decide) rfl (fun ls hl => ?_)
  refine lv_goto (tgt := 4) hx hb dX1_allToner_20 (by decide) ?_
  refine lv_iload_n hx hb dX1_allToner_4 rfl (lv_at hl 0 rfl) ?_
  refine lv_iconst (v := 4) hx hb dX1_allToner_5 (by decide) ?_
  refine lv_icmp_ge (tgt := 23) hx hb dX1_allToner_6 (by decide) (fun _ => ?_) (fun c9 => absurd c9 (by decide))
  refine lv_iload_n hx hb dX1_allToner_23 rfl (lv_at hl 1 rfl) ?_
  exact hret _ _ _ _ (((((0 + (sh_X1_toner ha sl 0)) + (sh_X1_toner ha sl 1)) + (sh_X1_toner ha sl 2)) + (sh_X1_toner ha sl 3))) () dX1_allToner_24 rfl (hq.symm.trans hX) hP hD hS
def sh_X1_allToldLeft (se : Nat → Int32) (ha : Nat → Int32) (sl : Nat → Int32) (ch : Nat → Int32) : Int32 := ((((0 + (sh_X1_toldLeft se ha sl ch 0)) + (sh_X1_toldLeft se ha sl ch 1)) + (sh_X1_toldLeft se ha sl ch 2)) + (sh_X1_toldLeft se ha sl ch 3))
abbrev rm_X1_allToldLeft : Room := { frames := 3, cells := 0, slots := 0, locals := 63 }
theorem hd_X1_allToldLeft : hdT yX1_allToldLeft 0 := by decide +kernel
set_option maxHeartbeats 40000000 in
set_option maxRecDepth 100000 in
theorem c_X1_allToldLeft (l : Launch) (D : va_G) (cI cC cQ : ClassId) (sz : Nat) (h0 : Nat) (a : Nat → Nat) (se : Nat → Int32) (ki : Nat → Int32) (ha : Nat → Int32) (sl : Nat → Int32) (ch : Nat → Int32) (ci : Nat → Int32) (dk : Nat → Int32) (li : Nat → Int32) (re : Nat → Int32) (dt : Nat → Int32) (la : Nat → Int32) (us : Int32) (sp : Int32) (rf : Int32)   : Met l yX1_allToldLeft (wsO yX1_allToldLeft cX1_allToldLeft 3 (some .int)) rm_X1_allToldLeft (va_Pc [.ref h0] (inW D (TYS cI cC cQ) (MW cI h0 a se ki ha sl ch ci dk li re dt la us sp rf) sz)) (va_Qi (fun (r : Int32) (_ : Unit) => r = sh_X1_allToldLeft se ha sl ch) (fun (u : Unit) => atW D (TYS cI cC cQ) (va_A (MW cI h0 a se ki ha sl ch ci dk li re dt la us sp rf) sz) (MW cI h0 a se ki ha sl ch ci dk li re dt la us sp rf)) (va_A (MW cI h0 a se ki ha sl ch ci dk li re dt la us sp rf) sz)) 0 0 (va_A (MW cI h0 a se ki ha sl ch ci dk li re dt la us sp rf) sz) := by
  refine k_meti .int rfl (by decide) (Nat.le_of_ble_eq_true rfl) ?_
  intro p e s m args below meth c A ls Q H locs hargs hret hx hb hts hown hml hname hN hA hS hP hK hD hl
  have hl : lv_has ls 3 [(0, .ref h0)] := hl
  obtain ⟨Xq, hX⟩ : ∃ Xq, Xq = sh_X1_allToldLeft se ha sl ch := ⟨_, rfl⟩
  have hq : Xq = ((((0 + (sh_X1_toldLeft se ha sl ch 0)) + (sh_X1_toldLeft se ha sl ch 1)) + (sh_X1_toldLeft se ha sl ch 2)) + (sh_X1_toldLeft se ha sl ch 3)) := hX
  refine lv_iconst (v := 0) hx hb dX1_allToldLeft_0 (by decide) ?_
  refine lv_istore_n (lv' := [(1, .int 0), (0, .ref h0)]) hx hb dX1_allToldLeft_1 rfl hl (by decide) rfl (fun ls hl => ?_)
  refine lv_iconst (v := 0) hx hb dX1_allToldLeft_2 (by decide) ?_
  refine lv_istore_n (lv' := [(2, .int 0), (1, .int 0), (0, .ref h0)]) hx hb dX1_allToldLeft_3 rfl hl (by decide) rfl (fun ls hl => ?_)
  refine lv_iload_n hx hb dX1_allToldLeft_4 rfl (lv_at hl 0 rfl) ?_
  refine lv_iconst (v := 4) hx hb dX1_allToldLeft_5 (by decide) ?_
  refine lv_icmp_ge (tgt := 23) hx hb dX1_allToldLeft_6 (by decide) (fun c9 => absurd c9 (by decide)) (fun _ => ?_)
  refine lv_iload_n hx hb dX1_allToldLeft_9 rfl (lv_at hl 1 rfl) ?_
  refine lv_aload_n hx hb dX1_allToldLeft_10 rfl (lv_at hl 2 rfl) ?_
  refine lv_iload_n hx hb dX1_allToldLeft_11 rfl (lv_at hl 0 rfl) ?_
  have hPs := k_self hP
  have hDs := k_selfD hD
  refine k_behi (X := []) (Y := []) (va_runV (As := [.int 0]) (rest := [.int 0]) ⟨hx, hb, hml, hown, hts⟩ (c_X1_toldLeft l D cI cC cQ H.size h0 a se ki ha sl ch ci dk li re dt la us sp rf 0 ((k_in (by decide)))) (kcwV hts wd_ml_RX1_102 wd_im_yX1_toldLeft wd_sel_yX1_toldLeft wd_ini_RX1 wd_code_yX1_toldLeft rfl rfl rfl hd_X1_toldLeft ⟨Nat.le_of_ble_eq_true rfl, Nat.le_of_ble_eq_true rfl⟩) ⟨in_blind, va_recv hK (pa_l (pa_r hPs)) (ci := 1) (q0 := 0) rfl rfl, k_pre hK (pa_l (pa_r hPs)) (da_l (da_r hDs)) hN⟩ rfl rfl hl.1 rfl (lv_room (Nat.le_of_ble_eq_true rfl)) dX1_allToldLeft_12 ⟨Nat.le_of_ble_eq_true rfl, Nat.le_of_ble_eq_true rfl⟩) hPs hDs hS hA (fun r1 u2 H locs hw3 hP hD hS => ?_)
  have hP := k_unP hP
  have hD := k_unD hD
  have hP : va_P D vwCl (MW cI h0 a se ki ha sl ch ci dk li re dt la us sp rf) H := hP
  have hD : va_D A (MW cI h0 a se ki ha sl ch ci dk li re dt la us sp rf) := hD
  have hw3 : r1 = (sh_X1_toldLeft se ha sl ch 0) := hw3
  subst hw3
  refine lv_iadd hx hb dX1_allToldLeft_15 ?_
  refine lv_istore_n (lv' := [(1, .int (0 + (sh_X1_toldLeft se ha sl ch 0))), (2, .int 0), (0, .ref h0)]) hx hb dX1_allToldLeft_16 rfl hl (by decide) rfl (fun ls hl => ?_)
  refine lv_iinc (v := 1) (lv' := [(2, .int 1), (1, .int (0 + (sh_X1_toldLeft se ha sl ch 0))), (0, .ref h0)]) hx hb dX1_allToldLeft_17 hl (k := 1) rfl (by decide) (by decide) rfl (fun ls hl => ?_)
  refine lv_goto (tgt := 4) hx hb dX1_allToldLeft_20 (by decide) ?_
  refine lv_iload_n hx hb dX1_allToldLeft_4 rfl (lv_at hl 0 rfl) ?_
  refine lv_iconst (v := 4) hx hb dX1_allToldLeft_5 (by decide) ?_
  refine lv_icmp_ge (tgt := 23) hx hb dX1_allToldLeft_6 (by decide) (fun c9 => absurd c9 (by decide)) (fun _ => ?_)
  refine lv_iload_n hx hb dX1_allToldLeft_9 rfl (lv_at hl 1 rfl) ?_
  refine lv_aload_n hx hb dX1_allToldLeft_10 rfl (lv_at hl 2 rfl) ?_
  refine lv_iload_n hx hb dX1_allToldLeft_11 rfl (lv_at hl 0 rfl) ?_
  have hPs := k_self hP
  have hDs := k_selfD hD
  refine k_behi (X := []) (Y := []) (va_runV (As := [.int 1]) (rest := [.int (0 + (sh_X1_toldLeft se ha sl ch 0))]) ⟨hx, hb, hml, hown, hts⟩ (c_X1_toldLeft l D cI cC cQ H.size h0 a se ki ha sl ch ci dk li re dt la us sp rf 1 ((k_in (by decide)))) (kcwV hts wd_ml_RX1_102 wd_im_yX1_toldLeft wd_sel_yX1_toldLeft wd_ini_RX1 wd_code_yX1_toldLeft rfl rfl rfl hd_X1_toldLeft ⟨Nat.le_of_ble_eq_true rfl, Nat.le_of_ble_eq_true rfl⟩) ⟨in_blind, va_recv hK (pa_l (pa_r hPs)) (ci := 1) (q0 := 0) rfl rfl, k_pre hK (pa_l (pa_r hPs)) (da_l (da_r hDs)) hN⟩ rfl rfl hl.1 rfl (lv_room (Nat.le_of_ble_eq_true rfl)) dX1_allToldLeft_12 ⟨Nat.le_of_ble_eq_true rfl, Nat.le_of_ble_eq_true rfl⟩) hPs hDs hS hA (fun r4 u5 H locs hw6 hP hD hS => ?_)
  have hP := k_unP hP
  have hD := k_unD hD
  have hP : va_P D vwCl (MW cI h0 a se ki ha sl ch ci dk li re dt la us sp rf) H := hP
  have hD : va_D A (MW cI h0 a se ki ha sl ch ci dk li re dt la us sp rf) := hD
  have hw6 : r4 = (sh_X1_toldLeft se ha sl ch 1) := hw6
  subst hw6
  refine lv_iadd hx hb dX1_allToldLeft_15 ?_
  refine lv_istore_n (lv' := [(1, .int ((0 + (sh_X1_toldLeft se ha sl ch 0)) + (sh_X1_toldLeft se ha sl ch 1))), (2, .int 1), (0, .ref h0)]) hx hb dX1_allToldLeft_16 rfl hl (by decide) rfl (fun ls hl => ?_)
  refine lv_iinc (v := 2) (lv' := [(2, .int 2), (1, .int ((0 + (sh_X1_toldLeft se ha sl ch 0)) + (sh_X1_toldLeft se ha sl ch 1))), (0, .ref h0)]) hx hb dX1_allToldLeft_17 hl (k := 1) rfl (by decide) (by decide) rfl (fun ls hl => ?_)
  refine lv_goto (tgt := 4) hx hb dX1_allToldLeft_20 (by decide) ?_
  refine lv_iload_n hx hb dX1_allToldLeft_4 rfl (lv_at hl 0 rfl) ?_
  refine lv_iconst (v := 4) hx hb dX1_allToldLeft_5 (by decide) ?_
  refine lv_icmp_ge (tgt := 23) hx hb dX1_allToldLeft_6 (by decide) (fun c9 => absurd c9 (by decide)) (fun _ => ?_)
  refine lv_iload_n hx hb dX1_allToldLeft_9 rfl (lv_at hl 1 rfl) ?_
  refine lv_aload_n hx hb dX1_allToldLeft_10 rfl (lv_at hl 2 rfl) ?_
  refine lv_iload_n hx hb dX1_allToldLeft_11 rfl (lv_at hl 0 rfl) ?_
  have hPs := k_self hP
  have hDs := k_selfD hD
  refine k_behi (X := []) (Y := []) (va_runV (As := [.int 2]) (rest := [.int ((0 + (sh_X1_toldLeft se ha sl ch 0)) + (sh_X1_toldLeft se ha sl ch 1))]) ⟨hx, hb, hml, hown, hts⟩ (c_X1_toldLeft l D cI cC cQ H.size h0 a se ki ha sl ch ci dk li re dt la us sp rf 2 ((k_in (by decide)))) (kcwV hts wd_ml_RX1_102 wd_im_yX1_toldLeft wd_sel_yX1_toldLeft wd_ini_RX1 wd_code_yX1_toldLeft rfl rfl rfl hd_X1_toldLeft ⟨Nat.le_of_ble_eq_true rfl, Nat.le_of_ble_eq_true rfl⟩) ⟨in_blind, va_recv hK (pa_l (pa_r hPs)) (ci := 1) (q0 := 0) rfl rfl, k_pre hK (pa_l (pa_r hPs)) (da_l (da_r hDs)) hN⟩ rfl rfl hl.1 rfl (lv_room (Nat.le_of_ble_eq_true rfl)) dX1_allToldLeft_12 ⟨Nat.le_of_ble_eq_true rfl, Nat.le_of_ble_eq_true rfl⟩) hPs hDs hS hA (fun r7 u8 H locs hw9 hP hD hS => ?_)
  have hP := k_unP hP
  have hD := k_unD hD
  have hP : va_P D vwCl (MW cI h0 a se ki ha sl ch ci dk li re dt la us sp rf) H := hP
  have hD : va_D A (MW cI h0 a se ki ha sl ch ci dk li re dt la us sp rf) := hD
  have hw9 : r7 = (sh_X1_toldLeft se ha sl ch 2) := hw9
  subst hw9
  refine lv_iadd hx hb dX1_allToldLeft_15 ?_
  refine lv_istore_n (lv' := [(1, .int (((0 + (sh_X1_toldLeft se ha sl ch 0)) + (sh_X1_toldLeft se ha sl ch 1)) + (sh_X1_toldLeft se ha sl ch 2))), (2, .int 2), (0, .ref h0)]) hx hb dX1_allToldLeft_16 rfl hl (by decide) rfl (fun ls hl => ?_)
  refine lv_iinc (v := 3) (lv' := [(2, .int 3), (1, .int (((0 + (sh_X1_toldLeft se ha sl ch 0)) + (sh_X1_toldLeft se ha sl ch 1)) + (sh_X1_toldLeft se ha sl ch 2))), (0, .ref h0)]) hx hb dX1_allToldLeft_17 hl (k := 1) rfl (by decide) (by decide) rfl (fun ls hl => ?_)
  refine lv_goto (tgt := 4) hx hb dX1_allToldLeft_20 (by decide) ?_
  refine lv_iload_n hx hb dX1_allToldLeft_4 rfl (lv_at hl 0 rfl) ?_
  refine lv_iconst (v := 4) hx hb dX1_allToldLeft_5 (by decide) ?_
  refine lv_icmp_ge (tgt := 23) hx hb dX1_allToldLeft_6 (by decide) (fun c9 => absurd c9 (by decide)) (fun _ => ?_)
  refine lv_iload_n hx hb dX1_allToldLeft_9 rfl (lv_at hl 1 rfl) ?_
  refine lv_aload_n hx hb dX1_allToldLeft_10 rfl (lv_at hl 2 rfl) ?_
  refine lv_iload_n hx hb dX1_allToldLeft_11 rfl (lv_at hl 0 rfl) ?_
  have hPs := k_self hP
  have hDs := k_selfD hD
  refine k_behi (X := []) (Y := []) (va_runV (As := [.int 3]) (rest := [.int (((0 + (sh_X1_toldLeft se ha sl ch 0)) + (sh_X1_toldLeft se ha sl ch 1)) + (sh_X1_toldLeft se ha sl ch 2))]) ⟨hx, hb, hml, hown, hts⟩ (c_X1_toldLeft l D cI cC cQ H.size h0 a se ki ha sl ch ci dk li re dt la us sp rf 3 ((k_in (by decide)))) (kcwV hts wd_ml_RX1_102 wd_im_yX1_toldLeft wd_sel_yX1_toldLeft wd_ini_RX1 wd_code_yX1_toldLeft rfl rfl rfl hd_X1_toldLeft ⟨Nat.le_of_ble_eq_true rfl, Nat.le_of_ble_eq_true rfl⟩) ⟨in_blind, va_recv hK (pa_l (pa_r hPs)) (ci := 1) (q0 := 0) rfl rfl, k_pre hK (pa_l (pa_r hPs)) (da_l (da_r hDs)) hN⟩ rfl rfl hl.1 rfl (lv_room (Nat.le_of_ble_eq_true rfl)) dX1_allToldLeft_12 ⟨Nat.le_of_ble_eq_true rfl, Nat.le_of_ble_eq_true rfl⟩) hPs hDs hS hA (fun r10 u11 H locs hw12 hP hD hS => ?_)
  have hP := k_unP hP
  have hD := k_unD hD
  have hP : va_P D vwCl (MW cI h0 a se ki ha sl ch ci dk li re dt la us sp rf) H := hP
  have hD : va_D A (MW cI h0 a se ki ha sl ch ci dk li re dt la us sp rf) := hD
  have hw12 : r10 = (sh_X1_toldLeft se ha sl ch 3) := hw12
  subst hw12
  refine lv_iadd hx hb dX1_allToldLeft_15 ?_
  refine lv_istore_n (lv' := [(1, .int ((((0 + (sh_X1_toldLeft se ha sl ch 0)) + (sh_X1_toldLeft se ha sl ch 1)) + (sh_X1_toldLeft se ha sl ch 2)) + (sh_X1_toldLeft se ha sl ch 3))), (2, .int 3), (0, .ref h0)]) hx hb dX1_allToldLeft_16 rfl hl (by decide) rfl (fun ls hl => ?_)
  refine lv_iinc (v := 4) (lv' := [(2, .int 4), (1, .int ((((0 + (sh_X1_toldLeft se ha sl ch 0)) + (sh_X1_toldLeft se ha sl ch 1)) + (sh_X1_toldLeft se ha sl ch 2)) + (sh_X1_toldLeft se ha sl ch 3))), (0, .ref h0)]) hx hb dX1_allToldLeft_17 hl (k := 1) rfl (by decide) (by decide) rfl (fun ls hl => ?_)
  refine lv_goto (tgt := 4) hx hb dX1_allToldLeft_20 (by decide) ?_
  refine lv_iload_n hx hb dX1_allToldLeft_4 rfl (lv_at hl 0 rfl) ?_
  refine lv_iconst (v := 4) hx hb dX1_allToldLeft_5 (by decide) ?_
  refine lv_icmp_ge (tgt := 23) hx hb dX1_allToldLeft_6 (by decide) (fun _ => ?_) (fun c9 => absurd c9 (by decide))
  refine lv_iload_n hx hb dX1_allToldLeft_23 rfl (lv_at hl 1 rfl) ?_
  exact hret _ _ _ _ (((((0 + (sh_X1_toldLeft se ha sl ch 0)) + (sh_X1_toldLeft se ha sl ch 1)) + (sh_X1_toldLeft se ha sl ch 2)) + (sh_X1_toldLeft se ha sl ch 3))) () dX1_allToldLeft_24 rfl (hq.symm.trans hX) hP hD hS
def sh_X1_darkOfAll (dk : Nat → Int32) : Int32 := ((dk (0 : Int32).toNatClampNeg) + (dk (1 : Int32).toNatClampNeg))
abbrev rm_X1_darkOfAll : Room := { frames := 0, cells := 0, slots := 0, locals := 0 }
theorem hd_X1_darkOfAll : hdT yX1_darkOfAll 0 := by decide +kernel
set_option maxHeartbeats 40000000 in
set_option maxRecDepth 100000 in
theorem c_X1_darkOfAll (l : Launch) (D : va_G) (cI cC cQ : ClassId) (sz : Nat) (h0 : Nat) (a : Nat → Nat) (se : Nat → Int32) (ki : Nat → Int32) (ha : Nat → Int32) (sl : Nat → Int32) (ch : Nat → Int32) (ci : Nat → Int32) (dk : Nat → Int32) (li : Nat → Int32) (re : Nat → Int32) (dt : Nat → Int32) (la : Nat → Int32) (us : Int32) (sp : Int32) (rf : Int32)   : Met l yX1_darkOfAll (wsO yX1_darkOfAll cX1_darkOfAll 1 (some .int)) rm_X1_darkOfAll (va_Pc [.ref h0] (inW D (TYS cI cC cQ) (MW cI h0 a se ki ha sl ch ci dk li re dt la us sp rf) sz)) (va_Qi (fun (r : Int32) (_ : Unit) => r = sh_X1_darkOfAll dk) (fun (u : Unit) => atW D (TYS cI cC cQ) (va_A (MW cI h0 a se ki ha sl ch ci dk li re dt la us sp rf) sz) (MW cI h0 a se ki ha sl ch ci dk li re dt la us sp rf)) (va_A (MW cI h0 a se ki ha sl ch ci dk li re dt la us sp rf) sz)) 0 0 (va_A (MW cI h0 a se ki ha sl ch ci dk li re dt la us sp rf) sz) := by
  refine k_meti .int rfl (by decide) (Nat.le_of_ble_eq_true rfl) ?_
  intro p e s m args below meth c A ls Q H locs hargs hret hx hb hts hown hml hname hN hA hS hP hK hD hl
  have hl : lv_has ls 1 [(0, .ref h0)] := hl
  obtain ⟨Xq, hX⟩ : ∃ Xq, Xq = sh_X1_darkOfAll dk := ⟨_, rfl⟩
  have hq : Xq = ((dk (0 : Int32).toNatClampNeg) + (dk (1 : Int32).toNatClampNeg)) := hX
  refine lv_aload_n hx hb dX1_darkOfAll_0 rfl (lv_at hl 0 rfl) ?_
  refine va_get (D := D) (ci := 1) (v := .ref (a 6)) (C := RX1) (T := TX1) (N := 14) hx hb hts inA1 hown hK hP 0 rfl rfl 6 (by decide) (hts _ wd_fl_RX1_30) (fun _ h9 => h9) rfl dX1_darkOfAll_1 ?_
  refine lv_iconst (v := 0) hx hb dX1_darkOfAll_4 (by decide) ?_
  refine va_iald hx hb hK hP 7 0 rfl rfl (k_in (by decide)) dX1_darkOfAll_5 ?_
  refine lv_aload_n hx hb dX1_darkOfAll_6 rfl (lv_at hl 0 rfl) ?_
  refine va_get (D := D) (ci := 1) (v := .ref (a 6)) (C := RX1) (T := TX1) (N := 14) hx hb hts inA1 hown hK hP 0 rfl rfl 6 (by decide) (hts _ wd_fl_RX1_30) (fun _ h9 => h9) rfl dX1_darkOfAll_7 ?_
  refine lv_iconst (v := 1) hx hb dX1_darkOfAll_10 (by decide) ?_
  refine va_iald hx hb hK hP 7 0 rfl rfl (k_in (by decide)) dX1_darkOfAll_11 ?_
  refine lv_iadd hx hb dX1_darkOfAll_12 ?_
  exact hret _ _ _ _ (((dk (0 : Int32).toNatClampNeg) + (dk (1 : Int32).toNatClampNeg))) () dX1_darkOfAll_13 rfl (hq.symm.trans hX) hP hD hS
def sh_X1_lightOfAll (li : Nat → Int32) : Int32 := ((li (0 : Int32).toNatClampNeg) + (li (1 : Int32).toNatClampNeg))
abbrev rm_X1_lightOfAll : Room := { frames := 0, cells := 0, slots := 0, locals := 0 }
theorem hd_X1_lightOfAll : hdT yX1_lightOfAll 0 := by decide +kernel
set_option maxHeartbeats 40000000 in
set_option maxRecDepth 100000 in
theorem c_X1_lightOfAll (l : Launch) (D : va_G) (cI cC cQ : ClassId) (sz : Nat) (h0 : Nat) (a : Nat → Nat) (se : Nat → Int32) (ki : Nat → Int32) (ha : Nat → Int32) (sl : Nat → Int32) (ch : Nat → Int32) (ci : Nat → Int32) (dk : Nat → Int32) (li : Nat → Int32) (re : Nat → Int32) (dt : Nat → Int32) (la : Nat → Int32) (us : Int32) (sp : Int32) (rf : Int32)   : Met l yX1_lightOfAll (wsO yX1_lightOfAll cX1_lightOfAll 1 (some .int)) rm_X1_lightOfAll (va_Pc [.ref h0] (inW D (TYS cI cC cQ) (MW cI h0 a se ki ha sl ch ci dk li re dt la us sp rf) sz)) (va_Qi (fun (r : Int32) (_ : Unit) => r = sh_X1_lightOfAll li) (fun (u : Unit) => atW D (TYS cI cC cQ) (va_A (MW cI h0 a se ki ha sl ch ci dk li re dt la us sp rf) sz) (MW cI h0 a se ki ha sl ch ci dk li re dt la us sp rf)) (va_A (MW cI h0 a se ki ha sl ch ci dk li re dt la us sp rf) sz)) 0 0 (va_A (MW cI h0 a se ki ha sl ch ci dk li re dt la us sp rf) sz) := by
  refine k_meti .int rfl (by decide) (Nat.le_of_ble_eq_true rfl) ?_
  intro p e s m args below meth c A ls Q H locs hargs hret hx hb hts hown hml hname hN hA hS hP hK hD hl
  have hl : lv_has ls 1 [(0, .ref h0)] := hl
  obtain ⟨Xq, hX⟩ : ∃ Xq, Xq = sh_X1_lightOfAll li := ⟨_, rfl⟩
  have hq : Xq = ((li (0 : Int32).toNatClampNeg) + (li (1 : Int32).toNatClampNeg)) := hX
  refine lv_aload_n hx hb dX1_lightOfAll_0 rfl (lv_at hl 0 rfl) ?_
  refine va_get (D := D) (ci := 1) (v := .ref (a 7)) (C := RX1) (T := TX1) (N := 14) hx hb hts inA1 hown hK hP 0 rfl rfl 7 (by decide) (hts _ wd_fl_RX1_33) (fun _ h9 => h9) rfl dX1_lightOfAll_1 ?_
  refine lv_iconst (v := 0) hx hb dX1_lightOfAll_4 (by decide) ?_
  refine va_iald hx hb hK hP 8 0 rfl rfl (k_in (by decide)) dX1_lightOfAll_5 ?_
  refine lv_aload_n hx hb dX1_lightOfAll_6 rfl (lv_at hl 0 rfl) ?_
  refine va_get (D := D) (ci := 1) (v := .ref (a 7)) (C := RX1) (T := TX1) (N := 14) hx hb hts inA1 hown hK hP 0 rfl rfl 7 (by decide) (hts _ wd_fl_RX1_33) (fun _ h9 => h9) rfl dX1_lightOfAll_7 ?_
  refine lv_iconst (v := 1) hx hb dX1_lightOfAll_10 (by decide) ?_
  refine va_iald hx hb hK hP 8 0 rfl rfl (k_in (by decide)) dX1_lightOfAll_11 ?_
  refine lv_iadd hx hb dX1_lightOfAll_12 ?_
  exact hret _ _ _ _ (((li (0 : Int32).toNatClampNeg) + (li (1 : Int32).toNatClampNeg))) () dX1_lightOfAll_13 rfl (hq.symm.trans hX) hP hD hS
