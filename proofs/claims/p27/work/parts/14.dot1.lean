theorem k_lk01 {x : Int32} {o1 o2 dflt : Int} (h1 : ¬ x = 0) (h2 : ¬ x = 1) : Op.lookupswitch.offset [(0, o1), (1, o2)] dflt x.toInt = dflt := by
  have := k_ne h1; have := k_ne h2
  simp only [show (1 : Int32).toInt = 1 from rfl, show (0 : Int32).toInt = 0 from rfl] at *
  simp [Op.lookupswitch.offset, *]
  try omega
abbrev OB (d0 n0 s0 h1 p0 t0 : Nat) (tk : Int32) : va_W := [(d0, .inr (4, [.ref n0, .ref s0, .int tk, .ref h1, .ref p0, .ref t0]))]
/-- all the cells of a DotToner -/
abbrev DW (cI cC cQ : ClassId) (d0 n0 : Nat) (na : Nat → Nat) (s0 : Nat) (sa : Nat → Nat) (h1 h2 : Nat) (mm : Nat → Nat) (ma : Nat → Nat → Nat) (t0 p0 : Nat) (pa : Nat → Nat) (tk : Int32) (N S : TMa) (oo zz : Int32) (M0 M1 M2 M3 : TMa) (rs de pc pg : Int32) (sg : Nat → Int32) (ln po dd : Int32) (lt pl f1s s2s tms : Nat → Int32) : va_W := OB d0 n0 s0 h1 p0 t0 tk ++ (SW t0 rs de pc pg ++ (PW cI cC p0 pa sg ln po dd lt pl f1s s2s tms ++ (MT cI s0 sa S ++ KW cI cQ n0 na h1 h2 mm ma N oo zz M0 M1 M2 M3)))

def sh_X4_whyNot (N : TMa) (x1 : Int32) : Int32 := (if (sh_X4_isPrinter x1) = 0 then (-1 : Int32) else (sh_X1_refusal N.1 N.2.2.1 N.2.2.2.2.1 (N.2.2.2.2.2.1 x1.toNatClampNeg)))
abbrev rm_X4_whyNot : Room := { frames := 2, cells := 0, slots := 0, locals := 41 }
theorem hd_X4_whyNot : hdT yX4_whyNot 1 := by decide +kernel
set_option maxHeartbeats 40000000 in
set_option maxRecDepth 100000 in
theorem c_X4_whyNot (l : Launch) (D : va_G) (cI cC cQ : ClassId) (sz : Nat) (d0 : Nat) (n0 : Nat) (na : Nat → Nat) (s0 : Nat) (sa : Nat → Nat) (h1 : Nat) (h2 : Nat) (mm : Nat → Nat) (ma : Nat → Nat → Nat) (t0 : Nat) (p0 : Nat) (pa : Nat → Nat) (tk : Int32) (N : TMa) (S : TMa) (oo : Int32) (zz : Int32) (M0 : TMa) (M1 : TMa) (M2 : TMa) (M3 : TMa) (rs : Int32) (de : Int32) (pc : Int32) (pg : Int32) (sg : Nat → Int32) (ln : Int32) (po : Int32) (dd : Int32) (lt : Nat → Int32) (pl : Nat → Int32) (f1s : Nat → Int32) (s2s : Nat → Int32) (tms : Nat → Int32) (x1 : Int32)  : Met l yX4_whyNot (wsO yX4_whyNot cX4_whyNot 2 (some .int)) rm_X4_whyNot (va_Pc [.ref d0, .int x1] (inW D (TYS cI cC cQ) (DW cI cC cQ d0 n0 na s0 sa h1 h2 mm ma t0 p0 pa tk N S oo zz M0 M1 M2 M3 rs de pc pg sg ln po dd lt pl f1s s2s tms) sz)) (va_Qi (fun (r : Int32) (_ : Unit) => r = sh_X4_whyNot N x1) (fun (u : Unit) => atW D (TYS cI cC cQ) (va_A (DW cI cC cQ d0 n0 na s0 sa h1 h2 mm ma t0 p0 pa tk N S oo zz M0 M1 M2 M3 rs de pc pg sg ln po dd lt pl f1s s2s tms) sz) (DW cI cC cQ d0 n0 na s0 sa h1 h2 mm ma t0 p0 pa tk N S oo zz M0 M1 M2 M3 rs de pc pg sg ln po dd lt pl f1s s2s tms)) (va_A (DW cI cC cQ d0 n0 na s0 sa h1 h2 mm ma t0 p0 pa tk N S oo zz M0 M1 M2 M3 rs de pc pg sg ln po dd lt pl f1s s2s tms) sz)) 0 0 (va_A (DW cI cC cQ d0 n0 na s0 sa h1 h2 mm ma t0 p0 pa tk N S oo zz M0 M1 M2 M3 rs de pc pg sg ln po dd lt pl f1s s2s tms) sz) := by
  refine k_meti .int rfl (by decide) (Nat.le_of_ble_eq_true rfl) ?_
  intro p e s m args below meth c A ls Q H locs hargs hret hx hb hts hown hml hname hN hA hS hP hK hD hl
  have hl : lv_has ls 2 [(0, .ref d0), (1, .int x1)] := hl
  obtain ⟨Xq, hX⟩ : ∃ Xq, Xq = sh_X4_whyNot N x1 := ⟨_, rfl⟩
  have hq : Xq = (if (sh_X4_isPrinter x1) = 0 then (-1 : Int32) else (sh_X1_refusal N.1 N.2.2.1 N.2.2.2.2.1 (N.2.2.2.2.2.1 x1.toNatClampNeg))) := hX
  refine lv_iload_n hx hb dX4_whyNot_0 rfl (lv_at hl 1 rfl) ?_
  have hPs : va_P D vwCl ([] ++ ([] ++ (DW cI cC cQ d0 n0 na s0 sa h1 h2 mm ma t0 p0 pa tk N S oo zz M0 M1 M2 M3 rs de pc pg sg ln po dd lt pl f1s s2s tms))) H := hP
  have hDs : va_D A ([] ++ ([] ++ (DW cI cC cQ d0 n0 na s0 sa h1 h2 mm ma t0 p0 pa tk N S oo zz M0 M1 M2 M3 rs de pc pg sg ln po dd lt pl f1s s2s tms))) := hD
  refine k_behi (X := []) (Y := (DW cI cC cQ d0 n0 na s0 sa h1 h2 mm ma t0 p0 pa tk N S oo zz M0 M1 M2 M3 rs de pc pg sg ln po dd lt pl f1s s2s tms)) (va_runS (As := [.int x1]) (rest := []) ⟨hx, hb, hml, hown, hts⟩ (c_X4_isPrinter l D cI cC cQ H.size x1) (kcwS hts wd_ml_RX4_44 wd_st_yX4_isPrinter wd_ini_RX4 wd_code_yX4_isPrinter rfl rfl hd_X4_isPrinter ⟨Nat.le_of_ble_eq_true rfl, Nat.le_of_ble_eq_true rfl⟩) ⟨in_blind, k_pre hK (pa_l (pa_r hPs)) (da_l (da_r hDs)) hN⟩ rfl rfl hl.1 rfl (lv_room (Nat.le_of_ble_eq_true rfl)) dX4_whyNot_1 ⟨Nat.le_of_ble_eq_true rfl, Nat.le_of_ble_eq_true rfl⟩) hPs hDs hS hA (fun r1 u2 H locs hw3 hP hD hS => ?_)
  have hP : va_P D vwCl (DW cI cC cQ d0 n0 na s0 sa h1 h2 mm ma t0 p0 pa tk N S oo zz M0 M1 M2 M3 rs de pc pg sg ln po dd lt pl f1s s2s tms) H := hP
  have hD : va_D A (DW cI cC cQ d0 n0 na s0 sa h1 h2 mm ma t0 p0 pa tk N S oo zz M0 M1 M2 M3 rs de pc pg sg ln po dd lt pl f1s s2s tms) := hD
  have hw3 : r1 = (sh_X4_isPrinter x1) := hw3
  subst hw3
  refine lv_if_ne (tgt := 9) hx hb dX4_whyNot_4 (by decide) (fun c4 => ?_) (fun c4 => ?_)
  · have hq := it_neg hq c4
    refine lv_aload_n hx hb dX4_whyNot_9 rfl (lv_at hl 0 rfl) ?_
    refine va_get (D := D) (ci := 4) (v := .ref n0) (C := RX4) (T := TX4) (N := 6) hx hb hts inA4 hown hK hP 0 rfl rfl 0 (by decide) (hts _ wd_fl_RX4_10) (fun _ h9 => h9) rfl dX4_whyNot_10 ?_
    refine lv_aload_n hx hb dX4_whyNot_13 rfl (lv_at hl 0 rfl) ?_
    refine va_get (D := D) (ci := 4) (v := .ref n0) (C := RX4) (T := TX4) (N := 6) hx hb hts inA4 hown hK hP 0 rfl rfl 0 (by decide) (hts _ wd_fl_RX4_10) (fun _ h9 => h9) rfl dX4_whyNot_14 ?_
    refine va_get (D := D) (ci := 1) (v := .ref (na 5)) (C := RX1) (T := TX1) (N := 14) hx hb hts inA1 hown hK hP 21 rfl rfl 5 (by decide) (hts _ wd_fl_RX4_69) (fun _ h9 => h9) rfl dX4_whyNot_17 ?_
    refine lv_iload_n hx hb dX4_whyNot_20 rfl (lv_at hl 1 rfl) ?_
    refine va_iald hx hb hK hP 27 0 rfl rfl (isIn2 c4) dX4_whyNot_21 ?_
    have hPs : va_P D vwCl (((OB d0 n0 s0 h1 p0 t0 tk) ++ ((SW t0 rs de pc pg) ++ ((PW cI cC p0 pa sg ln po dd lt pl f1s s2s tms) ++ (MT cI s0 sa S)))) ++ ((MW cI n0 na N.1 N.2.1 N.2.2.1 N.2.2.2.1 N.2.2.2.2.1 N.2.2.2.2.2.1 N.2.2.2.2.2.2.1 N.2.2.2.2.2.2.2.1 N.2.2.2.2.2.2.2.2.1 N.2.2.2.2.2.2.2.2.2.1 N.2.2.2.2.2.2.2.2.2.2.1 N.2.2.2.2.2.2.2.2.2.2.2.1 N.2.2.2.2.2.2.2.2.2.2.2.2.1 N.2.2.2.2.2.2.2.2.2.2.2.2.2) ++ ((HO cQ h1 h2 mm oo zz) ++ ((MT cI (mm 0) (ma 0) M0) ++ ((MT cI (mm 1) (ma 1) M1) ++ ((MT cI (mm 2) (ma 2) M2) ++ (MT cI (mm 3) (ma 3) M3))))))) H := hP
    have hDs : va_D A (((OB d0 n0 s0 h1 p0 t0 tk) ++ ((SW t0 rs de pc pg) ++ ((PW cI cC p0 pa sg ln po dd lt pl f1s s2s tms) ++ (MT cI s0 sa S)))) ++ ((MW cI n0 na N.1 N.2.1 N.2.2.1 N.2.2.2.1 N.2.2.2.2.1 N.2.2.2.2.2.1 N.2.2.2.2.2.2.1 N.2.2.2.2.2.2.2.1 N.2.2.2.2.2.2.2.2.1 N.2.2.2.2.2.2.2.2.2.1 N.2.2.2.2.2.2.2.2.2.2.1 N.2.2.2.2.2.2.2.2.2.2.2.1 N.2.2.2.2.2.2.2.2.2.2.2.2.1 N.2.2.2.2.2.2.2.2.2.2.2.2.2) ++ ((HO cQ h1 h2 mm oo zz) ++ ((MT cI (mm 0) (ma 0) M0) ++ ((MT cI (mm 1) (ma 1) M1) ++ ((MT cI (mm 2) (ma 2) M2) ++ (MT cI (mm 3) (ma 3) M3))))))) := hD
    refine k_behi (X := ((OB d0 n0 s0 h1 p0 t0 tk) ++ ((SW t0 rs de pc pg) ++ ((PW cI cC p0 pa sg ln po dd lt pl f1s s2s tms) ++ (MT cI s0 sa S))))) (Y := ((HO cQ h1 h2 mm oo zz) ++ ((MT cI (mm 0) (ma 0) M0) ++ ((MT cI (mm 1) (ma 1) M1) ++ ((MT cI (mm 2) (ma 2) M2) ++ (MT cI (mm 3) (ma 3) M3)))))) (va_runV (As := [.int (N.2.2.2.2.2.1 x1.toNatClampNeg)]) (rest := []) ⟨hx, hb, hml, hown, hts⟩ (c_X1_refusal l D cI cC cQ H.size n0 na N.1 N.2.1 N.2.2.1 N.2.2.2.1 N.2.2.2.2.1 N.2.2.2.2.2.1 N.2.2.2.2.2.2.1 N.2.2.2.2.2.2.2.1 N.2.2.2.2.2.2.2.2.1 N.2.2.2.2.2.2.2.2.2.1 N.2.2.2.2.2.2.2.2.2.2.1 N.2.2.2.2.2.2.2.2.2.2.2.1 N.2.2.2.2.2.2.2.2.2.2.2.2.1 N.2.2.2.2.2.2.2.2.2.2.2.2.2 (N.2.2.2.2.2.1 x1.toNatClampNeg)) (kcwV hts wd_ml_RX4_179 wd_im_yX1_refusal wd_sel_yX1_refusal wd_ini_RX1 wd_code_yX1_refusal rfl rfl rfl hd_X1_refusal ⟨Nat.le_of_ble_eq_true rfl, Nat.le_of_ble_eq_true rfl⟩) ⟨in_blind, va_recv hK (pa_l (pa_r hPs)) (ci := 1) (q0 := 0) rfl rfl, k_pre hK (pa_l (pa_r hPs)) (da_l (da_r hDs)) hN⟩ rfl rfl hl.1 rfl (lv_room (Nat.le_of_ble_eq_true rfl)) dX4_whyNot_22 ⟨Nat.le_of_ble_eq_true rfl, Nat.le_of_ble_eq_true rfl⟩) hPs hDs hS hA (fun r5 u6 H locs hw7 hP hD hS => ?_)
    have hP : va_P D vwCl (DW cI cC cQ d0 n0 na s0 sa h1 h2 mm ma t0 p0 pa tk N S oo zz M0 M1 M2 M3 rs de pc pg sg ln po dd lt pl f1s s2s tms) H := hP
    have hD : va_D A (DW cI cC cQ d0 n0 na s0 sa h1 h2 mm ma t0 p0 pa tk N S oo zz M0 M1 M2 M3 rs de pc pg sg ln po dd lt pl f1s s2s tms) := hD
    have hw7 : r5 = (sh_X1_refusal N.1 N.2.2.1 N.2.2.2.2.1 (N.2.2.2.2.2.1 x1.toNatClampNeg)) := hw7
    subst hw7
    exact hret _ _ _ _ ((sh_X1_refusal N.1 N.2.2.1 N.2.2.2.2.1 (N.2.2.2.2.2.1 x1.toNatClampNeg))) () dX4_whyNot_25 rfl (hq.symm.trans hX) hP hD hS
  · have hq := it_pos hq c4
    refine lv_iconst (v := (-1)) hx hb dX4_whyNot_7 (by decide) ?_
    exact hret _ _ _ _ ((-1)) () dX4_whyNot_8 rfl (hq.symm.trans hX) hP hD hS
def sh_X4_needs (N : TMa) (x1 : Int32) (x2 : Int32) (x3 : Int32) : Int32 := (if (sh_X4_isCup x1) = 0 then (-1 : Int32) else (if (sh_X4_isDots x2) = 0 then (-1 : Int32) else (if x3 = 0 then (sh_X1_tonerFor N.2.1 x1 x2 (N.1 (0 : Int32).toNatClampNeg)) else (if x3 = 1 then (sh_X1_chipFor N.2.1 x1 x2 (N.1 (0 : Int32).toNatClampNeg)) else (-1 : Int32)))))
abbrev rm_X4_needs : Room := { frames := 2, cells := 0, slots := 0, locals := 47 }
theorem hd_X4_needs : hdT yX4_needs 3 := by decide +kernel
set_option maxHeartbeats 40000000 in
set_option maxRecDepth 100000 in
theorem c_X4_needs (l : Launch) (D : va_G) (cI cC cQ : ClassId) (sz : Nat) (d0 : Nat) (n0 : Nat) (na : Nat → Nat) (s0 : Nat) (sa : Nat → Nat) (h1 : Nat) (h2 : Nat) (mm : Nat → Nat) (ma : Nat → Nat → Nat) (t0 : Nat) (p0 : Nat) (pa : Nat → Nat) (tk : Int32) (N : TMa) (S : TMa) (oo : Int32) (zz : Int32) (M0 : TMa) (M1 : TMa) (M2 : TMa) (M3 : TMa) (rs : Int32) (de : Int32) (pc : Int32) (pg : Int32) (sg : Nat → Int32) (ln : Int32) (po : Int32) (dd : Int32) (lt : Nat → Int32) (pl : Nat → Int32) (f1s : Nat → Int32) (s2s : Nat → Int32) (tms : Nat → Int32) (x1 : Int32) (x2 : Int32) (x3 : Int32)  : Met l yX4_needs (wsO yX4_needs cX4_needs 4 (some .int)) rm_X4_needs (va_Pc [.ref d0, .int x1, .int x2, .int x3] (inW D (TYS cI cC cQ) (DW cI cC cQ d0 n0 na s0 sa h1 h2 mm ma t0 p0 pa tk N S oo zz M0 M1 M2 M3 rs de pc pg sg ln po dd lt pl f1s s2s tms) sz)) (va_Qi (fun (r : Int32) (_ : Unit) => r = sh_X4_needs N x1 x2 x3) (fun (u : Unit) => atW D (TYS cI cC cQ) (va_A (DW cI cC cQ d0 n0 na s0 sa h1 h2 mm ma t0 p0 pa tk N S oo zz M0 M1 M2 M3 rs de pc pg sg ln po dd lt pl f1s s2s tms) sz) (DW cI cC cQ d0 n0 na s0 sa h1 h2 mm ma t0 p0 pa tk N S oo zz M0 M1 M2 M3 rs de pc pg sg ln po dd lt pl f1s s2s tms)) (va_A (DW cI cC cQ d0 n0 na s0 sa h1 h2 mm ma t0 p0 pa tk N S oo zz M0 M1 M2 M3 rs de pc pg sg ln po dd lt pl f1s s2s tms) sz)) 0 0 (va_A (DW cI cC cQ d0 n0 na s0 sa h1 h2 mm ma t0 p0 pa tk N S oo zz M0 M1 M2 M3 rs de pc pg sg ln po dd lt pl f1s s2s tms) sz) := by
  refine k_meti .int rfl (by decide) (Nat.le_of_ble_eq_true rfl) ?_
  intro p e s m args below meth c A ls Q H locs hargs hret hx hb hts hown hml hname hN hA hS hP hK hD hl
  have hl : lv_has ls 4 [(0, .ref d0), (1, .int x1), (2, .int x2), (3, .int x3)] := hl
  obtain ⟨Xq, hX⟩ : ∃ Xq, Xq = sh_X4_needs N x1 x2 x3 := ⟨_, rfl⟩
  have hq : Xq = (if (sh_X4_isCup x1) = 0 then (-1 : Int32) else (if (sh_X4_isDots x2) = 0 then (-1 : Int32) else (if x3 = 0 then (sh_X1_tonerFor N.2.1 x1 x2 (N.1 (0 : Int32).toNatClampNeg)) else (if x3 = 1 then (sh_X1_chipFor N.2.1 x1 x2 (N.1 (0 : Int32).toNatClampNeg)) else (-1 : Int32))))) := hX
  refine lv_iload_n hx hb dX4_needs_0 rfl (lv_at hl 1 rfl) ?_
  have hPs : va_P D vwCl ([] ++ ([] ++ (DW cI cC cQ d0 n0 na s0 sa h1 h2 mm ma t0 p0 pa tk N S oo zz M0 M1 M2 M3 rs de pc pg sg ln po dd lt pl f1s s2s tms))) H := hP
  have hDs : va_D A ([] ++ ([] ++ (DW cI cC cQ d0 n0 na s0 sa h1 h2 mm ma t0 p0 pa tk N S oo zz M0 M1 M2 M3 rs de pc pg sg ln po dd lt pl f1s s2s tms))) := hD
  refine k_behi (X := []) (Y := (DW cI cC cQ d0 n0 na s0 sa h1 h2 mm ma t0 p0 pa tk N S oo zz M0 M1 M2 M3 rs de pc pg sg ln po dd lt pl f1s s2s tms)) (va_runS (As := [.int x1]) (rest := []) ⟨hx, hb, hml, hown, hts⟩ (c_X4_isCup l D cI cC cQ H.size x1) (kcwS hts wd_ml_RX4_59 wd_st_yX4_isCup wd_ini_RX4 wd_code_yX4_isCup rfl rfl hd_X4_isCup ⟨Nat.le_of_ble_eq_true rfl, Nat.le_of_ble_eq_true rfl⟩) ⟨in_blind, k_pre hK (pa_l (pa_r hPs)) (da_l (da_r hDs)) hN⟩ rfl rfl hl.1 rfl (lv_room (Nat.le_of_ble_eq_true rfl)) dX4_needs_1 ⟨Nat.le_of_ble_eq_true rfl, Nat.le_of_ble_eq_true rfl⟩) hPs hDs hS hA (fun r1 u2 H locs hw3 hP hD hS => ?_)
  have hP : va_P D vwCl (DW cI cC cQ d0 n0 na s0 sa h1 h2 mm ma t0 p0 pa tk N S oo zz M0 M1 M2 M3 rs de pc pg sg ln po dd lt pl f1s s2s tms) H := hP
  have hD : va_D A (DW cI cC cQ d0 n0 na s0 sa h1 h2 mm ma t0 p0 pa tk N S oo zz M0 M1 M2 M3 rs de pc pg sg ln po dd lt pl f1s s2s tms) := hD
  have hw3 : r1 = (sh_X4_isCup x1) := hw3
  subst hw3
  refine lv_if_eq (tgt := 14) hx hb dX4_needs_4 (by decide) (fun c4 => ?_) (fun c4 => ?_)
  · have hq := it_pos hq c4
    refine lv_iconst (v := (-1)) hx hb dX4_needs_14 (by decide) ?_
    exact hret _ _ _ _ ((-1)) () dX4_needs_15 rfl (hq.symm.trans hX) hP hD hS
  · have hq := it_neg hq c4
    refine lv_iload_n hx hb dX4_needs_7 rfl (lv_at hl 2 rfl) ?_
    have hPs : va_P D vwCl ([] ++ ([] ++ (DW cI cC cQ d0 n0 na s0 sa h1 h2 mm ma t0 p0 pa tk N S oo zz M0 M1 M2 M3 rs de pc pg sg ln po dd lt pl f1s s2s tms))) H := hP
    have hDs : va_D A ([] ++ ([] ++ (DW cI cC cQ d0 n0 na s0 sa h1 h2 mm ma t0 p0 pa tk N S oo zz M0 M1 M2 M3 rs de pc pg sg ln po dd lt pl f1s s2s tms))) := hD
    refine k_behi (X := []) (Y := (DW cI cC cQ d0 n0 na s0 sa h1 h2 mm ma t0 p0 pa tk N S oo zz M0 M1 M2 M3 rs de pc pg sg ln po dd lt pl f1s s2s tms)) (va_runS (As := [.int x2]) (rest := []) ⟨hx, hb, hml, hown, hts⟩ (c_X4_isDots l D cI cC cQ H.size x2) (kcwS hts wd_ml_RX4_48 wd_st_yX4_isDots wd_ini_RX4 wd_code_yX4_isDots rfl rfl hd_X4_isDots ⟨Nat.le_of_ble_eq_true rfl, Nat.le_of_ble_eq_true rfl⟩) ⟨in_blind, k_pre hK (pa_l (pa_r hPs)) (da_l (da_r hDs)) hN⟩ rfl rfl hl.1 rfl (lv_room (Nat.le_of_ble_eq_true rfl)) dX4_needs_8 ⟨Nat.le_of_ble_eq_true rfl, Nat.le_of_ble_eq_true rfl⟩) hPs hDs hS hA (fun r5 u6 H locs hw7 hP hD hS => ?_)
    have hP : va_P D vwCl (DW cI cC cQ d0 n0 na s0 sa h1 h2 mm ma t0 p0 pa tk N S oo zz M0 M1 M2 M3 rs de pc pg sg ln po dd lt pl f1s s2s tms) H := hP
    have hD : va_D A (DW cI cC cQ d0 n0 na s0 sa h1 h2 mm ma t0 p0 pa tk N S oo zz M0 M1 M2 M3 rs de pc pg sg ln po dd lt pl f1s s2s tms) := hD
    have hw7 : r5 = (sh_X4_isDots x2) := hw7
    subst hw7
    refine lv_if_ne (tgt := 16) hx hb dX4_needs_11 (by decide) (fun c8 => ?_) (fun c8 => ?_)
    · have hq := it_neg hq c8
      refine lv_iload_n hx hb dX4_needs_16 rfl (lv_at hl 3 rfl) ?_
      by_cases c9 : x3 = 0
      · have hq := it_pos hq c9
        refine lv_lookup (tgt := 44) hx hb dX4_needs_17 (by decide) (by rw [c9] <;> rfl) (by decide) ?_
        refine lv_aload_n hx hb dX4_needs_44 rfl (lv_at hl 0 rfl) ?_
        refine va_get (D := D) (ci := 4) (v := .ref n0) (C := RX4) (T := TX4) (N := 6) hx hb hts inA4 hown hK hP 0 rfl rfl 0 (by decide) (hts _ wd_fl_RX4_10) (fun _ h9 => h9) rfl dX4_needs_45 ?_
        refine lv_iload_n hx hb dX4_needs_48 rfl (lv_at hl 1 rfl) ?_
        refine lv_iload_n hx hb dX4_needs_49 rfl (lv_at hl 2 rfl) ?_
        refine lv_aload_n hx hb dX4_needs_50 rfl (lv_at hl 0 rfl) ?_
        refine va_get (D := D) (ci := 4) (v := .ref n0) (C := RX4) (T := TX4) (N := 6) hx hb hts inA4 hown hK hP 0 rfl rfl 0 (by decide) (hts _ wd_fl_RX4_10) (fun _ h9 => h9) rfl dX4_needs_51 ?_
        refine va_get (D := D) (ci := 1) (v := .ref (na 0)) (C := RX1) (T := TX1) (N := 14) hx hb hts inA1 hown hK hP 21 rfl rfl 0 (by decide) (hts _ wd_fl_RX4_92) (fun _ h9 => h9) rfl dX4_needs_54 ?_
        refine lv_iconst (v := 0) hx hb dX4_needs_57 (by decide) ?_
        refine va_iald hx hb hK hP 22 0 rfl rfl (k_in (by decide)) dX4_needs_58 ?_
        have hPs : va_P D vwCl (((OB d0 n0 s0 h1 p0 t0 tk) ++ ((SW t0 rs de pc pg) ++ ((PW cI cC p0 pa sg ln po dd lt pl f1s s2s tms) ++ (MT cI s0 sa S)))) ++ ((MW cI n0 na N.1 N.2.1 N.2.2.1 N.2.2.2.1 N.2.2.2.2.1 N.2.2.2.2.2.1 N.2.2.2.2.2.2.1 N.2.2.2.2.2.2.2.1 N.2.2.2.2.2.2.2.2.1 N.2.2.2.2.2.2.2.2.2.1 N.2.2.2.2.2.2.2.2.2.2.1 N.2.2.2.2.2.2.2.2.2.2.2.1 N.2.2.2.2.2.2.2.2.2.2.2.2.1 N.2.2.2.2.2.2.2.2.2.2.2.2.2) ++ ((HO cQ h1 h2 mm oo zz) ++ ((MT cI (mm 0) (ma 0) M0) ++ ((MT cI (mm 1) (ma 1) M1) ++ ((MT cI (mm 2) (ma 2) M2) ++ (MT cI (mm 3) (ma 3) M3))))))) H := hP
        have hDs : va_D A (((OB d0 n0 s0 h1 p0 t0 tk) ++ ((SW t0 rs de pc pg) ++ ((PW cI cC p0 pa sg ln po dd lt pl f1s s2s tms) ++ (MT cI s0 sa S)))) ++ ((MW cI n0 na N.1 N.2.1 N.2.2.1 N.2.2.2.1 N.2.2.2.2.1 N.2.2.2.2.2.1 N.2.2.2.2.2.2.1 N.2.2.2.2.2.2.2.1 N.2.2.2.2.2.2.2.2.1 N.2.2.2.2.2.2.2.2.2.1 N.2.2.2.2.2.2.2.2.2.2.1 N.2.2.2.2.2.2.2.2.2.2.2.1 N.2.2.2.2.2.2.2.2.2.2.2.2.1 N.2.2.2.2.2.2.2.2.2.2.2.2.2) ++ ((HO cQ h1 h2 mm oo zz) ++ ((MT cI (mm 0) (ma 0) M0) ++ ((MT cI (mm 1) (ma 1) M1) ++ ((MT cI (mm 2) (ma 2) M2) ++ (MT cI (mm 3) (ma 3) M3))))))) := hD
        refine k_behi (X := ((OB d0 n0 s0 h1 p0 t0 tk) ++ ((SW t0 rs de pc pg) ++ ((PW cI cC p0 pa sg ln po dd lt pl f1s s2s tms) ++ (MT cI s0 sa S))))) (Y := ((HO cQ h1 h2 mm oo zz) ++ ((MT cI (mm 0) (ma 0) M0) ++ ((MT cI (mm 1) (ma 1) M1) ++ ((MT cI (mm 2) (ma 2) M2) ++ (MT cI (mm 3) (ma 3) M3)))))) (va_runV (As := [.int x1, .int x2, .int (N.1 (0 : Int32).toNatClampNeg)]) (rest := []) ⟨hx, hb, hml, hown, hts⟩ (c_X1_tonerFor l D cI cC cQ H.size n0 na N.1 N.2.1 N.2.2.1 N.2.2.2.1 N.2.2.2.2.1 N.2.2.2.2.2.1 N.2.2.2.2.2.2.1 N.2.2.2.2.2.2.2.1 N.2.2.2.2.2.2.2.2.1 N.2.2.2.2.2.2.2.2.2.1 N.2.2.2.2.2.2.2.2.2.2.1 N.2.2.2.2.2.2.2.2.2.2.2.1 N.2.2.2.2.2.2.2.2.2.2.2.2.1 N.2.2.2.2.2.2.2.2.2.2.2.2.2 x1 x2 (N.1 (0 : Int32).toNatClampNeg) ((isIn4 c4))) (kcwV hts wd_ml_RX4_172 wd_im_yX1_tonerFor wd_sel_yX1_tonerFor wd_ini_RX1 wd_code_yX1_tonerFor rfl rfl rfl hd_X1_tonerFor ⟨Nat.le_of_ble_eq_true rfl, Nat.le_of_ble_eq_true rfl⟩) ⟨in_blind, va_recv hK (pa_l (pa_r hPs)) (ci := 1) (q0 := 0) rfl rfl, k_pre hK (pa_l (pa_r hPs)) (da_l (da_r hDs)) hN⟩ rfl rfl hl.1 rfl (lv_room (Nat.le_of_ble_eq_true rfl)) dX4_needs_59 ⟨Nat.le_of_ble_eq_true rfl, Nat.le_of_ble_eq_true rfl⟩) hPs hDs hS hA (fun r11 u12 H locs hw13 hP hD hS => ?_)
        have hP : va_P D vwCl (DW cI cC cQ d0 n0 na s0 sa h1 h2 mm ma t0 p0 pa tk N S oo zz M0 M1 M2 M3 rs de pc pg sg ln po dd lt pl f1s s2s tms) H := hP
        have hD : va_D A (DW cI cC cQ d0 n0 na s0 sa h1 h2 mm ma t0 p0 pa tk N S oo zz M0 M1 M2 M3 rs de pc pg sg ln po dd lt pl f1s s2s tms) := hD
        have hw13 : r11 = (sh_X1_tonerFor N.2.1 x1 x2 (N.1 (0 : Int32).toNatClampNeg)) := hw13
        subst hw13
        exact hret _ _ _ _ ((sh_X1_tonerFor N.2.1 x1 x2 (N.1 (0 : Int32).toNatClampNeg))) () dX4_needs_62 rfl (hq.symm.trans hX) hP hD hS
      have hq := it_neg hq c9
      by_cases c10 : x3 = 1
      · have hq := it_pos hq c10
        refine lv_lookup (tgt := 63) hx hb dX4_needs_17 (by decide) (by rw [c10] <;> rfl) (by decide) ?_
        refine lv_aload_n hx hb dX4_needs_63 rfl (lv_at hl 0 rfl) ?_
        refine va_get (D := D) (ci := 4) (v := .ref n0) (C := RX4) (T := TX4) (N := 6) hx hb hts inA4 hown hK hP 0 rfl rfl 0 (by decide) (hts _ wd_fl_RX4_10) (fun _ h9 => h9) rfl dX4_needs_64 ?_
        refine lv_iload_n hx hb dX4_needs_67 rfl (lv_at hl 1 rfl) ?_
        refine lv_iload_n hx hb dX4_needs_68 rfl (lv_at hl 2 rfl) ?_
        refine lv_aload_n hx hb dX4_needs_69 rfl (lv_at hl 0 rfl) ?_
        refine va_get (D := D) (ci := 4) (v := .ref n0) (C := RX4) (T := TX4) (N := 6) hx hb hts inA4 hown hK hP 0 rfl rfl 0 (by decide) (hts _ wd_fl_RX4_10) (fun _ h9 => h9) rfl dX4_needs_70 ?_
        refine va_get (D := D) (ci := 1) (v := .ref (na 0)) (C := RX1) (T := TX1) (N := 14) hx hb hts inA1 hown hK hP 21 rfl rfl 0 (by decide) (hts _ wd_fl_RX4_92) (fun _ h9 => h9) rfl dX4_needs_73 ?_
        refine lv_iconst (v := 0) hx hb dX4_needs_76 (by decide) ?_
        refine va_iald hx hb hK hP 22 0 rfl rfl (k_in (by decide)) dX4_needs_77 ?_
        have hPs : va_P D vwCl (((OB d0 n0 s0 h1 p0 t0 tk) ++ ((SW t0 rs de pc pg) ++ ((PW cI cC p0 pa sg ln po dd lt pl f1s s2s tms) ++ (MT cI s0 sa S)))) ++ ((MW cI n0 na N.1 N.2.1 N.2.2.1 N.2.2.2.1 N.2.2.2.2.1 N.2.2.2.2.2.1 N.2.2.2.2.2.2.1 N.2.2.2.2.2.2.2.1 N.2.2.2.2.2.2.2.2.1 N.2.2.2.2.2.2.2.2.2.1 N.2.2.2.2.2.2.2.2.2.2.1 N.2.2.2.2.2.2.2.2.2.2.2.1 N.2.2.2.2.2.2.2.2.2.2.2.2.1 N.2.2.2.2.2.2.2.2.2.2.2.2.2) ++ ((HO cQ h1 h2 mm oo zz) ++ ((MT cI (mm 0) (ma 0) M0) ++ ((MT cI (mm 1) (ma 1) M1) ++ ((MT cI (mm 2) (ma 2) M2) ++ (MT cI (mm 3) (ma 3) M3))))))) H := hP
        have hDs : va_D A (((OB d0 n0 s0 h1 p0 t0 tk) ++ ((SW t0 rs de pc pg) ++ ((PW cI cC p0 pa sg ln po dd lt pl f1s s2s tms) ++ (MT cI s0 sa S)))) ++ ((MW cI n0 na N.1 N.2.1 N.2.2.1 N.2.2.2.1 N.2.2.2.2.1 N.2.2.2.2.2.1 N.2.2.2.2.2.2.1 N.2.2.2.2.2.2.2.1 N.2.2.2.2.2.2.2.2.1 N.2.2.2.2.2.2.2.2.2.1 N.2.2.2.2.2.2.2.2.2.2.1 N.2.2.2.2.2.2.2.2.2.2.2.1 N.2.2.2.2.2.2.2.2.2.2.2.2.1 N.2.2.2.2.2.2.2.2.2.2.2.2.2) ++ ((HO cQ h1 h2 mm oo zz) ++ ((MT cI (mm 0) (ma 0) M0) ++ ((MT cI (mm 1) (ma 1) M1) ++ ((MT cI (mm 2) (ma 2) M2) ++ (MT cI (mm 3) (ma 3) M3))))))) := hD
        refine k_behi (X := ((OB d0 n0 s0 h1 p0 t0 tk) ++ ((SW t0 rs de pc pg) ++ ((PW cI cC p0 pa sg ln po dd lt pl f1s s2s tms) ++ (MT cI s0 sa S))))) (Y := ((HO cQ h1 h2 mm oo zz) ++ ((MT cI (mm 0) (ma 0) M0) ++ ((MT cI (mm 1) (ma 1) M1) ++ ((MT cI (mm 2) (ma 2) M2) ++ (MT cI (mm 3) (ma 3) M3)))))) (va_runV (As := [.int x1, .int x2, .int (N.1 (0 : Int32).toNatClampNeg)]) (rest := []) ⟨hx, hb, hml, hown, hts⟩ (c_X1_chipFor l D cI cC cQ H.size n0 na N.1 N.2.1 N.2.2.1 N.2.2.2.1 N.2.2.2.2.1 N.2.2.2.2.2.1 N.2.2.2.2.2.2.1 N.2.2.2.2.2.2.2.1 N.2.2.2.2.2.2.2.2.1 N.2.2.2.2.2.2.2.2.2.1 N.2.2.2.2.2.2.2.2.2.2.1 N.2.2.2.2.2.2.2.2.2.2.2.1 N.2.2.2.2.2.2.2.2.2.2.2.2.1 N.2.2.2.2.2.2.2.2.2.2.2.2.2 x1 x2 (N.1 (0 : Int32).toNatClampNeg) ((isIn4 c4))) (kcwV hts wd_ml_RX4_176 wd_im_yX1_chipFor wd_sel_yX1_chipFor wd_ini_RX1 wd_code_yX1_chipFor rfl rfl rfl hd_X1_chipFor ⟨Nat.le_of_ble_eq_true rfl, Nat.le_of_ble_eq_true rfl⟩) ⟨in_blind, va_recv hK (pa_l (pa_r hPs)) (ci := 1) (q0 := 0) rfl rfl, k_pre hK (pa_l (pa_r hPs)) (da_l (da_r hDs)) hN⟩ rfl rfl hl.1 rfl (lv_room (Nat.le_of_ble_eq_true rfl)) dX4_needs_78 ⟨Nat.le_of_ble_eq_true rfl, Nat.le_of_ble_eq_true rfl⟩) hPs hDs hS hA (fun r14 u15 H locs hw16 hP hD hS => ?_)
        have hP : va_P D vwCl (DW cI cC cQ d0 n0 na s0 sa h1 h2 mm ma t0 p0 pa tk N S oo zz M0 M1 M2 M3 rs de pc pg sg ln po dd lt pl f1s s2s tms) H := hP
        have hD : va_D A (DW cI cC cQ d0 n0 na s0 sa h1 h2 mm ma t0 p0 pa tk N S oo zz M0 M1 M2 M3 rs de pc pg sg ln po dd lt pl f1s s2s tms) := hD
        have hw16 : r14 = (sh_X1_chipFor N.2.1 x1 x2 (N.1 (0 : Int32).toNatClampNeg)) := hw16
        subst hw16
        exact hret _ _ _ _ ((sh_X1_chipFor N.2.1 x1 x2 (N.1 (0 : Int32).toNatClampNeg))) () dX4_needs_81 rfl (hq.symm.trans hX) hP hD hS
      have hq := it_neg hq c10
      refine lv_lookup (tgt := 82) hx hb dX4_needs_17 (by decide) (k_lk01 c9 c10) (by decide) ?_
      refine lv_iconst (v := (-1)) hx hb dX4_needs_82 (by decide) ?_
      exact hret _ _ _ _ ((-1)) () dX4_needs_83 rfl (hq.symm.trans hX) hP hD hS
    · have hq := it_pos hq c8
      refine lv_iconst (v := (-1)) hx hb dX4_needs_14 (by decide) ?_
      exact hret _ _ _ _ ((-1)) () dX4_needs_15 rfl (hq.symm.trans hX) hP hD hS
def sh_X4_cup (N : TMa) (x1 : Int32) (x2 : Int32) : Int32 := (if (sh_X4_isCup x1) = 0 then (-1 : Int32) else (if x2 = 0 then (N.2.1 x1.toNatClampNeg) else (if x2 = 1 then (N.2.2.1 x1.toNatClampNeg) else (if x2 = 2 then (N.2.2.2.1 x1.toNatClampNeg) else (if x2 = 3 then (N.2.2.2.2.1 x1.toNatClampNeg) else (if x2 = 4 then (sh_X1_printerOf N.2.2.2.2.2.1 x1) else (if x2 = 5 then (sh_X1_scaleTells N.1 N.2.2.1 N.2.2.2.1 x1) else (if x2 = 6 then (sh_X1_toldLeft N.1 N.2.2.1 N.2.2.2.1 N.2.2.2.2.1 x1) else (if x2 = 7 then (((sh_X1_toldLeft N.1 N.2.2.1 N.2.2.2.1 N.2.2.2.2.1 x1) - (sh_X1_toner N.2.2.1 N.2.2.2.1 x1)) + 100000) else (-1 : Int32))))))))))
abbrev rm_X4_cup : Room := { frames := 3, cells := 0, slots := 0, locals := 63 }
theorem hd_X4_cup : hdT yX4_cup 2 := by decide +kernel
set_option maxHeartbeats 40000000 in
set_option maxRecDepth 100000 in
theorem c_X4_cup (l : Launch) (D : va_G) (cI cC cQ : ClassId) (sz : Nat) (d0 : Nat) (n0 : Nat) (na : Nat → Nat) (s0 : Nat) (sa : Nat → Nat) (h1 : Nat) (h2 : Nat) (mm : Nat → Nat) (ma : Nat → Nat → Nat) (t0 : Nat) (p0 : Nat) (pa : Nat → Nat) (tk : Int32) (N : TMa) (S : TMa) (oo : Int32) (zz : Int32) (M0 : TMa) (M1 : TMa) (M2 : TMa) (M3 : TMa) (rs : Int32) (de : Int32) (pc : Int32) (pg : Int32) (sg : Nat → Int32) (ln : Int32) (po : Int32) (dd : Int32) (lt : Nat → Int32) (pl : Nat → Int32) (f1s : Nat → Int32) (s2s : Nat → Int32) (tms : Nat → Int32) (x1 : Int32) (x2 : Int32)  : Met l yX4_cup (wsO yX4_cup cX4_cup 3 (some .int)) rm_X4_cup (va_Pc [.ref d0, .int x1, .int x2] (inW D (TYS cI cC cQ) (DW cI cC cQ d0 n0 na s0 sa h1 h2 mm ma t0 p0 pa tk N S oo zz M0 M1 M2 M3 rs de pc pg sg ln po dd lt pl f1s s2s tms) sz)) (va_Qi (fun (r : Int32) (_ : Unit) => r = sh_X4_cup N x1 x2) (fun (u : Unit) => atW D (TYS cI cC cQ) (va_A (DW cI cC cQ d0 n0 na s0 sa h1 h2 mm ma t0 p0 pa tk N S oo zz M0 M1 M2 M3 rs de pc pg sg ln po dd lt pl f1s s2s tms) sz) (DW cI cC cQ d0 n0 na s0 sa h1 h2 mm ma t0 p0 pa tk N S oo zz M0 M1 M2 M3 rs de pc pg sg ln po dd lt pl f1s s2s tms)) (va_A (DW cI cC cQ d0 n0 na s0 sa h1 h2 mm ma t0 p0 pa tk N S oo zz M0 M1 M2 M3 rs de pc pg sg ln po dd lt pl f1s s2s tms) sz)) 0 0 (va_A (DW cI cC cQ d0 n0 na s0 sa h1 h2 mm ma t0 p0 pa tk N S oo zz M0 M1 M2 M3 rs de pc pg sg ln po dd lt pl f1s s2s tms) sz) := by
  refine k_meti .int rfl (by decide) (Nat.le_of_ble_eq_true rfl) ?_
  intro p e s m args below meth c A ls Q H locs hargs hret hx hb hts hown hml hname hN hA hS hP hK hD hl
  have hl : lv_has ls 3 [(0, .ref d0), (1, .int x1), (2, .int x2)] := hl
  obtain ⟨Xq, hX⟩ : ∃ Xq, Xq = sh_X4_cup N x1 x2 := ⟨_, rfl⟩
  have hq : Xq = (if (sh_X4_isCup x1) = 0 then (-1 : Int32) else (if x2 = 0 then (N.2.1 x1.toNatClampNeg) else (if x2 = 1 then (N.2.2.1 x1.toNatClampNeg) else (if x2 = 2 then (N.2.2.2.1 x1.toNatClampNeg) else (if x2 = 3 then (N.2.2.2.2.1 x1.toNatClampNeg) else (if x2 = 4 then (sh_X1_printerOf N.2.2.2.2.2.1 x1) else (if x2 = 5 then (sh_X1_scaleTells N.1 N.2.2.1 N.2.2.2.1 x1) else (if x2 = 6 then (sh_X1_toldLeft N.1 N.2.2.1 N.2.2.2.1 N.2.2.2.2.1 x1) else (if x2 = 7 then (((sh_X1_toldLeft N.1 N.2.2.1 N.2.2.2.1 N.2.2.2.2.1 x1) - (sh_X1_toner N.2.2.1 N.2.2.2.1 x1)) + 100000) else (-1 : Int32)))))))))) := hX
  refine lv_iload_n hx hb dX4_cup_0 rfl (lv_at hl 1 rfl) ?_
  have hPs : va_P D vwCl ([] ++ ([] ++ (DW cI cC cQ d0 n0 na s0 sa h1 h2 mm ma t0 p0 pa tk N S oo zz M0 M1 M2 M3 rs de pc pg sg ln po dd lt pl f1s s2s tms))) H := hP
  have hDs : va_D A ([] ++ ([] ++ (DW cI cC cQ d0 n0 na s0 sa h1 h2 mm ma t0 p0 pa tk N S oo zz M0 M1 M2 M3 rs de pc pg sg ln po dd lt pl f1s s2s tms))) := hD
  refine k_behi (X := []) (Y := (DW cI cC cQ d0 n0 na s0 sa h1 h2 mm ma t0 p0 pa tk N S oo zz M0 M1 M2 M3 rs de pc pg sg ln po dd lt pl f1s s2s tms)) (va_runS (As := [.int x1]) (rest := []) ⟨hx, hb, hml, hown, hts⟩ (c_X4_isCup l D cI cC cQ H.size x1) (kcwS hts wd_ml_RX4_59 wd_st_yX4_isCup wd_ini_RX4 wd_code_yX4_isCup rfl rfl hd_X4_isCup ⟨Nat.le_of_ble_eq_true rfl, Nat.le_of_ble_eq_true rfl⟩) ⟨in_blind, k_pre hK (pa_l (pa_r hPs)) (da_l (da_r hDs)) hN⟩ rfl rfl hl.1 rfl (lv_room (Nat.le_of_ble_eq_true rfl)) dX4_cup_1 ⟨Nat.le_of_ble_eq_true rfl, Nat.le_of_ble_eq_true rfl⟩) hPs hDs hS hA (fun r1 u2 H locs hw3 hP hD hS => ?_)
  have hP : va_P D vwCl (DW cI cC cQ d0 n0 na s0 sa h1 h2 mm ma t0 p0 pa tk N S oo zz M0 M1 M2 M3 rs de pc pg sg ln po dd lt pl f1s s2s tms) H := hP
  have hD : va_D A (DW cI cC cQ d0 n0 na s0 sa h1 h2 mm ma t0 p0 pa tk N S oo zz M0 M1 M2 M3 rs de pc pg sg ln po dd lt pl f1s s2s tms) := hD
  have hw3 : r1 = (sh_X4_isCup x1) := hw3
  subst hw3
  refine lv_if_ne (tgt := 9) hx hb dX4_cup_4 (by decide) (fun c4 => ?_) (fun c4 => ?_)
  · have hq := it_neg hq c4
    refine lv_iload_n hx hb dX4_cup_9 rfl (lv_at hl 2 rfl) ?_
    by_cases c5 : x2 = 0
    · have hq := it_pos hq c5
      refine lv_tableIn (tgt := 56) hx hb dX4_cup_10 (by rw [c5]; decide) (by rw [c5]; decide) (by rw [c5] <;> rfl) (by decide) ?_
      refine lv_aload_n hx hb dX4_cup_56 rfl (lv_at hl 0 rfl) ?_
      refine va_get (D := D) (ci := 4) (v := .ref n0) (C := RX4) (T := TX4) (N := 6) hx hb hts inA4 hown hK hP 0 rfl rfl 0 (by decide) (hts _ wd_fl_RX4_10) (fun _ h9 => h9) rfl dX4_cup_57 ?_
      refine va_get (D := D) (ci := 1) (v := .ref (na 1)) (C := RX1) (T := TX1) (N := 14) hx hb hts inA1 hown hK hP 21 rfl rfl 1 (by decide) (hts _ wd_fl_RX4_138) (fun _ h9 => h9) rfl dX4_cup_60 ?_
      refine lv_iload_n hx hb dX4_cup_63 rfl (lv_at hl 1 rfl) ?_
      refine va_iald hx hb hK hP 23 0 rfl rfl (isIn4 c4) dX4_cup_64 ?_
      exact hret _ _ _ _ ((N.2.1 x1.toNatClampNeg)) () dX4_cup_65 rfl (hq.symm.trans hX) hP hD hS
    have hq := it_neg hq c5
    by_cases c6 : x2 = 1
    · have hq := it_pos hq c6
      refine lv_tableIn (tgt := 66) hx hb dX4_cup_10 (by rw [c6]; decide) (by rw [c6]; decide) (by rw [c6] <;> rfl) (by decide) ?_
      refine lv_aload_n hx hb dX4_cup_66 rfl (lv_at hl 0 rfl) ?_
      refine va_get (D := D) (ci := 4) (v := .ref n0) (C := RX4) (T := TX4) (N := 6) hx hb hts inA4 hown hK hP 0 rfl rfl 0 (by decide) (hts _ wd_fl_RX4_10) (fun _ h9 => h9) rfl dX4_cup_67 ?_
      refine va_get (D := D) (ci := 1) (v := .ref (na 2)) (C := RX1) (T := TX1) (N := 14) hx hb hts inA1 hown hK hP 21 rfl rfl 2 (by decide) (hts _ wd_fl_RX4_141) (fun _ h9 => h9) rfl dX4_cup_70 ?_
      refine lv_iload_n hx hb dX4_cup_73 rfl (lv_at hl 1 rfl) ?_
      refine va_iald hx hb hK hP 24 0 rfl rfl (isIn4 c4) dX4_cup_74 ?_
      exact hret _ _ _ _ ((N.2.2.1 x1.toNatClampNeg)) () dX4_cup_75 rfl (hq.symm.trans hX) hP hD hS
    have hq := it_neg hq c6
    by_cases c7 : x2 = 2
    · have hq := it_pos hq c7
      refine lv_tableIn (tgt := 76) hx hb dX4_cup_10 (by rw [c7]; decide) (by rw [c7]; decide) (by rw [c7] <;> rfl) (by decide) ?_
      refine lv_aload_n hx hb dX4_cup_76 rfl (lv_at hl 0 rfl) ?_
      refine va_get (D := D) (ci := 4) (v := .ref n0) (C := RX4) (T := TX4) (N := 6) hx hb hts inA4 hown hK hP 0 rfl rfl 0 (by decide) (hts _ wd_fl_RX4_10) (fun _ h9 => h9) rfl dX4_cup_77 ?_
      refine va_get (D := D) (ci := 1) (v := .ref (na 3)) (C := RX1) (T := TX1) (N := 14) hx hb hts inA1 hown hK hP 21 rfl rfl 3 (by decide) (hts _ wd_fl_RX4_144) (fun _ h9 => h9) rfl dX4_cup_80 ?_
      refine lv_iload_n hx hb dX4_cup_83 rfl (lv_at hl 1 rfl) ?_
      refine va_iald hx hb hK hP 25 0 rfl rfl (isIn4 c4) dX4_cup_84 ?_
      exact hret _ _ _ _ ((N.2.2.2.1 x1.toNatClampNeg)) () dX4_cup_85 rfl (hq.symm.trans hX) hP hD hS
    have hq := it_neg hq c7
    by_cases c8 : x2 = 3
    · have hq := it_pos hq c8
      refine lv_tableIn (tgt := 86) hx hb dX4_cup_10 (by rw [c8]; decide) (by rw [c8]; decide) (by rw [c8] <;> rfl) (by decide) ?_
      refine lv_aload_n hx hb dX4_cup_86 rfl (lv_at hl 0 rfl) ?_
      refine va_get (D := D) (ci := 4) (v := .ref n0) (C := RX4) (T := TX4) (N := 6) hx hb hts inA4 hown hK hP 0 rfl rfl 0 (by decide) (hts _ wd_fl_RX4_10) (fun _ h9 => h9) rfl dX4_cup_87 ?_
      refine va_get (D := D) (ci := 1) (v := .ref (na 4)) (C := RX1) (T := TX1) (N := 14) hx hb hts inA1 hown hK hP 21 rfl rfl 4 (by decide) (hts _ wd_fl_RX4_147) (fun _ h9 => h9) rfl dX4_cup_90 ?_
      refine lv_iload_n hx hb dX4_cup_93 rfl (lv_at hl 1 rfl) ?_
      refine va_iald hx hb hK hP 26 0 rfl rfl (isIn4 c4) dX4_cup_94 ?_
      exact hret _ _ _ _ ((N.2.2.2.2.1 x1.toNatClampNeg)) () dX4_cup_95 rfl (hq.symm.trans hX) hP hD hS
    have hq := it_neg hq c8
    by_cases c9 : x2 = 4
    · have hq := it_pos hq c9
      refine lv_tableIn (tgt := 96) hx hb dX4_cup_10 (by rw [c9]; decide) (by rw [c9]; decide) (by rw [c9] <;> rfl) (by decide) ?_
      refine lv_aload_n hx hb dX4_cup_96 rfl (lv_at hl 0 rfl) ?_
      refine va_get (D := D) (ci := 4) (v := .ref n0) (C := RX4) (T := TX4) (N := 6) hx hb hts inA4 hown hK hP 0 rfl rfl 0 (by decide) (hts _ wd_fl_RX4_10) (fun _ h9 => h9) rfl dX4_cup_97 ?_
      refine lv_iload_n hx hb dX4_cup_100 rfl (lv_at hl 1 rfl) ?_
      have hPs : va_P D vwCl (((OB d0 n0 s0 h1 p0 t0 tk) ++ ((SW t0 rs de pc pg) ++ ((PW cI cC p0 pa sg ln po dd lt pl f1s s2s tms) ++ (MT cI s0 sa S)))) ++ ((MW cI n0 na N.1 N.2.1 N.2.2.1 N.2.2.2.1 N.2.2.2.2.1 N.2.2.2.2.2.1 N.2.2.2.2.2.2.1 N.2.2.2.2.2.2.2.1 N.2.2.2.2.2.2.2.2.1 N.2.2.2.2.2.2.2.2.2.1 N.2.2.2.2.2.2.2.2.2.2.1 N.2.2.2.2.2.2.2.2.2.2.2.1 N.2.2.2.2.2.2.2.2.2.2.2.2.1 N.2.2.2.2.2.2.2.2.2.2.2.2.2) ++ ((HO cQ h1 h2 mm oo zz) ++ ((MT cI (mm 0) (ma 0) M0) ++ ((MT cI (mm 1) (ma 1) M1) ++ ((MT cI (mm 2) (ma 2) M2) ++ (MT cI (mm 3) (ma 3) M3))))))) H := hP
      have hDs : va_D A (((OB d0 n0 s0 h1 p0 t0 tk) ++ ((SW t0 rs de pc pg) ++ ((PW cI cC p0 pa sg ln po dd lt pl f1s s2s tms) ++ (MT cI s0 sa S)))) ++ ((MW cI n0 na N.1 N.2.1 N.2.2.1 N.2.2.2.1 N.2.2.2.2.1 N.2.2.2.2.2.1 N.2.2.2.2.2.2.1 N.2.2.2.2.2.2.2.1 N.2.2.2.2.2.2.2.2.1 N.2.2.2.2.2.2.2.2.2.1 N.2.2.2.2.2.2.2.2.2.2.1 N.2.2.2.2.2.2.2.2.2.2.2.1 N.2.2.2.2.2.2.2.2.2.2.2.2.1 N.2.2.2.2.2.2.2.2.2.2.2.2.2) ++ ((HO cQ h1 h2 mm oo zz) ++ ((MT cI (mm 0) (ma 0) M0) ++ ((MT cI (mm 1) (ma 1) M1) ++ ((MT cI (mm 2) (ma 2) M2) ++ (MT cI (mm 3) (ma 3) M3))))))) := hD
      refine k_behi (X := ((OB d0 n0 s0 h1 p0 t0 tk) ++ ((SW t0 rs de pc pg) ++ ((PW cI cC p0 pa sg ln po dd lt pl f1s s2s tms) ++ (MT cI s0 sa S))))) (Y := ((HO cQ h1 h2 mm oo zz) ++ ((MT cI (mm 0) (ma 0) M0) ++ ((MT cI (mm 1) (ma 1) M1) ++ ((MT cI (mm 2) (ma 2) M2) ++ (MT cI (mm 3) (ma 3) M3)))))) (va_runV (As := [.int x1]) (rest := []) ⟨hx, hb, hml, hown, hts⟩ (c_X1_printerOf l D cI cC cQ H.size n0 na N.1 N.2.1 N.2.2.1 N.2.2.2.1 N.2.2.2.2.1 N.2.2.2.2.2.1 N.2.2.2.2.2.2.1 N.2.2.2.2.2.2.2.1 N.2.2.2.2.2.2.2.2.1 N.2.2.2.2.2.2.2.2.2.1 N.2.2.2.2.2.2.2.2.2.2.1 N.2.2.2.2.2.2.2.2.2.2.2.1 N.2.2.2.2.2.2.2.2.2.2.2.2.1 N.2.2.2.2.2.2.2.2.2.2.2.2.2 x1) (kcwV hts wd_ml_RX4_77 wd_im_yX1_printerOf wd_sel_yX1_printerOf wd_ini_RX1 wd_code_yX1_printerOf rfl rfl rfl hd_X1_printerOf ⟨Nat.le_of_ble_eq_true rfl, Nat.le_of_ble_eq_true rfl⟩) ⟨in_blind, va_recv hK (pa_l (pa_r hPs)) (ci := 1) (q0 := 0) rfl rfl, k_pre hK (pa_l (pa_r hPs)) (da_l (da_r hDs)) hN⟩ rfl rfl hl.1 rfl (lv_room (Nat.le_of_ble_eq_true rfl)) dX4_cup_101 ⟨Nat.le_of_ble_eq_true rfl, Nat.le_of_ble_eq_true rfl⟩) hPs hDs hS hA (fun r13 u14 H locs hw15 hP hD hS => ?_)
      have hP : va_P D vwCl (DW cI cC cQ d0 n0 na s0 sa h1 h2 mm ma t0 p0 pa tk N S oo zz M0 M1 M2 M3 rs de pc pg sg ln po dd lt pl f1s s2s tms) H := hP
      have hD : va_D A (DW cI cC cQ d0 n0 na s0 sa h1 h2 mm ma t0 p0 pa tk N S oo zz M0 M1 M2 M3 rs de pc pg sg ln po dd lt pl f1s s2s tms) := hD
      have hw15 : r13 = (sh_X1_printerOf N.2.2.2.2.2.1 x1) := hw15
      subst hw15
      exact hret _ _ _ _ ((sh_X1_printerOf N.2.2.2.2.2.1 x1)) () dX4_cup_104 rfl (hq.symm.trans hX) hP hD hS
    have hq := it_neg hq c9
    by_cases c10 : x2 = 5
    · have hq := it_pos hq c10
      refine lv_tableIn (tgt := 105) hx hb dX4_cup_10 (by rw [c10]; decide) (by rw [c10]; decide) (by rw [c10] <;> rfl) (by decide) ?_
      refine lv_aload_n hx hb dX4_cup_105 rfl (lv_at hl 0 rfl) ?_
      refine va_get (D := D) (ci := 4) (v := .ref n0) (C := RX4) (T := TX4) (N := 6) hx hb hts inA4 hown hK hP 0 rfl rfl 0 (by decide) (hts _ wd_fl_RX4_10) (fun _ h9 => h9) rfl dX4_cup_106 ?_
      refine lv_iload_n hx hb dX4_cup_109 rfl (lv_at hl 1 rfl) ?_
      have hPs : va_P D vwCl (((OB d0 n0 s0 h1 p0 t0 tk) ++ ((SW t0 rs de pc pg) ++ ((PW cI cC p0 pa sg ln po dd lt pl f1s s2s tms) ++ (MT cI s0 sa S)))) ++ ((MW cI n0 na N.1 N.2.1 N.2.2.1 N.2.2.2.1 N.2.2.2.2.1 N.2.2.2.2.2.1 N.2.2.2.2.2.2.1 N.2.2.2.2.2.2.2.1 N.2.2.2.2.2.2.2.2.1 N.2.2.2.2.2.2.2.2.2.1 N.2.2.2.2.2.2.2.2.2.2.1 N.2.2.2.2.2.2.2.2.2.2.2.1 N.2.2.2.2.2.2.2.2.2.2.2.2.1 N.2.2.2.2.2.2.2.2.2.2.2.2.2) ++ ((HO cQ h1 h2 mm oo zz) ++ ((MT cI (mm 0) (ma 0) M0) ++ ((MT cI (mm 1) (ma 1) M1) ++ ((MT cI (mm 2) (ma 2) M2) ++ (MT cI (mm 3) (ma 3) M3))))))) H := hP
      have hDs : va_D A (((OB d0 n0 s0 h1 p0 t0 tk) ++ ((SW t0 rs de pc pg) ++ ((PW cI cC p0 pa sg ln po dd lt pl f1s s2s tms) ++ (MT cI s0 sa S)))) ++ ((MW cI n0 na N.1 N.2.1 N.2.2.1 N.2.2.2.1 N.2.2.2.2.1 N.2.2.2.2.2.1 N.2.2.2.2.2.2.1 N.2.2.2.2.2.2.2.1 N.2.2.2.2.2.2.2.2.1 N.2.2.2.2.2.2.2.2.2.1 N.2.2.2.2.2.2.2.2.2.2.1 N.2.2.2.2.2.2.2.2.2.2.2.1 N.2.2.2.2.2.2.2.2.2.2.2.2.1 N.2.2.2.2.2.2.2.2.2.2.2.2.2) ++ ((HO cQ h1 h2 mm oo zz) ++ ((MT cI (mm 0) (ma 0) M0) ++ ((MT cI (mm 1) (ma 1) M1) ++ ((MT cI (mm 2) (ma 2) M2) ++ (MT cI (mm 3) (ma 3) M3))))))) := hD
      refine k_behi (X := ((OB d0 n0 s0 h1 p0 t0 tk) ++ ((SW t0 rs de pc pg) ++ ((PW cI cC p0 pa sg ln po dd lt pl f1s s2s tms) ++ (MT cI s0 sa S))))) (Y := ((HO cQ h1 h2 mm oo zz) ++ ((MT cI (mm 0) (ma 0) M0) ++ ((MT cI (mm 1) (ma 1) M1) ++ ((MT cI (mm 2) (ma 2) M2) ++ (MT cI (mm 3) (ma 3) M3)))))) (va_runV (As := [.int x1]) (rest := []) ⟨hx, hb, hml, hown, hts⟩ (c_X1_scaleTells l D cI cC cQ H.size n0 na N.1 N.2.1 N.2.2.1 N.2.2.2.1 N.2.2.2.2.1 N.2.2.2.2.2.1 N.2.2.2.2.2.2.1 N.2.2.2.2.2.2.2.1 N.2.2.2.2.2.2.2.2.1 N.2.2.2.2.2.2.2.2.2.1 N.2.2.2.2.2.2.2.2.2.2.1 N.2.2.2.2.2.2.2.2.2.2.2.1 N.2.2.2.2.2.2.2.2.2.2.2.2.1 N.2.2.2.2.2.2.2.2.2.2.2.2.2 x1 ((isIn4 c4))) (kcwV hts wd_ml_RX4_150 wd_im_yX1_scaleTells wd_sel_yX1_scaleTells wd_ini_RX1 wd_code_yX1_scaleTells rfl rfl rfl hd_X1_scaleTells ⟨Nat.le_of_ble_eq_true rfl, Nat.le_of_ble_eq_true rfl⟩) ⟨in_blind, va_recv hK (pa_l (pa_r hPs)) (ci := 1) (q0 := 0) rfl rfl, k_pre hK (pa_l (pa_r hPs)) (da_l (da_r hDs)) hN⟩ rfl rfl hl.1 rfl (lv_room (Nat.le_of_ble_eq_true rfl)) dX4_cup_110 ⟨Nat.le_of_ble_eq_true rfl, Nat.le_of_ble_eq_true rfl⟩) hPs hDs hS hA (fun r16 u17 H locs hw18 hP hD hS => ?_)
      have hP : va_P D vwCl (DW cI cC cQ d0 n0 na s0 sa h1 h2 mm ma t0 p0 pa tk N S oo zz M0 M1 M2 M3 rs de pc pg sg ln po dd lt pl f1s s2s tms) H := hP
      have hD : va_D A (DW cI cC cQ d0 n0 na s0 sa h1 h2 mm ma t0 p0 pa tk N S oo zz M0 M1 M2 M3 rs de pc pg sg ln po dd lt pl f1s s2s tms) := hD
      have hw18 : r16 = (sh_X1_scaleTells N.1 N.2.2.1 N.2.2.2.1 x1) := hw18
      subst hw18
      exact hret _ _ _ _ ((sh_X1_scaleTells N.1 N.2.2.1 N.2.2.2.1 x1)) () dX4_cup_113 rfl (hq.symm.trans hX) hP hD hS
    have hq := it_neg hq c10
    by_cases c11 : x2 = 6
    · have hq := it_pos hq c11
      refine lv_tableIn (tgt := 114) hx hb dX4_cup_10 (by rw [c11]; decide) (by rw [c11]; decide) (by rw [c11] <;> rfl) (by decide) ?_
      refine lv_aload_n hx hb dX4_cup_114 rfl (lv_at hl 0 rfl) ?_
      refine va_get (D := D) (ci := 4) (v := .ref n0) (C := RX4) (T := TX4) (N := 6) hx hb hts inA4 hown hK hP 0 rfl rfl 0 (by decide) (hts _ wd_fl_RX4_10) (fun _ h9 => h9) rfl dX4_cup_115 ?_
      refine lv_iload_n hx hb dX4_cup_118 rfl (lv_at hl 1 rfl) ?_
      have hPs : va_P D vwCl (((OB d0 n0 s0 h1 p0 t0 tk) ++ ((SW t0 rs de pc pg) ++ ((PW cI cC p0 pa sg ln po dd lt pl f1s s2s tms) ++ (MT cI s0 sa S)))) ++ ((MW cI n0 na N.1 N.2.1 N.2.2.1 N.2.2.2.1 N.2.2.2.2.1 N.2.2.2.2.2.1 N.2.2.2.2.2.2.1 N.2.2.2.2.2.2.2.1 N.2.2.2.2.2.2.2.2.1 N.2.2.2.2.2.2.2.2.2.1 N.2.2.2.2.2.2.2.2.2.2.1 N.2.2.2.2.2.2.2.2.2.2.2.1 N.2.2.2.2.2.2.2.2.2.2.2.2.1 N.2.2.2.2.2.2.2.2.2.2.2.2.2) ++ ((HO cQ h1 h2 mm oo zz) ++ ((MT cI (mm 0) (ma 0) M0) ++ ((MT cI (mm 1) (ma 1) M1) ++ ((MT cI (mm 2) (ma 2) M2) ++ (MT cI (mm 3) (ma 3) M3))))))) H := hP
      have hDs : va_D A (((OB d0 n0 s0 h1 p0 t0 tk) ++ ((SW t0 rs de pc pg) ++ ((PW cI cC p0 pa sg ln po dd lt pl f1s s2s tms) ++ (MT cI s0 sa S)))) ++ ((MW cI n0 na N.1 N.2.1 N.2.2.1 N.2.2.2.1 N.2.2.2.2.1 N.2.2.2.2.2.1 N.2.2.2.2.2.2.1 N.2.2.2.2.2.2.2.1 N.2.2.2.2.2.2.2.2.1 N.2.2.2.2.2.2.2.2.2.1 N.2.2.2.2.2.2.2.2.2.2.1 N.2.2.2.2.2.2.2.2.2.2.2.1 N.2.2.2.2.2.2.2.2.2.2.2.2.1 N.2.2.2.2.2.2.2.2.2.2.2.2.2) ++ ((HO cQ h1 h2 mm oo zz) ++ ((MT cI (mm 0) (ma 0) M0) ++ ((MT cI (mm 1) (ma 1) M1) ++ ((MT cI (mm 2) (ma 2) M2) ++ (MT cI (mm 3) (ma 3) M3))))))) := hD
      refine k_behi (X := ((OB d0 n0 s0 h1 p0 t0 tk) ++ ((SW t0 rs de pc pg) ++ ((PW cI cC p0 pa sg ln po dd lt pl f1s s2s tms) ++ (MT cI s0 sa S))))) (Y := ((HO cQ h1 h2 mm oo zz) ++ ((MT cI (mm 0) (ma 0) M0) ++ ((MT cI (mm 1) (ma 1) M1) ++ ((MT cI (mm 2) (ma 2) M2) ++ (MT cI (mm 3) (ma 3) M3)))))) (va_runV (As := [.int x1]) (rest := []) ⟨hx, hb, hml, hown, hts⟩ (c_X1_toldLeft l D cI cC cQ H.size n0 na N.1 N.2.1 N.2.2.1 N.2.2.2.1 N.2.2.2.2.1 N.2.2.2.2.2.1 N.2.2.2.2.2.2.1 N.2.2.2.2.2.2.2.1 N.2.2.2.2.2.2.2.2.1 N.2.2.2.2.2.2.2.2.2.1 N.2.2.2.2.2.2.2.2.2.2.1 N.2.2.2.2.2.2.2.2.2.2.2.1 N.2.2.2.2.2.2.2.2.2.2.2.2.1 N.2.2.2.2.2.2.2.2.2.2.2.2.2 x1 ((isIn4 c4))) (kcwV hts wd_ml_RX4_153 wd_im_yX1_toldLeft wd_sel_yX1_toldLeft wd_ini_RX1 wd_code_yX1_toldLeft rfl rfl rfl hd_X1_toldLeft ⟨Nat.le_of_ble_eq_true rfl, Nat.le_of_ble_eq_true rfl⟩) ⟨in_blind, va_recv hK (pa_l (pa_r hPs)) (ci := 1) (q0 := 0) rfl rfl, k_pre hK (pa_l (pa_r hPs)) (da_l (da_r hDs)) hN⟩ rfl rfl hl.1 rfl (lv_room (Nat.le_of_ble_eq_true rfl)) dX4_cup_119 ⟨Nat.le_of_ble_eq_true rfl, Nat.le_of_ble_eq_true rfl⟩) hPs hDs hS hA (fun r19 u20 H locs hw21 hP hD hS => ?_)
      have hP : va_P D vwCl (DW cI cC cQ d0 n0 na s0 sa h1 h2 mm ma t0 p0 pa tk N S oo zz M0 M1 M2 M3 rs de pc pg sg ln po dd lt pl f1s s2s tms) H := hP
      have hD : va_D A (DW cI cC cQ d0 n0 na s0 sa h1 h2 mm ma t0 p0 pa tk N S oo zz M0 M1 M2 M3 rs de pc pg sg ln po dd lt pl f1s s2s tms) := hD
      have hw21 : r19 = (sh_X1_toldLeft N.1 N.2.2.1 N.2.2.2.1 N.2.2.2.2.1 x1) := hw21
      subst hw21
      exact hret _ _ _ _ ((sh_X1_toldLeft N.1 N.2.2.1 N.2.2.2.1 N.2.2.2.2.1 x1)) () dX4_cup_122 rfl (hq.symm.trans hX) hP hD hS
    have hq := it_neg hq c11
    by_cases c12 : x2 = 7
    · have hq := it_pos hq c12
      refine lv_tableIn (tgt := 123) hx hb dX4_cup_10 (by rw [c12]; decide) (by rw [c12]; decide) (by rw [c12] <;> rfl) (by decide) ?_
      refine lv_aload_n hx hb dX4_cup_123 rfl (lv_at hl 0 rfl) ?_
      refine va_get (D := D) (ci := 4) (v := .ref n0) (C := RX4) (T := TX4) (N := 6) hx hb hts inA4 hown hK hP 0 rfl rfl 0 (by decide) (hts _ wd_fl_RX4_10) (fun _ h9 => h9) rfl dX4_cup_124 ?_
      refine lv_iload_n hx hb dX4_cup_127 rfl (lv_at hl 1 rfl) ?_
      have hPs : va_P D vwCl (((OB d0 n0 s0 h1 p0 t0 tk) ++ ((SW t0 rs de pc pg) ++ ((PW cI cC p0 pa sg ln po dd lt pl f1s s2s tms) ++ (MT cI s0 sa S)))) ++ ((MW cI n0 na N.1 N.2.1 N.2.2.1 N.2.2.2.1 N.2.2.2.2.1 N.2.2.2.2.2.1 N.2.2.2.2.2.2.1 N.2.2.2.2.2.2.2.1 N.2.2.2.2.2.2.2.2.1 N.2.2.2.2.2.2.2.2.2.1 N.2.2.2.2.2.2.2.2.2.2.1 N.2.2.2.2.2.2.2.2.2.2.2.1 N.2.2.2.2.2.2.2.2.2.2.2.2.1 N.2.2.2.2.2.2.2.2.2.2.2.2.2) ++ ((HO cQ h1 h2 mm oo zz) ++ ((MT cI (mm 0) (ma 0) M0) ++ ((MT cI (mm 1) (ma 1) M1) ++ ((MT cI (mm 2) (ma 2) M2) ++ (MT cI (mm 3) (ma 3) M3))))))) H := hP
      have hDs : va_D A (((OB d0 n0 s0 h1 p0 t0 tk) ++ ((SW t0 rs de pc pg) ++ ((PW cI cC p0 pa sg ln po dd lt pl f1s s2s tms) ++ (MT cI s0 sa S)))) ++ ((MW cI n0 na N.1 N.2.1 N.2.2.1 N.2.2.2.1 N.2.2.2.2.1 N.2.2.2.2.2.1 N.2.2.2.2.2.2.1 N.2.2.2.2.2.2.2.1 N.2.2.2.2.2.2.2.2.1 N.2.2.2.2.2.2.2.2.2.1 N.2.2.2.2.2.2.2.2.2.2.1 N.2.2.2.2.2.2.2.2.2.2.2.1 N.2.2.2.2.2.2.2.2.2.2.2.2.1 N.2.2.2.2.2.2.2.2.2.2.2.2.2) ++ ((HO cQ h1 h2 mm oo zz) ++ ((MT cI (mm 0) (ma 0) M0) ++ ((MT cI (mm 1) (ma 1) M1) ++ ((MT cI (mm 2) (ma 2) M2) ++ (MT cI (mm 3) (ma 3) M3))))))) := hD
      refine k_behi (X := ((OB d0 n0 s0 h1 p0 t0 tk) ++ ((SW t0 rs de pc pg) ++ ((PW cI cC p0 pa sg ln po dd lt pl f1s s2s tms) ++ (MT cI s0 sa S))))) (Y := ((HO cQ h1 h2 mm oo zz) ++ ((MT cI (mm 0) (ma 0) M0) ++ ((MT cI (mm 1) (ma 1) M1) ++ ((MT cI (mm 2) (ma 2) M2) ++ (MT cI (mm 3) (ma 3) M3)))))) (va_runV (As := [.int x1]) (rest := []) ⟨hx, hb, hml, hown, hts⟩ (c_X1_toldLeft l D cI cC cQ H.size n0 na N.1 N.2.1 N.2.2.1 N.2.2.2.1 N.2.2.2.2.1 N.2.2.2.2.2.1 N.2.2.2.2.2.2.1 N.2.2.2.2.2.2.2.1 N.2.2.2.2.2.2.2.2.1 N.2.2.2.2.2.2.2.2.2.1 N.2.2.2.2.2.2.2.2.2.2.1 N.2.2.2.2.2.2.2.2.2.2.2.1 N.2.2.2.2.2.2.2.2.2.2.2.2.1 N.2.2.2.2.2.2.2.2.2.2.2.2.2 x1 ((isIn4 c4))) (kcwV hts wd_ml_RX4_153 wd_im_yX1_toldLeft wd_sel_yX1_toldLeft wd_ini_RX1 wd_code_yX1_toldLeft rfl rfl rfl hd_X1_toldLeft ⟨Nat.le_of_ble_eq_true rfl, Nat.le_of_ble_eq_true rfl⟩) ⟨in_blind, va_recv hK (pa_l (pa_r hPs)) (ci := 1) (q0 := 0) rfl rfl, k_pre hK (pa_l (pa_r hPs)) (da_l (da_r hDs)) hN⟩ rfl rfl hl.1 rfl (lv_room (Nat.le_of_ble_eq_true rfl)) dX4_cup_128 ⟨Nat.le_of_ble_eq_true rfl, Nat.le_of_ble_eq_true rfl⟩) hPs hDs hS hA (fun r22 u23 H locs hw24 hP hD hS => ?_)
      have hP : va_P D vwCl (DW cI cC cQ d0 n0 na s0 sa h1 h2 mm ma t0 p0 pa tk N S oo zz M0 M1 M2 M3 rs de pc pg sg ln po dd lt pl f1s s2s tms) H := hP
      have hD : va_D A (DW cI cC cQ d0 n0 na s0 sa h1 h2 mm ma t0 p0 pa tk N S oo zz M0 M1 M2 M3 rs de pc pg sg ln po dd lt pl f1s s2s tms) := hD
      have hw24 : r22 = (sh_X1_toldLeft N.1 N.2.2.1 N.2.2.2.1 N.2.2.2.2.1 x1) := hw24
      subst hw24
      refine lv_aload_n hx hb dX4_cup_131 rfl (lv_at hl 0 rfl) ?_
      refine va_get (D := D) (ci := 4) (v := .ref n0) (C := RX4) (T := TX4) (N := 6) hx hb hts inA4 hown hK hP 0 rfl rfl 0 (by decide) (hts _ wd_fl_RX4_10) (fun _ h9 => h9) rfl dX4_cup_132 ?_
      refine lv_iload_n hx hb dX4_cup_135 rfl (lv_at hl 1 rfl) ?_
      have hPs : va_P D vwCl (((OB d0 n0 s0 h1 p0 t0 tk) ++ ((SW t0 rs de pc pg) ++ ((PW cI cC p0 pa sg ln po dd lt pl f1s s2s tms) ++ (MT cI s0 sa S)))) ++ ((MW cI n0 na N.1 N.2.1 N.2.2.1 N.2.2.2.1 N.2.2.2.2.1 N.2.2.2.2.2.1 N.2.2.2.2.2.2.1 N.2.2.2.2.2.2.2.1 N.2.2.2.2.2.2.2.2.1 N.2.2.2.2.2.2.2.2.2.1 N.2.2.2.2.2.2.2.2.2.2.1 N.2.2.2.2.2.2.2.2.2.2.2.1 N.2.2.2.2.2.2.2.2.2.2.2.2.1 N.2.2.2.2.2.2.2.2.2.2.2.2.2) ++ ((HO cQ h1 h2 mm oo zz) ++ ((MT cI (mm 0) (ma 0) M0) ++ ((MT cI (mm 1) (ma 1) M1) ++ ((MT cI (mm 2) (ma 2) M2) ++ (MT cI (mm 3) (ma 3) M3))))))) H := hP
      have hDs : va_D A (((OB d0 n0 s0 h1 p0 t0 tk) ++ ((SW t0 rs de pc pg) ++ ((PW cI cC p0 pa sg ln po dd lt pl f1s s2s tms) ++ (MT cI s0 sa S)))) ++ ((MW cI n0 na N.1 N.2.1 N.2.2.1 N.2.2.2.1 N.2.2.2.2.1 N.2.2.2.2.2.1 N.2.2.2.2.2.2.1 N.2.2.2.2.2.2.2.1 N.2.2.2.2.2.2.2.2.1 N.2.2.2.2.2.2.2.2.2.1 N.2.2.2.2.2.2.2.2.2.2.1 N.2.2.2.2.2.2.2.2.2.2.2.1 N.2.2.2.2.2.2.2.2.2.2.2.2.1 N.2.2.2.2.2.2.2.2.2.2.2.2.2) ++ ((HO cQ h1 h2 mm oo zz) ++ ((MT cI (mm 0) (ma 0) M0) ++ ((MT cI (mm 1) (ma 1) M1) ++ ((MT cI (mm 2) (ma 2) M2) ++ (MT cI (mm 3) (ma 3) M3))))))) := hD
      refine k_behi (X := ((OB d0 n0 s0 h1 p0 t0 tk) ++ ((SW t0 rs de pc pg) ++ ((PW cI cC p0 pa sg ln po dd lt pl f1s s2s tms) ++ (MT cI s0 sa S))))) (Y := ((HO cQ h1 h2 mm oo zz) ++ ((MT cI (mm 0) (ma 0) M0) ++ ((MT cI (mm 1) (ma 1) M1) ++ ((MT cI (mm 2) (ma 2) M2) ++ (MT cI (mm 3) (ma 3) M3)))))) (va_runV (As := [.int x1]) (rest := [.int (sh_X1_toldLeft N.1 N.2.2.1 N.2.2.2.1 N.2.2.2.2.1 x1)]) ⟨hx, hb, hml, hown, hts⟩ (c_X1_toner l D cI cC cQ H.size n0 na N.1 N.2.1 N.2.2.1 N.2.2.2.1 N.2.2.2.2.1 N.2.2.2.2.2.1 N.2.2.2.2.2.2.1 N.2.2.2.2.2.2.2.1 N.2.2.2.2.2.2.2.2.1 N.2.2.2.2.2.2.2.2.2.1 N.2.2.2.2.2.2.2.2.2.2.1 N.2.2.2.2.2.2.2.2.2.2.2.1 N.2.2.2.2.2.2.2.2.2.2.2.2.1 N.2.2.2.2.2.2.2.2.2.2.2.2.2 x1 ((isIn4 c4))) (kcwV hts wd_ml_RX4_80 wd_im_yX1_toner wd_sel_yX1_toner wd_ini_RX1 wd_code_yX1_toner rfl rfl rfl hd_X1_toner ⟨Nat.le_of_ble_eq_true rfl, Nat.le_of_ble_eq_true rfl⟩) ⟨in_blind, va_recv hK (pa_l (pa_r hPs)) (ci := 1) (q0 := 0) rfl rfl, k_pre hK (pa_l (pa_r hPs)) (da_l (da_r hDs)) hN⟩ rfl rfl hl.1 rfl (lv_room (Nat.le_of_ble_eq_true rfl)) dX4_cup_136 ⟨Nat.le_of_ble_eq_true rfl, Nat.le_of_ble_eq_true rfl⟩) hPs hDs hS hA (fun r25 u26 H locs hw27 hP hD hS => ?_)
      have hP : va_P D vwCl (DW cI cC cQ d0 n0 na s0 sa h1 h2 mm ma t0 p0 pa tk N S oo zz M0 M1 M2 M3 rs de pc pg sg ln po dd lt pl f1s s2s tms) H := hP
      have hD : va_D A (DW cI cC cQ d0 n0 na s0 sa h1 h2 mm ma t0 p0 pa tk N S oo zz M0 M1 M2 M3 rs de pc pg sg ln po dd lt pl f1s s2s tms) := hD
      have hw27 : r25 = (sh_X1_toner N.2.2.1 N.2.2.2.1 x1) := hw27
      subst hw27
      refine lv_isub hx hb dX4_cup_139 ?_
      refine lv_ldc hx hb hown (hts _ wd_con_RX4_156) dX4_cup_140 ?_
      refine lv_iadd hx hb dX4_cup_142 ?_
      exact hret _ _ _ _ ((((sh_X1_toldLeft N.1 N.2.2.1 N.2.2.2.1 N.2.2.2.2.1 x1) - (sh_X1_toner N.2.2.1 N.2.2.2.1 x1)) + 100000)) () dX4_cup_143 rfl (hq.symm.trans hX) hP hD hS
    have hq := it_neg hq c12
    refine lv_tableOut (tgt := 144) hx hb dX4_cup_10 (k_out8 c5 c6 c7 c8 c9 c10 c11 c12) (by decide) ?_
    refine lv_iconst (v := (-1)) hx hb dX4_cup_144 (by decide) ?_
    exact hret _ _ _ _ ((-1)) () dX4_cup_145 rfl (hq.symm.trans hX) hP hD hS
  · have hq := it_pos hq c4
    refine lv_iconst (v := (-1)) hx hb dX4_cup_7 (by decide) ?_
    exact hret _ _ _ _ ((-1)) () dX4_cup_8 rfl (hq.symm.trans hX) hP hD hS
def sh_X4_printer (N : TMa) (x1 : Int32) (x2 : Int32) : Int32 := (if (sh_X4_isPrinter x1) = 0 then (-1 : Int32) else (if x2 = 0 then (N.2.2.2.2.2.1 x1.toNatClampNeg) else (if x2 = 1 then (N.2.2.2.2.2.2.1 x1.toNatClampNeg) else (if x2 = 2 then (N.2.2.2.2.2.2.2.1 x1.toNatClampNeg) else (if x2 = 3 then (N.2.2.2.2.2.2.2.2.1 x1.toNatClampNeg) else (if x2 = 4 then (N.2.2.2.2.2.2.2.2.2.1 x1.toNatClampNeg) else (if x2 = 5 then (N.2.2.2.2.2.2.2.2.2.2.1 x1.toNatClampNeg) else (-1 : Int32))))))))
abbrev rm_X4_printer : Room := { frames := 1, cells := 0, slots := 0, locals := 20 }
theorem hd_X4_printer : hdT yX4_printer 2 := by decide +kernel
set_option maxHeartbeats 40000000 in
set_option maxRecDepth 100000 in
theorem c_X4_printer (l : Launch) (D : va_G) (cI cC cQ : ClassId) (sz : Nat) (d0 : Nat) (n0 : Nat) (na : Nat → Nat) (s0 : Nat) (sa : Nat → Nat) (h1 : Nat) (h2 : Nat) (mm : Nat → Nat) (ma : Nat → Nat → Nat) (t0 : Nat) (p0 : Nat) (pa : Nat → Nat) (tk : Int32) (N : TMa) (S : TMa) (oo : Int32) (zz : Int32) (M0 : TMa) (M1 : TMa) (M2 : TMa) (M3 : TMa) (rs : Int32) (de : Int32) (pc : Int32) (pg : Int32) (sg : Nat → Int32) (ln : Int32) (po : Int32) (dd : Int32) (lt : Nat → Int32) (pl : Nat → Int32) (f1s : Nat → Int32) (s2s : Nat → Int32) (tms : Nat → Int32) (x1 : Int32) (x2 : Int32)  : Met l yX4_printer (wsO yX4_printer cX4_printer 3 (some .int)) rm_X4_printer (va_Pc [.ref d0, .int x1, .int x2] (inW D (TYS cI cC cQ) (DW cI cC cQ d0 n0 na s0 sa h1 h2 mm ma t0 p0 pa tk N S oo zz M0 M1 M2 M3 rs de pc pg sg ln po dd lt pl f1s s2s tms) sz)) (va_Qi (fun (r : Int32) (_ : Unit) => r = sh_X4_printer N x1 x2) (fun (u : Unit) => atW D (TYS cI cC cQ) (va_A (DW cI cC cQ d0 n0 na s0 sa h1 h2 mm ma t0 p0 pa tk N S oo zz M0 M1 M2 M3 rs de pc pg sg ln po dd lt pl f1s s2s tms) sz) (DW cI cC cQ d0 n0 na s0 sa h1 h2 mm ma t0 p0 pa tk N S oo zz M0 M1 M2 M3 rs de pc pg sg ln po dd lt pl f1s s2s tms)) (va_A (DW cI cC cQ d0 n0 na s0 sa h1 h2 mm ma t0 p0 pa tk N S oo zz M0 M1 M2 M3 rs de pc pg sg ln po dd lt pl f1s s2s tms) sz)) 0 0 (va_A (DW cI cC cQ d0 n0 na s0 sa h1 h2 mm ma t0 p0 pa tk N S oo zz M0 M1 M2 M3 rs de pc pg sg ln po dd lt pl f1s s2s tms) sz) := by
  refine k_meti .int rfl (by decide) (Nat.le_of_ble_eq_true rfl) ?_
  intro p e s m args below meth c A ls Q H locs hargs hret hx hb hts hown hml hname hN hA hS hP hK hD hl
  have hl : lv_has ls 3 [(0, .ref d0), (1, .int x1), (2, .int x2)] := hl
  obtain ⟨Xq, hX⟩ : ∃ Xq, Xq = sh_X4_printer N x1 x2 := ⟨_, rfl⟩
  have hq : Xq = (if (sh_X4_isPrinter x1) = 0 then (-1 : Int32) else (if x2 = 0 then (N.2.2.2.2.2.1 x1.toNatClampNeg) else (if x2 = 1 then (N.2.2.2.2.2.2.1 x1.toNatClampNeg) else (if x2 = 2 then (N.2.2.2.2.2.2.2.1 x1.toNatClampNeg) else (if x2 = 3 then (N.2.2.2.2.2.2.2.2.1 x1.toNatClampNeg) else (if x2 = 4 then (N.2.2.2.2.2.2.2.2.2.1 x1.toNatClampNeg) else (if x2 = 5 then (N.2.2.2.2.2.2.2.2.2.2.1 x1.toNatClampNeg) else (-1 : Int32)))))))) := hX
  refine lv_iload_n hx hb dX4_printer_0 rfl (lv_at hl 1 rfl) ?_
  have hPs : va_P D vwCl ([] ++ ([] ++ (DW cI cC cQ d0 n0 na s0 sa h1 h2 mm ma t0 p0 pa tk N S oo zz M0 M1 M2 M3 rs de pc pg sg ln po dd lt pl f1s s2s tms))) H := hP
  have hDs : va_D A ([] ++ ([] ++ (DW cI cC cQ d0 n0 na s0 sa h1 h2 mm ma t0 p0 pa tk N S oo zz M0 M1 M2 M3 rs de pc pg sg ln po dd lt pl f1s s2s tms))) := hD
  refine k_behi (X := []) (Y := (DW cI cC cQ d0 n0 na s0 sa h1 h2 mm ma t0 p0 pa tk N S oo zz M0 M1 M2 M3 rs de pc pg sg ln po dd lt pl f1s s2s tms)) (va_runS (As := [.int x1]) (rest := []) ⟨hx, hb, hml, hown, hts⟩ (c_X4_isPrinter l D cI cC cQ H.size x1) (kcwS hts wd_ml_RX4_44 wd_st_yX4_isPrinter wd_ini_RX4 wd_code_yX4_isPrinter rfl rfl hd_X4_isPrinter ⟨Nat.le_of_ble_eq_true rfl, Nat.le_of_ble_eq_true rfl⟩) ⟨in_blind, k_pre hK (pa_l (pa_r hPs)) (da_l (da_r hDs)) hN⟩ rfl rfl hl.1 rfl (lv_room (Nat.le_of_ble_eq_true rfl)) dX4_printer_1 ⟨Nat.le_of_ble_eq_true rfl, Nat.le_of_ble_eq_true rfl⟩) hPs hDs hS hA (fun r1 u2 H locs hw3 hP hD hS => ?_)
  have hP : va_P D vwCl (DW cI cC cQ d0 n0 na s0 sa h1 h2 mm ma t0 p0 pa tk N S oo zz M0 M1 M2 M3 rs de pc pg sg ln po dd lt pl f1s s2s tms) H := hP
  have hD : va_D A (DW cI cC cQ d0 n0 na s0 sa h1 h2 mm ma t0 p0 pa tk N S oo zz M0 M1 M2 M3 rs de pc pg sg ln po dd lt pl f1s s2s tms) := hD
  have hw3 : r1 = (sh_X4_isPrinter x1) := hw3
  subst hw3
  refine lv_if_ne (tgt := 9) hx hb dX4_printer_4 (by decide) (fun c4 => ?_) (fun c4 => ?_)
  · have hq := it_neg hq c4
    refine lv_iload_n hx hb dX4_printer_9 rfl (lv_at hl 2 rfl) ?_
    by_cases c5 : x2 = 0
    · have hq := it_pos hq c5
      refine lv_tableIn (tgt := 48) hx hb dX4_printer_10 (by rw [c5]; decide) (by rw [c5]; decide) (by rw [c5] <;> rfl) (by decide) ?_
      refine lv_aload_n hx hb dX4_printer_48 rfl (lv_at hl 0 rfl) ?_
      refine va_get (D := D) (ci := 4) (v := .ref n0) (C := RX4) (T := TX4) (N := 6) hx hb hts inA4 hown hK hP 0 rfl rfl 0 (by decide) (hts _ wd_fl_RX4_10) (fun _ h9 => h9) rfl dX4_printer_49 ?_
      refine va_get (D := D) (ci := 1) (v := .ref (na 5)) (C := RX1) (T := TX1) (N := 14) hx hb hts inA1 hown hK hP 21 rfl rfl 5 (by decide) (hts _ wd_fl_RX4_69) (fun _ h9 => h9) rfl dX4_printer_52 ?_
      refine lv_iload_n hx hb dX4_printer_55 rfl (lv_at hl 1 rfl) ?_
      refine va_iald hx hb hK hP 27 0 rfl rfl (isIn2 c4) dX4_printer_56 ?_
      exact hret _ _ _ _ ((N.2.2.2.2.2.1 x1.toNatClampNeg)) () dX4_printer_57 rfl (hq.symm.trans hX) hP hD hS
    have hq := it_neg hq c5
    by_cases c6 : x2 = 1
    · have hq := it_pos hq c6
      refine lv_tableIn (tgt := 58) hx hb dX4_printer_10 (by rw [c6]; decide) (by rw [c6]; decide) (by rw [c6] <;> rfl) (by decide) ?_
      refine lv_aload_n hx hb dX4_printer_58 rfl (lv_at hl 0 rfl) ?_
      refine va_get (D := D) (ci := 4) (v := .ref n0) (C := RX4) (T := TX4) (N := 6) hx hb hts inA4 hown hK hP 0 rfl rfl 0 (by decide) (hts _ wd_fl_RX4_10) (fun _ h9 => h9) rfl dX4_printer_59 ?_
      refine va_get (D := D) (ci := 1) (v := .ref (na 6)) (C := RX1) (T := TX1) (N := 14) hx hb hts inA1 hown hK hP 21 rfl rfl 6 (by decide) (hts _ wd_fl_RX4_157) (fun _ h9 => h9) rfl dX4_printer_62 ?_
      refine lv_iload_n hx hb dX4_printer_65 rfl (lv_at hl 1 rfl) ?_
      refine va_iald hx hb hK hP 28 0 rfl rfl (isIn2 c4) dX4_printer_66 ?_
      exact hret _ _ _ _ ((N.2.2.2.2.2.2.1 x1.toNatClampNeg)) () dX4_printer_67 rfl (hq.symm.trans hX) hP hD hS
    have hq := it_neg hq c6
    by_cases c7 : x2 = 2
    · have hq := it_pos hq c7
      refine lv_tableIn (tgt := 68) hx hb dX4_printer_10 (by rw [c7]; decide) (by rw [c7]; decide) (by rw [c7] <;> rfl) (by decide) ?_
      refine lv_aload_n hx hb dX4_printer_68 rfl (lv_at hl 0 rfl) ?_
      refine va_get (D := D) (ci := 4) (v := .ref n0) (C := RX4) (T := TX4) (N := 6) hx hb hts inA4 hown hK hP 0 rfl rfl 0 (by decide) (hts _ wd_fl_RX4_10) (fun _ h9 => h9) rfl dX4_printer_69 ?_
      refine va_get (D := D) (ci := 1) (v := .ref (na 7)) (C := RX1) (T := TX1) (N := 14) hx hb hts inA1 hown hK hP 21 rfl rfl 7 (by decide) (hts _ wd_fl_RX4_160) (fun _ h9 => h9) rfl dX4_printer_72 ?_
      refine lv_iload_n hx hb dX4_printer_75 rfl (lv_at hl 1 rfl) ?_
      refine va_iald hx hb hK hP 29 0 rfl rfl (isIn2 c4) dX4_printer_76 ?_
      exact hret _ _ _ _ ((N.2.2.2.2.2.2.2.1 x1.toNatClampNeg)) () dX4_printer_77 rfl (hq.symm.trans hX) hP hD hS
    have hq := it_neg hq c7
    by_cases c8 : x2 = 3
    · have hq := it_pos hq c8
      refine lv_tableIn (tgt := 78) hx hb dX4_printer_10 (by rw [c8]; decide) (by rw [c8]; decide) (by rw [c8] <;> rfl) (by decide) ?_
      refine lv_aload_n hx hb dX4_printer_78 rfl (lv_at hl 0 rfl) ?_
      refine va_get (D := D) (ci := 4) (v := .ref n0) (C := RX4) (T := TX4) (N := 6) hx hb hts inA4 hown hK hP 0 rfl rfl 0 (by decide) (hts _ wd_fl_RX4_10) (fun _ h9 => h9) rfl dX4_printer_79 ?_
      refine va_get (D := D) (ci := 1) (v := .ref (na 8)) (C := RX1) (T := TX1) (N := 14) hx hb hts inA1 hown hK hP 21 rfl rfl 8 (by decide) (hts _ wd_fl_RX4_163) (fun _ h9 => h9) rfl dX4_printer_82 ?_
      refine lv_iload_n hx hb dX4_printer_85 rfl (lv_at hl 1 rfl) ?_
      refine va_iald hx hb hK hP 30 0 rfl rfl (isIn2 c4) dX4_printer_86 ?_
      exact hret _ _ _ _ ((N.2.2.2.2.2.2.2.2.1 x1.toNatClampNeg)) () dX4_printer_87 rfl (hq.symm.trans hX) hP hD hS
    have hq := it_neg hq c8
    by_cases c9 : x2 = 4
    · have hq := it_pos hq c9
      refine lv_tableIn (tgt := 88) hx hb dX4_printer_10 (by rw [c9]; decide) (by rw [c9]; decide) (by rw [c9] <;> rfl) (by decide) ?_
      refine lv_aload_n hx hb dX4_printer_88 rfl (lv_at hl 0 rfl) ?_
      refine va_get (D := D) (ci := 4) (v := .ref n0) (C := RX4) (T := TX4) (N := 6) hx hb hts inA4 hown hK hP 0 rfl rfl 0 (by decide) (hts _ wd_fl_RX4_10) (fun _ h9 => h9) rfl dX4_printer_89 ?_
      refine va_get (D := D) (ci := 1) (v := .ref (na 9)) (C := RX1) (T := TX1) (N := 14) hx hb hts inA1 hown hK hP 21 rfl rfl 9 (by decide) (hts _ wd_fl_RX4_166) (fun _ h9 => h9) rfl dX4_printer_92 ?_
      refine lv_iload_n hx hb dX4_printer_95 rfl (lv_at hl 1 rfl) ?_
      refine va_iald hx hb hK hP 31 0 rfl rfl (isIn2 c4) dX4_printer_96 ?_
      exact hret _ _ _ _ ((N.2.2.2.2.2.2.2.2.2.1 x1.toNatClampNeg)) () dX4_printer_97 rfl (hq.symm.trans hX) hP hD hS
    have hq := it_neg hq c9
    by_cases c10 : x2 = 5
    · have hq := it_pos hq c10
      refine lv_tableIn (tgt := 98) hx hb dX4_printer_10 (by rw [c10]; decide) (by rw [c10]; decide) (by rw [c10] <;> rfl) (by decide) ?_
      refine lv_aload_n hx hb dX4_printer_98 rfl (lv_at hl 0 rfl) ?_
      refine va_get (D := D) (ci := 4) (v := .ref n0) (C := RX4) (T := TX4) (N := 6) hx hb hts inA4 hown hK hP 0 rfl rfl 0 (by decide) (hts _ wd_fl_RX4_10) (fun _ h9 => h9) rfl dX4_printer_99 ?_
      refine va_get (D := D) (ci := 1) (v := .ref (na 10)) (C := RX1) (T := TX1) (N := 14) hx hb hts inA1 hown hK hP 21 rfl rfl 10 (by decide) (hts _ wd_fl_RX4_169) (fun _ h9 => h9) rfl dX4_printer_102 ?_
      refine lv_iload_n hx hb dX4_printer_105 rfl (lv_at hl 1 rfl) ?_
      refine va_iald hx hb hK hP 32 0 rfl rfl (isIn2 c4) dX4_printer_106 ?_
      exact hret _ _ _ _ ((N.2.2.2.2.2.2.2.2.2.2.1 x1.toNatClampNeg)) () dX4_printer_107 rfl (hq.symm.trans hX) hP hD hS
    have hq := it_neg hq c10
    refine lv_tableOut (tgt := 108) hx hb dX4_printer_10 (k_out6 c5 c6 c7 c8 c9 c10) (by decide) ?_
    refine lv_iconst (v := (-1)) hx hb dX4_printer_108 (by decide) ?_
    exact hret _ _ _ _ ((-1)) () dX4_printer_109 rfl (hq.symm.trans hX) hP hD hS
  · have hq := it_pos hq c4
    refine lv_iconst (v := (-1)) hx hb dX4_printer_7 (by decide) ?_
    exact hret _ _ _ _ ((-1)) () dX4_printer_8 rfl (hq.symm.trans hX) hP hD hS
def sh_X4_count (N : TMa) (zz : Int32) (ln : Int32) (x1 : Int32) : Int32 := (if x1 = 0 then (sh_X1_allToner N.2.2.1 N.2.2.2.1) else (if x1 = 1 then N.2.2.2.2.2.2.2.2.2.2.2.1 else (if x1 = 2 then N.2.2.2.2.2.2.2.2.2.2.2.2.1 else (if x1 = 3 then N.2.2.2.2.2.2.2.2.2.2.2.2.2 else (if x1 = 4 then ((sh_X1_darkOfAll N.2.2.2.2.2.2.1) + (sh_X1_lightOfAll N.2.2.2.2.2.2.2.1)) else (if x1 = 5 then (sh_X1_cupsInside N.2.2.2.2.2.1) else (if x1 = 6 then (sh_X1_allToldLeft N.1 N.2.2.1 N.2.2.2.1 N.2.2.2.2.1) else (if x1 = 7 then (sh_X1_cupsOvertold N.1 N.2.2.1 N.2.2.2.1 N.2.2.2.2.1) else (if x1 = 8 then (N.1 (x1 - 8).toNatClampNeg) else (if x1 = 9 then (N.1 (x1 - 8).toNatClampNeg) else (if x1 = 10 then (N.1 (x1 - 8).toNatClampNeg) else (if x1 = 11 then (N.1 (x1 - 8).toNatClampNeg) else (if x1 = 12 then ln else (if x1 = 13 then zz else (-1 : Int32)))))))))))))))
abbrev rm_X4_count : Room := { frames := 4, cells := 0, slots := 0, locals := 85 }
theorem hd_X4_count : hdT yX4_count 1 := by decide +kernel
set_option maxHeartbeats 40000000 in
set_option maxRecDepth 100000 in
theorem c_X4_count (l : Launch) (D : va_G) (cI cC cQ : ClassId) (sz : Nat) (d0 : Nat) (n0 : Nat) (na : Nat → Nat) (s0 : Nat) (sa : Nat → Nat) (h1 : Nat) (h2 : Nat) (mm : Nat → Nat) (ma : Nat → Nat → Nat) (t0 : Nat) (p0 : Nat) (pa : Nat → Nat) (tk : Int32) (N : TMa) (S : TMa) (oo : Int32) (zz : Int32) (M0 : TMa) (M1 : TMa) (M2 : TMa) (M3 : TMa) (rs : Int32) (de : Int32) (pc : Int32) (pg : Int32) (sg : Nat → Int32) (ln : Int32) (po : Int32) (dd : Int32) (lt : Nat → Int32) (pl : Nat → Int32) (f1s : Nat → Int32) (s2s : Nat → Int32) (tms : Nat → Int32) (x1 : Int32)  : Met l yX4_count (wsO yX4_count cX4_count 2 (some .int)) rm_X4_count (va_Pc [.ref d0, .int x1] (inW D (TYS cI cC cQ) (DW cI cC cQ d0 n0 na s0 sa h1 h2 mm ma t0 p0 pa tk N S oo zz M0 M1 M2 M3 rs de pc pg sg ln po dd lt pl f1s s2s tms) sz)) (va_Qi (fun (r : Int32) (_ : Unit) => r = sh_X4_count N zz ln x1) (fun (u : Unit) => atW D (TYS cI cC cQ) (va_A (DW cI cC cQ d0 n0 na s0 sa h1 h2 mm ma t0 p0 pa tk N S oo zz M0 M1 M2 M3 rs de pc pg sg ln po dd lt pl f1s s2s tms) sz) (DW cI cC cQ d0 n0 na s0 sa h1 h2 mm ma t0 p0 pa tk N S oo zz M0 M1 M2 M3 rs de pc pg sg ln po dd lt pl f1s s2s tms)) (va_A (DW cI cC cQ d0 n0 na s0 sa h1 h2 mm ma t0 p0 pa tk N S oo zz M0 M1 M2 M3 rs de pc pg sg ln po dd lt pl f1s s2s tms) sz)) 0 0 (va_A (DW cI cC cQ d0 n0 na s0 sa h1 h2 mm ma t0 p0 pa tk N S oo zz M0 M1 M2 M3 rs de pc pg sg ln po dd lt pl f1s s2s tms) sz) := by
  refine k_meti .int rfl (by decide) (Nat.le_of_ble_eq_true rfl) ?_
  intro p e s m args below meth c A ls Q H locs hargs hret hx hb hts hown hml hname hN hA hS hP hK hD hl
  have hl : lv_has ls 2 [(0, .ref d0), (1, .int x1)] := hl
  obtain ⟨Xq, hX⟩ : ∃ Xq, Xq = sh_X4_count N zz ln x1 := ⟨_, rfl⟩
  have hq : Xq = (if x1 = 0 then (sh_X1_allToner N.2.2.1 N.2.2.2.1) else (if x1 = 1 then N.2.2.2.2.2.2.2.2.2.2.2.1 else (if x1 = 2 then N.2.2.2.2.2.2.2.2.2.2.2.2.1 else (if x1 = 3 then N.2.2.2.2.2.2.2.2.2.2.2.2.2 else (if x1 = 4 then ((sh_X1_darkOfAll N.2.2.2.2.2.2.1) + (sh_X1_lightOfAll N.2.2.2.2.2.2.2.1)) else (if x1 = 5 then (sh_X1_cupsInside N.2.2.2.2.2.1) else (if x1 = 6 then (sh_X1_allToldLeft N.1 N.2.2.1 N.2.2.2.1 N.2.2.2.2.1) else (if x1 = 7 then (sh_X1_cupsOvertold N.1 N.2.2.1 N.2.2.2.1 N.2.2.2.2.1) else (if x1 = 8 then (N.1 (x1 - 8).toNatClampNeg) else (if x1 = 9 then (N.1 (x1 - 8).toNatClampNeg) else (if x1 = 10 then (N.1 (x1 - 8).toNatClampNeg) else (if x1 = 11 then (N.1 (x1 - 8).toNatClampNeg) else (if x1 = 12 then ln else (if x1 = 13 then zz else (-1 : Int32))))))))))))))) := hX
  refine lv_iload_n hx hb dX4_count_0 rfl (lv_at hl 1 rfl) ?_
  by_cases c1 : x1 = 0
  · have hq := it_pos hq c1
    refine lv_tableIn (tgt := 72) hx hb dX4_count_1 (by rw [c1]; decide) (by rw [c1]; decide) (by rw [c1] <;> rfl) (by decide) ?_
    refine lv_aload_n hx hb dX4_count_72 rfl (lv_at hl 0 rfl) ?_
    refine va_get (D := D) (ci := 4) (v := .ref n0) (C := RX4) (T := TX4) (N := 6) hx hb hts inA4 hown hK hP 0 rfl rfl 0 (by decide) (hts _ wd_fl_RX4_10) (fun _ h9 => h9) rfl dX4_count_73 ?_
    have hPs : va_P D vwCl (((OB d0 n0 s0 h1 p0 t0 tk) ++ ((SW t0 rs de pc pg) ++ ((PW cI cC p0 pa sg ln po dd lt pl f1s s2s tms) ++ (MT cI s0 sa S)))) ++ ((MW cI n0 na N.1 N.2.1 N.2.2.1 N.2.2.2.1 N.2.2.2.2.1 N.2.2.2.2.2.1 N.2.2.2.2.2.2.1 N.2.2.2.2.2.2.2.1 N.2.2.2.2.2.2.2.2.1 N.2.2.2.2.2.2.2.2.2.1 N.2.2.2.2.2.2.2.2.2.2.1 N.2.2.2.2.2.2.2.2.2.2.2.1 N.2.2.2.2.2.2.2.2.2.2.2.2.1 N.2.2.2.2.2.2.2.2.2.2.2.2.2) ++ ((HO cQ h1 h2 mm oo zz) ++ ((MT cI (mm 0) (ma 0) M0) ++ ((MT cI (mm 1) (ma 1) M1) ++ ((MT cI (mm 2) (ma 2) M2) ++ (MT cI (mm 3) (ma 3) M3))))))) H := hP
    have hDs : va_D A (((OB d0 n0 s0 h1 p0 t0 tk) ++ ((SW t0 rs de pc pg) ++ ((PW cI cC p0 pa sg ln po dd lt pl f1s s2s tms) ++ (MT cI s0 sa S)))) ++ ((MW cI n0 na N.1 N.2.1 N.2.2.1 N.2.2.2.1 N.2.2.2.2.1 N.2.2.2.2.2.1 N.2.2.2.2.2.2.1 N.2.2.2.2.2.2.2.1 N.2.2.2.2.2.2.2.2.1 N.2.2.2.2.2.2.2.2.2.1 N.2.2.2.2.2.2.2.2.2.2.1 N.2.2.2.2.2.2.2.2.2.2.2.1 N.2.2.2.2.2.2.2.2.2.2.2.2.1 N.2.2.2.2.2.2.2.2.2.2.2.2.2) ++ ((HO cQ h1 h2 mm oo zz) ++ ((MT cI (mm 0) (ma 0) M0) ++ ((MT cI (mm 1) (ma 1) M1) ++ ((MT cI (mm 2) (ma 2) M2) ++ (MT cI (mm 3) (ma 3) M3))))))) := hD
    refine k_behi (X := ((OB d0 n0 s0 h1 p0 t0 tk) ++ ((SW t0 rs de pc pg) ++ ((PW cI cC p0 pa sg ln po dd lt pl f1s s2s tms) ++ (MT cI s0 sa S))))) (Y := ((HO cQ h1 h2 mm oo zz) ++ ((MT cI (mm 0) (ma 0) M0) ++ ((MT cI (mm 1) (ma 1) M1) ++ ((MT cI (mm 2) (ma 2) M2) ++ (MT cI (mm 3) (ma 3) M3)))))) (va_runV (As := []) (rest := []) ⟨hx, hb, hml, hown, hts⟩ (c_X1_allToner l D cI cC cQ H.size n0 na N.1 N.2.1 N.2.2.1 N.2.2.2.1 N.2.2.2.2.1 N.2.2.2.2.2.1 N.2.2.2.2.2.2.1 N.2.2.2.2.2.2.2.1 N.2.2.2.2.2.2.2.2.1 N.2.2.2.2.2.2.2.2.2.1 N.2.2.2.2.2.2.2.2.2.2.1 N.2.2.2.2.2.2.2.2.2.2.2.1 N.2.2.2.2.2.2.2.2.2.2.2.2.1 N.2.2.2.2.2.2.2.2.2.2.2.2.2 ) (kcwV hts wd_ml_RX4_182 wd_im_yX1_allToner wd_sel_yX1_allToner wd_ini_RX1 wd_code_yX1_allToner rfl rfl rfl hd_X1_allToner ⟨Nat.le_of_ble_eq_true rfl, Nat.le_of_ble_eq_true rfl⟩) ⟨in_blind, va_recv hK (pa_l (pa_r hPs)) (ci := 1) (q0 := 0) rfl rfl, k_pre hK (pa_l (pa_r hPs)) (da_l (da_r hDs)) hN⟩ rfl rfl hl.1 rfl (lv_room (Nat.le_of_ble_eq_true rfl)) dX4_count_76 ⟨Nat.le_of_ble_eq_true rfl, Nat.le_of_ble_eq_true rfl⟩) hPs hDs hS hA (fun r15 u16 H locs hw17 hP hD hS => ?_)
    have hP : va_P D vwCl (DW cI cC cQ d0 n0 na s0 sa h1 h2 mm ma t0 p0 pa tk N S oo zz M0 M1 M2 M3 rs de pc pg sg ln po dd lt pl f1s s2s tms) H := hP
    have hD : va_D A (DW cI cC cQ d0 n0 na s0 sa h1 h2 mm ma t0 p0 pa tk N S oo zz M0 M1 M2 M3 rs de pc pg sg ln po dd lt pl f1s s2s tms) := hD
    have hw17 : r15 = (sh_X1_allToner N.2.2.1 N.2.2.2.1) := hw17
    subst hw17
    exact hret _ _ _ _ ((sh_X1_allToner N.2.2.1 N.2.2.2.1)) () dX4_count_79 rfl (hq.symm.trans hX) hP hD hS
  have hq := it_neg hq c1
  by_cases c2 : x1 = 1
  · have hq := it_pos hq c2
    refine lv_tableIn (tgt := 80) hx hb dX4_count_1 (by rw [c2]; decide) (by rw [c2]; decide) (by rw [c2] <;> rfl) (by decide) ?_
    refine lv_aload_n hx hb dX4_count_80 rfl (lv_at hl 0 rfl) ?_
    refine va_get (D := D) (ci := 4) (v := .ref n0) (C := RX4) (T := TX4) (N := 6) hx hb hts inA4 hown hK hP 0 rfl rfl 0 (by decide) (hts _ wd_fl_RX4_10) (fun _ h9 => h9) rfl dX4_count_81 ?_
    refine va_get (D := D) (ci := 1) (v := .int N.2.2.2.2.2.2.2.2.2.2.2.1) (C := RX1) (T := TX1) (N := 14) hx hb hts inA1 hown hK hP 21 rfl rfl 11 (by decide) (hts _ wd_fl_RX4_185) (fun _ h9 => h9) rfl dX4_count_84 ?_
    exact hret _ _ _ _ (N.2.2.2.2.2.2.2.2.2.2.2.1) () dX4_count_87 rfl (hq.symm.trans hX) hP hD hS
  have hq := it_neg hq c2
  by_cases c3 : x1 = 2
  · have hq := it_pos hq c3
    refine lv_tableIn (tgt := 88) hx hb dX4_count_1 (by rw [c3]; decide) (by rw [c3]; decide) (by rw [c3] <;> rfl) (by decide) ?_
    refine lv_aload_n hx hb dX4_count_88 rfl (lv_at hl 0 rfl) ?_
    refine va_get (D := D) (ci := 4) (v := .ref n0) (C := RX4) (T := TX4) (N := 6) hx hb hts inA4 hown hK hP 0 rfl rfl 0 (by decide) (hts _ wd_fl_RX4_10) (fun _ h9 => h9) rfl dX4_count_89 ?_
    refine va_get (D := D) (ci := 1) (v := .int N.2.2.2.2.2.2.2.2.2.2.2.2.1) (C := RX1) (T := TX1) (N := 14) hx hb hts inA1 hown hK hP 21 rfl rfl 12 (by decide) (hts _ wd_fl_RX4_188) (fun _ h9 => h9) rfl dX4_count_92 ?_
    exact hret _ _ _ _ (N.2.2.2.2.2.2.2.2.2.2.2.2.1) () dX4_count_95 rfl (hq.symm.trans hX) hP hD hS
  have hq := it_neg hq c3
  by_cases c4 : x1 = 3
  · have hq := it_pos hq c4
    refine lv_tableIn (tgt := 96) hx hb dX4_count_1 (by rw [c4]; decide) (by rw [c4]; decide) (by rw [c4] <;> rfl) (by decide) ?_
    refine lv_aload_n hx hb dX4_count_96 rfl (lv_at hl 0 rfl) ?_
    refine va_get (D := D) (ci := 4) (v := .ref n0) (C := RX4) (T := TX4) (N := 6) hx hb hts inA4 hown hK hP 0 rfl rfl 0 (by decide) (hts _ wd_fl_RX4_10) (fun _ h9 => h9) rfl dX4_count_97 ?_
    refine va_get (D := D) (ci := 1) (v := .int N.2.2.2.2.2.2.2.2.2.2.2.2.2) (C := RX1) (T := TX1) (N := 14) hx hb hts inA1 hown hK hP 21 rfl rfl 13 (by decide) (hts _ wd_fl_RX4_191) (fun _ h9 => h9) rfl dX4_count_100 ?_
    exact hret _ _ _ _ (N.2.2.2.2.2.2.2.2.2.2.2.2.2) () dX4_count_103 rfl (hq.symm.trans hX) hP hD hS
  have hq := it_neg hq c4
  by_cases c5 : x1 = 4
  · have hq := it_pos hq c5
    refine lv_tableIn (tgt := 104) hx hb dX4_count_1 (by rw [c5]; decide) (by rw [c5]; decide) (by rw [c5] <;> rfl) (by decide) ?_
    refine lv_aload_n hx hb dX4_count_104 rfl (lv_at hl 0 rfl) ?_
    refine va_get (D := D) (ci := 4) (v := .ref n0) (C := RX4) (T := TX4) (N := 6) hx hb hts inA4 hown hK hP 0 rfl rfl 0 (by decide) (hts _ wd_fl_RX4_10) (fun _ h9 => h9) rfl dX4_count_105 ?_
    have hPs : va_P D vwCl (((OB d0 n0 s0 h1 p0 t0 tk) ++ ((SW t0 rs de pc pg) ++ ((PW cI cC p0 pa sg ln po dd lt pl f1s s2s tms) ++ (MT cI s0 sa S)))) ++ ((MW cI n0 na N.1 N.2.1 N.2.2.1 N.2.2.2.1 N.2.2.2.2.1 N.2.2.2.2.2.1 N.2.2.2.2.2.2.1 N.2.2.2.2.2.2.2.1 N.2.2.2.2.2.2.2.2.1 N.2.2.2.2.2.2.2.2.2.1 N.2.2.2.2.2.2.2.2.2.2.1 N.2.2.2.2.2.2.2.2.2.2.2.1 N.2.2.2.2.2.2.2.2.2.2.2.2.1 N.2.2.2.2.2.2.2.2.2.2.2.2.2) ++ ((HO cQ h1 h2 mm oo zz) ++ ((MT cI (mm 0) (ma 0) M0) ++ ((MT cI (mm 1) (ma 1) M1) ++ ((MT cI (mm 2) (ma 2) M2) ++ (MT cI (mm 3) (ma 3) M3))))))) H := hP
    have hDs : va_D A (((OB d0 n0 s0 h1 p0 t0 tk) ++ ((SW t0 rs de pc pg) ++ ((PW cI cC p0 pa sg ln po dd lt pl f1s s2s tms) ++ (MT cI s0 sa S)))) ++ ((MW cI n0 na N.1 N.2.1 N.2.2.1 N.2.2.2.1 N.2.2.2.2.1 N.2.2.2.2.2.1 N.2.2.2.2.2.2.1 N.2.2.2.2.2.2.2.1 N.2.2.2.2.2.2.2.2.1 N.2.2.2.2.2.2.2.2.2.1 N.2.2.2.2.2.2.2.2.2.2.1 N.2.2.2.2.2.2.2.2.2.2.2.1 N.2.2.2.2.2.2.2.2.2.2.2.2.1 N.2.2.2.2.2.2.2.2.2.2.2.2.2) ++ ((HO cQ h1 h2 mm oo zz) ++ ((MT cI (mm 0) (ma 0) M0) ++ ((MT cI (mm 1) (ma 1) M1) ++ ((MT cI (mm 2) (ma 2) M2) ++ (MT cI (mm 3) (ma 3) M3))))))) := hD
    refine k_behi (X := ((OB d0 n0 s0 h1 p0 t0 tk) ++ ((SW t0 rs de pc pg) ++ ((PW cI cC p0 pa sg ln po dd lt pl f1s s2s tms) ++ (MT cI s0 sa S))))) (Y := ((HO cQ h1 h2 mm oo zz) ++ ((MT cI (mm 0) (ma 0) M0) ++ ((MT cI (mm 1) (ma 1) M1) ++ ((MT cI (mm 2) (ma 2) M2) ++ (MT cI (mm 3) (ma 3) M3)))))) (va_runV (As := []) (rest := []) ⟨hx, hb, hml, hown, hts⟩ (c_X1_darkOfAll l D cI cC cQ H.size n0 na N.1 N.2.1 N.2.2.1 N.2.2.2.1 N.2.2.2.2.1 N.2.2.2.2.2.1 N.2.2.2.2.2.2.1 N.2.2.2.2.2.2.2.1 N.2.2.2.2.2.2.2.2.1 N.2.2.2.2.2.2.2.2.2.1 N.2.2.2.2.2.2.2.2.2.2.1 N.2.2.2.2.2.2.2.2.2.2.2.1 N.2.2.2.2.2.2.2.2.2.2.2.2.1 N.2.2.2.2.2.2.2.2.2.2.2.2.2 ) (kcwV hts wd_ml_RX4_194 wd_im_yX1_darkOfAll wd_sel_yX1_darkOfAll wd_ini_RX1 wd_code_yX1_darkOfAll rfl rfl rfl hd_X1_darkOfAll ⟨Nat.le_of_ble_eq_true rfl, Nat.le_of_ble_eq_true rfl⟩) ⟨in_blind, va_recv hK (pa_l (pa_r hPs)) (ci := 1) (q0 := 0) rfl rfl, k_pre hK (pa_l (pa_r hPs)) (da_l (da_r hDs)) hN⟩ rfl rfl hl.1 rfl (lv_room (Nat.le_of_ble_eq_true rfl)) dX4_count_108 ⟨Nat.le_of_ble_eq_true rfl, Nat.le_of_ble_eq_true rfl⟩) hPs hDs hS hA (fun r18 u19 H locs hw20 hP hD hS => ?_)
    have hP : va_P D vwCl (DW cI cC cQ d0 n0 na s0 sa h1 h2 mm ma t0 p0 pa tk N S oo zz M0 M1 M2 M3 rs de pc pg sg ln po dd lt pl f1s s2s tms) H := hP
    have hD : va_D A (DW cI cC cQ d0 n0 na s0 sa h1 h2 mm ma t0 p0 pa tk N S oo zz M0 M1 M2 M3 rs de pc pg sg ln po dd lt pl f1s s2s tms) := hD
    have hw20 : r18 = (sh_X1_darkOfAll N.2.2.2.2.2.2.1) := hw20
    subst hw20
    refine lv_aload_n hx hb dX4_count_111 rfl (lv_at hl 0 rfl) ?_
    refine va_get (D := D) (ci := 4) (v := .ref n0) (C := RX4) (T := TX4) (N := 6) hx hb hts inA4 hown hK hP 0 rfl rfl 0 (by decide) (hts _ wd_fl_RX4_10) (fun _ h9 => h9) rfl dX4_count_112 ?_
    have hPs : va_P D vwCl (((OB d0 n0 s0 h1 p0 t0 tk) ++ ((SW t0 rs de pc pg) ++ ((PW cI cC p0 pa sg ln po dd lt pl f1s s2s tms) ++ (MT cI s0 sa S)))) ++ ((MW cI n0 na N.1 N.2.1 N.2.2.1 N.2.2.2.1 N.2.2.2.2.1 N.2.2.2.2.2.1 N.2.2.2.2.2.2.1 N.2.2.2.2.2.2.2.1 N.2.2.2.2.2.2.2.2.1 N.2.2.2.2.2.2.2.2.2.1 N.2.2.2.2.2.2.2.2.2.2.1 N.2.2.2.2.2.2.2.2.2.2.2.1 N.2.2.2.2.2.2.2.2.2.2.2.2.1 N.2.2.2.2.2.2.2.2.2.2.2.2.2) ++ ((HO cQ h1 h2 mm oo zz) ++ ((MT cI (mm 0) (ma 0) M0) ++ ((MT cI (mm 1) (ma 1) M1) ++ ((MT cI (mm 2) (ma 2) M2) ++ (MT cI (mm 3) (ma 3) M3))))))) H := hP
    have hDs : va_D A (((OB d0 n0 s0 h1 p0 t0 tk) ++ ((SW t0 rs de pc pg) ++ ((PW cI cC p0 pa sg ln po dd lt pl f1s s2s tms) ++ (MT cI s0 sa S)))) ++ ((MW cI n0 na N.1 N.2.1 N.2.2.1 N.2.2.2.1 N.2.2.2.2.1 N.2.2.2.2.2.1 N.2.2.2.2.2.2.1 N.2.2.2.2.2.2.2.1 N.2.2.2.2.2.2.2.2.1 N.2.2.2.2.2.2.2.2.2.1 N.2.2.2.2.2.2.2.2.2.2.1 N.2.2.2.2.2.2.2.2.2.2.2.1 N.2.2.2.2.2.2.2.2.2.2.2.2.1 N.2.2.2.2.2.2.2.2.2.2.2.2.2) ++ ((HO cQ h1 h2 mm oo zz) ++ ((MT cI (mm 0) (ma 0) M0) ++ ((MT cI (mm 1) (ma 1) M1) ++ ((MT cI (mm 2) (ma 2) M2) ++ (MT cI (mm 3) (ma 3) M3))))))) := hD
    refine k_behi (X := ((OB d0 n0 s0 h1 p0 t0 tk) ++ ((SW t0 rs de pc pg) ++ ((PW cI cC p0 pa sg ln po dd lt pl f1s s2s tms) ++ (MT cI s0 sa S))))) (Y := ((HO cQ h1 h2 mm oo zz) ++ ((MT cI (mm 0) (ma 0) M0) ++ ((MT cI (mm 1) (ma 1) M1) ++ ((MT cI (mm 2) (ma 2) M2) ++ (MT cI (mm 3) (ma 3) M3)))))) (va_runV (As := []) (rest := [.int (sh_X1_darkOfAll N.2.2.2.2.2.2.1)]) ⟨hx, hb, hml, hown, hts⟩ (c_X1_lightOfAll l D cI cC cQ H.size n0 na N.1 N.2.1 N.2.2.1 N.2.2.2.1 N.2.2.2.2.1 N.2.2.2.2.2.1 N.2.2.2.2.2.2.1 N.2.2.2.2.2.2.2.1 N.2.2.2.2.2.2.2.2.1 N.2.2.2.2.2.2.2.2.2.1 N.2.2.2.2.2.2.2.2.2.2.1 N.2.2.2.2.2.2.2.2.2.2.2.1 N.2.2.2.2.2.2.2.2.2.2.2.2.1 N.2.2.2.2.2.2.2.2.2.2.2.2.2 ) (kcwV hts wd_ml_RX4_197 wd_im_yX1_lightOfAll wd_sel_yX1_lightOfAll wd_ini_RX1 wd_code_yX1_lightOfAll rfl rfl rfl hd_X1_lightOfAll ⟨Nat.le_of_ble_eq_true rfl, Nat.le_of_ble_eq_true rfl⟩) ⟨in_blind, va_recv hK (pa_l (pa_r hPs)) (ci := 1) (q0 := 0) rfl rfl, k_pre hK (pa_l (pa_r hPs)) (da_l (da_r hDs)) hN⟩ rfl rfl hl.1 rfl (lv_room (Nat.le_of_ble_eq_true rfl)) dX4_count_115 ⟨Nat.le_of_ble_eq_true rfl, Nat.le_of_ble_eq_true rfl⟩) hPs hDs hS hA (fun r21 u22 H locs hw23 hP hD hS => ?_)
    have hP : va_P D vwCl (DW cI cC cQ d0 n0 na s0 sa h1 h2 mm ma t0 p0 pa tk N S oo zz M0 M1 M2 M3 rs de pc pg sg ln po dd lt pl f1s s2s tms) H := hP
    have hD : va_D A (DW cI cC cQ d0 n0 na s0 sa h1 h2 mm ma t0 p0 pa tk N S oo zz M0 M1 M2 M3 rs de pc pg sg ln po dd lt pl f1s s2s tms) := hD
    have hw23 : r21 = (sh_X1_lightOfAll N.2.2.2.2.2.2.2.1) := hw23
    subst hw23
    refine lv_iadd hx hb dX4_count_118 ?_
    exact hret _ _ _ _ (((sh_X1_darkOfAll N.2.2.2.2.2.2.1) + (sh_X1_lightOfAll N.2.2.2.2.2.2.2.1))) () dX4_count_119 rfl (hq.symm.trans hX) hP hD hS
  have hq := it_neg hq c5
  by_cases c6 : x1 = 5
  · have hq := it_pos hq c6
    refine lv_tableIn (tgt := 120) hx hb dX4_count_1 (by rw [c6]; decide) (by rw [c6]; decide) (by rw [c6] <;> rfl) (by decide) ?_
    refine lv_aload_n hx hb dX4_count_120 rfl (lv_at hl 0 rfl) ?_
    refine va_get (D := D) (ci := 4) (v := .ref n0) (C := RX4) (T := TX4) (N := 6) hx hb hts inA4 hown hK hP 0 rfl rfl 0 (by decide) (hts _ wd_fl_RX4_10) (fun _ h9 => h9) rfl dX4_count_121 ?_
    have hPs : va_P D vwCl (((OB d0 n0 s0 h1 p0 t0 tk) ++ ((SW t0 rs de pc pg) ++ ((PW cI cC p0 pa sg ln po dd lt pl f1s s2s tms) ++ (MT cI s0 sa S)))) ++ ((MW cI n0 na N.1 N.2.1 N.2.2.1 N.2.2.2.1 N.2.2.2.2.1 N.2.2.2.2.2.1 N.2.2.2.2.2.2.1 N.2.2.2.2.2.2.2.1 N.2.2.2.2.2.2.2.2.1 N.2.2.2.2.2.2.2.2.2.1 N.2.2.2.2.2.2.2.2.2.2.1 N.2.2.2.2.2.2.2.2.2.2.2.1 N.2.2.2.2.2.2.2.2.2.2.2.2.1 N.2.2.2.2.2.2.2.2.2.2.2.2.2) ++ ((HO cQ h1 h2 mm oo zz) ++ ((MT cI (mm 0) (ma 0) M0) ++ ((MT cI (mm 1) (ma 1) M1) ++ ((MT cI (mm 2) (ma 2) M2) ++ (MT cI (mm 3) (ma 3) M3))))))) H := hP
    have hDs : va_D A (((OB d0 n0 s0 h1 p0 t0 tk) ++ ((SW t0 rs de pc pg) ++ ((PW cI cC p0 pa sg ln po dd lt pl f1s s2s tms) ++ (MT cI s0 sa S)))) ++ ((MW cI n0 na N.1 N.2.1 N.2.2.1 N.2.2.2.1 N.2.2.2.2.1 N.2.2.2.2.2.1 N.2.2.2.2.2.2.1 N.2.2.2.2.2.2.2.1 N.2.2.2.2.2.2.2.2.1 N.2.2.2.2.2.2.2.2.2.1 N.2.2.2.2.2.2.2.2.2.2.1 N.2.2.2.2.2.2.2.2.2.2.2.1 N.2.2.2.2.2.2.2.2.2.2.2.2.1 N.2.2.2.2.2.2.2.2.2.2.2.2.2) ++ ((HO cQ h1 h2 mm oo zz) ++ ((MT cI (mm 0) (ma 0) M0) ++ ((MT cI (mm 1) (ma 1) M1) ++ ((MT cI (mm 2) (ma 2) M2) ++ (MT cI (mm 3) (ma 3) M3))))))) := hD
    refine k_behi (X := ((OB d0 n0 s0 h1 p0 t0 tk) ++ ((SW t0 rs de pc pg) ++ ((PW cI cC p0 pa sg ln po dd lt pl f1s s2s tms) ++ (MT cI s0 sa S))))) (Y := ((HO cQ h1 h2 mm oo zz) ++ ((MT cI (mm 0) (ma 0) M0) ++ ((MT cI (mm 1) (ma 1) M1) ++ ((MT cI (mm 2) (ma 2) M2) ++ (MT cI (mm 3) (ma 3) M3)))))) (va_runV (As := []) (rest := []) ⟨hx, hb, hml, hown, hts⟩ (c_X1_cupsInside l D cI cC cQ H.size n0 na N.1 N.2.1 N.2.2.1 N.2.2.2.1 N.2.2.2.2.1 N.2.2.2.2.2.1 N.2.2.2.2.2.2.1 N.2.2.2.2.2.2.2.1 N.2.2.2.2.2.2.2.2.1 N.2.2.2.2.2.2.2.2.2.1 N.2.2.2.2.2.2.2.2.2.2.1 N.2.2.2.2.2.2.2.2.2.2.2.1 N.2.2.2.2.2.2.2.2.2.2.2.2.1 N.2.2.2.2.2.2.2.2.2.2.2.2.2 ) (kcwV hts wd_ml_RX4_200 wd_im_yX1_cupsInside wd_sel_yX1_cupsInside wd_ini_RX1 wd_code_yX1_cupsInside rfl rfl rfl hd_X1_cupsInside ⟨Nat.le_of_ble_eq_true rfl, Nat.le_of_ble_eq_true rfl⟩) ⟨in_blind, va_recv hK (pa_l (pa_r hPs)) (ci := 1) (q0 := 0) rfl rfl, k_pre hK (pa_l (pa_r hPs)) (da_l (da_r hDs)) hN⟩ rfl rfl hl.1 rfl (lv_room (Nat.le_of_ble_eq_true rfl)) dX4_count_124 ⟨Nat.le_of_ble_eq_true rfl, Nat.le_of_ble_eq_true rfl⟩) hPs hDs hS hA (fun r24 u25 H locs hw26 hP hD hS => ?_)
    have hP : va_P D vwCl (DW cI cC cQ d0 n0 na s0 sa h1 h2 mm ma t0 p0 pa tk N S oo zz M0 M1 M2 M3 rs de pc pg sg ln po dd lt pl f1s s2s tms) H := hP
    have hD : va_D A (DW cI cC cQ d0 n0 na s0 sa h1 h2 mm ma t0 p0 pa tk N S oo zz M0 M1 M2 M3 rs de pc pg sg ln po dd lt pl f1s s2s tms) := hD
    have hw26 : r24 = (sh_X1_cupsInside N.2.2.2.2.2.1) := hw26
    subst hw26
    exact hret _ _ _ _ ((sh_X1_cupsInside N.2.2.2.2.2.1)) () dX4_count_127 rfl (hq.symm.trans hX) hP hD hS
  have hq := it_neg hq c6
  by_cases c7 : x1 = 6
  · have hq := it_pos hq c7
    refine lv_tableIn (tgt := 128) hx hb dX4_count_1 (by rw [c7]; decide) (by rw [c7]; decide) (by rw [c7] <;> rfl) (by decide) ?_
    refine lv_aload_n hx hb dX4_count_128 rfl (lv_at hl 0 rfl) ?_
    refine va_get (D := D) (ci := 4) (v := .ref n0) (C := RX4) (T := TX4) (N := 6) hx hb hts inA4 hown hK hP 0 rfl rfl 0 (by decide) (hts _ wd_fl_RX4_10) (fun _ h9 => h9) rfl dX4_count_129 ?_
    have hPs : va_P D vwCl (((OB d0 n0 s0 h1 p0 t0 tk) ++ ((SW t0 rs de pc pg) ++ ((PW cI cC p0 pa sg ln po dd lt pl f1s s2s tms) ++ (MT cI s0 sa S)))) ++ ((MW cI n0 na N.1 N.2.1 N.2.2.1 N.2.2.2.1 N.2.2.2.2.1 N.2.2.2.2.2.1 N.2.2.2.2.2.2.1 N.2.2.2.2.2.2.2.1 N.2.2.2.2.2.2.2.2.1 N.2.2.2.2.2.2.2.2.2.1 N.2.2.2.2.2.2.2.2.2.2.1 N.2.2.2.2.2.2.2.2.2.2.2.1 N.2.2.2.2.2.2.2.2.2.2.2.2.1 N.2.2.2.2.2.2.2.2.2.2.2.2.2) ++ ((HO cQ h1 h2 mm oo zz) ++ ((MT cI (mm 0) (ma 0) M0) ++ ((MT cI (mm 1) (ma 1) M1) ++ ((MT cI (mm 2) (ma 2) M2) ++ (MT cI (mm 3) (ma 3) M3))))))) H := hP
    have hDs : va_D A (((OB d0 n0 s0 h1 p0 t0 tk) ++ ((SW t0 rs de pc pg) ++ ((PW cI cC p0 pa sg ln po dd lt pl f1s s2s tms) ++ (MT cI s0 sa S)))) ++ ((MW cI n0 na N.1 N.2.1 N.2.2.1 N.2.2.2.1 N.2.2.2.2.1 N.2.2.2.2.2.1 N.2.2.2.2.2.2.1 N.2.2.2.2.2.2.2.1 N.2.2.2.2.2.2.2.2.1 N.2.2.2.2.2.2.2.2.2.1 N.2.2.2.2.2.2.2.2.2.2.1 N.2.2.2.2.2.2.2.2.2.2.2.1 N.2.2.2.2.2.2.2.2.2.2.2.2.1 N.2.2.2.2.2.2.2.2.2.2.2.2.2) ++ ((HO cQ h1 h2 mm oo zz) ++ ((MT cI (mm 0) (ma 0) M0) ++ ((MT cI (mm 1) (ma 1) M1) ++ ((MT cI (mm 2) (ma 2) M2) ++ (MT cI (mm 3) (ma 3) M3))))))) := hD
    refine k_behi (X := ((OB d0 n0 s0 h1 p0 t0 tk) ++ ((SW t0 rs de pc pg) ++ ((PW cI cC p0 pa sg ln po dd lt pl f1s s2s tms) ++ (MT cI s0 sa S))))) (Y := ((HO cQ h1 h2 mm oo zz) ++ ((MT cI (mm 0) (ma 0) M0) ++ ((MT cI (mm 1) (ma 1) M1) ++ ((MT cI (mm 2) (ma 2) M2) ++ (MT cI (mm 3) (ma 3) M3)))))) (va_runV (As := []) (rest := []) ⟨hx, hb, hml, hown, hts⟩ (c_X1_allToldLeft l D cI cC cQ H.size n0 na N.1 N.2.1 N.2.2.1 N.2.2.2.1 N.2.2.2.2.1 N.2.2.2.2.2.1 N.2.2.2.2.2.2.1 N.2.2.2.2.2.2.2.1 N.2.2.2.2.2.2.2.2.1 N.2.2.2.2.2.2.2.2.2.1 N.2.2.2.2.2.2.2.2.2.2.1 N.2.2.2.2.2.2.2.2.2.2.2.1 N.2.2.2.2.2.2.2.2.2.2.2.2.1 N.2.2.2.2.2.2.2.2.2.2.2.2.2 ) (kcwV hts wd_ml_RX4_203 wd_im_yX1_allToldLeft wd_sel_yX1_allToldLeft wd_ini_RX1 wd_code_yX1_allToldLeft rfl rfl rfl hd_X1_allToldLeft ⟨Nat.le_of_ble_eq_true rfl, Nat.le_of_ble_eq_true rfl⟩) ⟨in_blind, va_recv hK (pa_l (pa_r hPs)) (ci := 1) (q0 := 0) rfl rfl, k_pre hK (pa_l (pa_r hPs)) (da_l (da_r hDs)) hN⟩ rfl rfl hl.1 rfl (lv_room (Nat.le_of_ble_eq_true rfl)) dX4_count_132 ⟨Nat.le_of_ble_eq_true rfl, Nat.le_of_ble_eq_true rfl⟩) hPs hDs hS hA (fun r27 u28 H locs hw29 hP hD hS => ?_)
    have hP : va_P D vwCl (DW cI cC cQ d0 n0 na s0 sa h1 h2 mm ma t0 p0 pa tk N S oo zz M0 M1 M2 M3 rs de pc pg sg ln po dd lt pl f1s s2s tms) H := hP
    have hD : va_D A (DW cI cC cQ d0 n0 na s0 sa h1 h2 mm ma t0 p0 pa tk N S oo zz M0 M1 M2 M3 rs de pc pg sg ln po dd lt pl f1s s2s tms) := hD
    have hw29 : r27 = (sh_X1_allToldLeft N.1 N.2.2.1 N.2.2.2.1 N.2.2.2.2.1) := hw29
    subst hw29
    exact hret _ _ _ _ ((sh_X1_allToldLeft N.1 N.2.2.1 N.2.2.2.1 N.2.2.2.2.1)) () dX4_count_135 rfl (hq.symm.trans hX) hP hD hS
  have hq := it_neg hq c7
  by_cases c8 : x1 = 7
  · have hq := it_pos hq c8
    refine lv_tableIn (tgt := 136) hx hb dX4_count_1 (by rw [c8]; decide) (by rw [c8]; decide) (by rw [c8] <;> rfl) (by decide) ?_
    refine lv_aload_n hx hb dX4_count_136 rfl (lv_at hl 0 rfl) ?_
    refine va_get (D := D) (ci := 4) (v := .ref n0) (C := RX4) (T := TX4) (N := 6) hx hb hts inA4 hown hK hP 0 rfl rfl 0 (by decide) (hts _ wd_fl_RX4_10) (fun _ h9 => h9) rfl dX4_count_137 ?_
    have hPs : va_P D vwCl (((OB d0 n0 s0 h1 p0 t0 tk) ++ ((SW t0 rs de pc pg) ++ ((PW cI cC p0 pa sg ln po dd lt pl f1s s2s tms) ++ (MT cI s0 sa S)))) ++ ((MW cI n0 na N.1 N.2.1 N.2.2.1 N.2.2.2.1 N.2.2.2.2.1 N.2.2.2.2.2.1 N.2.2.2.2.2.2.1 N.2.2.2.2.2.2.2.1 N.2.2.2.2.2.2.2.2.1 N.2.2.2.2.2.2.2.2.2.1 N.2.2.2.2.2.2.2.2.2.2.1 N.2.2.2.2.2.2.2.2.2.2.2.1 N.2.2.2.2.2.2.2.2.2.2.2.2.1 N.2.2.2.2.2.2.2.2.2.2.2.2.2) ++ ((HO cQ h1 h2 mm oo zz) ++ ((MT cI (mm 0) (ma 0) M0) ++ ((MT cI (mm 1) (ma 1) M1) ++ ((MT cI (mm 2) (ma 2) M2) ++ (MT cI (mm 3) (ma 3) M3))))))) H := hP
    have hDs : va_D A (((OB d0 n0 s0 h1 p0 t0 tk) ++ ((SW t0 rs de pc pg) ++ ((PW cI cC p0 pa sg ln po dd lt pl f1s s2s tms) ++ (MT cI s0 sa S)))) ++ ((MW cI n0 na N.1 N.2.1 N.2.2.1 N.2.2.2.1 N.2.2.2.2.1 N.2.2.2.2.2.1 N.2.2.2.2.2.2.1 N.2.2.2.2.2.2.2.1 N.2.2.2.2.2.2.2.2.1 N.2.2.2.2.2.2.2.2.2.1 N.2.2.2.2.2.2.2.2.2.2.1 N.2.2.2.2.2.2.2.2.2.2.2.1 N.2.2.2.2.2.2.2.2.2.2.2.2.1 N.2.2.2.2.2.2.2.2.2.2.2.2.2) ++ ((HO cQ h1 h2 mm oo zz) ++ ((MT cI (mm 0) (ma 0) M0) ++ ((MT cI (mm 1) (ma 1) M1) ++ ((MT cI (mm 2) (ma 2) M2) ++ (MT cI (mm 3) (ma 3) M3))))))) := hD
    refine k_behi (X := ((OB d0 n0 s0 h1 p0 t0 tk) ++ ((SW t0 rs de pc pg) ++ ((PW cI cC p0 pa sg ln po dd lt pl f1s s2s tms) ++ (MT cI s0 sa S))))) (Y := ((HO cQ h1 h2 mm oo zz) ++ ((MT cI (mm 0) (ma 0) M0) ++ ((MT cI (mm 1) (ma 1) M1) ++ ((MT cI (mm 2) (ma 2) M2) ++ (MT cI (mm 3) (ma 3) M3)))))) (va_runV (As := []) (rest := []) ⟨hx, hb, hml, hown, hts⟩ (c_X1_cupsOvertold l D cI cC cQ H.size n0 na N.1 N.2.1 N.2.2.1 N.2.2.2.1 N.2.2.2.2.1 N.2.2.2.2.2.1 N.2.2.2.2.2.2.1 N.2.2.2.2.2.2.2.1 N.2.2.2.2.2.2.2.2.1 N.2.2.2.2.2.2.2.2.2.1 N.2.2.2.2.2.2.2.2.2.2.1 N.2.2.2.2.2.2.2.2.2.2.2.1 N.2.2.2.2.2.2.2.2.2.2.2.2.1 N.2.2.2.2.2.2.2.2.2.2.2.2.2 ) (kcwV hts wd_ml_RX4_206 wd_im_yX1_cupsOvertold wd_sel_yX1_cupsOvertold wd_ini_RX1 wd_code_yX1_cupsOvertold rfl rfl rfl hd_X1_cupsOvertold ⟨Nat.le_of_ble_eq_true rfl, Nat.le_of_ble_eq_true rfl⟩) ⟨in_blind, va_recv hK (pa_l (pa_r hPs)) (ci := 1) (q0 := 0) rfl rfl, k_pre hK (pa_l (pa_r hPs)) (da_l (da_r hDs)) hN⟩ rfl rfl hl.1 rfl (lv_room (Nat.le_of_ble_eq_true rfl)) dX4_count_140 ⟨Nat.le_of_ble_eq_true rfl, Nat.le_of_ble_eq_true rfl⟩) hPs hDs hS hA (fun r30 u31 H locs hw32 hP hD hS => ?_)
    have hP : va_P D vwCl (DW cI cC cQ d0 n0 na s0 sa h1 h2 mm ma t0 p0 pa tk N S oo zz M0 M1 M2 M3 rs de pc pg sg ln po dd lt pl f1s s2s tms) H := hP
    have hD : va_D A (DW cI cC cQ d0 n0 na s0 sa h1 h2 mm ma t0 p0 pa tk N S oo zz M0 M1 M2 M3 rs de pc pg sg ln po dd lt pl f1s s2s tms) := hD
    have hw32 : r30 = (sh_X1_cupsOvertold N.1 N.2.2.1 N.2.2.2.1 N.2.2.2.2.1) := hw32
    subst hw32
    exact hret _ _ _ _ ((sh_X1_cupsOvertold N.1 N.2.2.1 N.2.2.2.1 N.2.2.2.2.1)) () dX4_count_143 rfl (hq.symm.trans hX) hP hD hS
  have hq := it_neg hq c8
  by_cases c9 : x1 = 8
  · have hq := it_pos hq c9
    refine lv_tableIn (tgt := 144) hx hb dX4_count_1 (by rw [c9]; decide) (by rw [c9]; decide) (by rw [c9] <;> rfl) (by decide) ?_
    refine lv_aload_n hx hb dX4_count_144 rfl (lv_at hl 0 rfl) ?_
    refine va_get (D := D) (ci := 4) (v := .ref n0) (C := RX4) (T := TX4) (N := 6) hx hb hts inA4 hown hK hP 0 rfl rfl 0 (by decide) (hts _ wd_fl_RX4_10) (fun _ h9 => h9) rfl dX4_count_145 ?_
    refine va_get (D := D) (ci := 1) (v := .ref (na 0)) (C := RX1) (T := TX1) (N := 14) hx hb hts inA1 hown hK hP 21 rfl rfl 0 (by decide) (hts _ wd_fl_RX4_92) (fun _ h9 => h9) rfl dX4_count_148 ?_
    refine lv_iload_n hx hb dX4_count_151 rfl (lv_at hl 1 rfl) ?_
    refine lv_bipush (v := 8) hx hb dX4_count_152 (by decide) ?_
    refine lv_isub hx hb dX4_count_154 ?_
    refine va_iald hx hb hK hP 22 0 rfl rfl (by rw [c9]; exact k_in (by decide)) dX4_count_155 ?_
    exact hret _ _ _ _ ((N.1 (x1 - 8).toNatClampNeg)) () dX4_count_156 rfl (hq.symm.trans hX) hP hD hS
  have hq := it_neg hq c9
  by_cases c10 : x1 = 9
  · have hq := it_pos hq c10
    refine lv_tableIn (tgt := 144) hx hb dX4_count_1 (by rw [c10]; decide) (by rw [c10]; decide) (by rw [c10] <;> rfl) (by decide) ?_
    refine lv_aload_n hx hb dX4_count_144 rfl (lv_at hl 0 rfl) ?_
    refine va_get (D := D) (ci := 4) (v := .ref n0) (C := RX4) (T := TX4) (N := 6) hx hb hts inA4 hown hK hP 0 rfl rfl 0 (by decide) (hts _ wd_fl_RX4_10) (fun _ h9 => h9) rfl dX4_count_145 ?_
    refine va_get (D := D) (ci := 1) (v := .ref (na 0)) (C := RX1) (T := TX1) (N := 14) hx hb hts inA1 hown hK hP 21 rfl rfl 0 (by decide) (hts _ wd_fl_RX4_92) (fun _ h9 => h9) rfl dX4_count_148 ?_
    refine lv_iload_n hx hb dX4_count_151 rfl (lv_at hl 1 rfl) ?_
    refine lv_bipush (v := 8) hx hb dX4_count_152 (by decide) ?_
    refine lv_isub hx hb dX4_count_154 ?_
    refine va_iald hx hb hK hP 22 0 rfl rfl (by rw [c10]; exact k_in (by decide)) dX4_count_155 ?_
    exact hret _ _ _ _ ((N.1 (x1 - 8).toNatClampNeg)) () dX4_count_156 rfl (hq.symm.trans hX) hP hD hS
  have hq := it_neg hq c10
  by_cases c11 : x1 = 10
  · have hq := it_pos hq c11
    refine lv_tableIn (tgt := 144) hx hb dX4_count_1 (by rw [c11]; decide) (by rw [c11]; decide) (by rw [c11] <;> rfl) (by decide) ?_
    refine lv_aload_n hx hb dX4_count_144 rfl (lv_at hl 0 rfl) ?_
    refine va_get (D := D) (ci := 4) (v := .ref n0) (C := RX4) (T := TX4) (N := 6) hx hb hts inA4 hown hK hP 0 rfl rfl 0 (by decide) (hts _ wd_fl_RX4_10) (fun _ h9 => h9) rfl dX4_count_145 ?_
    refine va_get (D := D) (ci := 1) (v := .ref (na 0)) (C := RX1) (T := TX1) (N := 14) hx hb hts inA1 hown hK hP 21 rfl rfl 0 (by decide) (hts _ wd_fl_RX4_92) (fun _ h9 => h9) rfl dX4_count_148 ?_
    refine lv_iload_n hx hb dX4_count_151 rfl (lv_at hl 1 rfl) ?_
    refine lv_bipush (v := 8) hx hb dX4_count_152 (by decide) ?_
    refine lv_isub hx hb dX4_count_154 ?_
    refine va_iald hx hb hK hP 22 0 rfl rfl (by rw [c11]; exact k_in (by decide)) dX4_count_155 ?_
    exact hret _ _ _ _ ((N.1 (x1 - 8).toNatClampNeg)) () dX4_count_156 rfl (hq.symm.trans hX) hP hD hS
  have hq := it_neg hq c11
  by_cases c12 : x1 = 11
  · have hq := it_pos hq c12
    refine lv_tableIn (tgt := 144) hx hb dX4_count_1 (by rw [c12]; decide) (by rw [c12]; decide) (by rw [c12] <;> rfl) (by decide) ?_
    refine lv_aload_n hx hb dX4_count_144 rfl (lv_at hl 0 rfl) ?_
    refine va_get (D := D) (ci := 4) (v := .ref n0) (C := RX4) (T := TX4) (N := 6) hx hb hts inA4 hown hK hP 0 rfl rfl 0 (by decide) (hts _ wd_fl_RX4_10) (fun _ h9 => h9) rfl dX4_count_145 ?_
    refine va_get (D := D) (ci := 1) (v := .ref (na 0)) (C := RX1) (T := TX1) (N := 14) hx hb hts inA1 hown hK hP 21 rfl rfl 0 (by decide) (hts _ wd_fl_RX4_92) (fun _ h9 => h9) rfl dX4_count_148 ?_
    refine lv_iload_n hx hb dX4_count_151 rfl (lv_at hl 1 rfl) ?_
    refine lv_bipush (v := 8) hx hb dX4_count_152 (by decide) ?_
    refine lv_isub hx hb dX4_count_154 ?_
    refine va_iald hx hb hK hP 22 0 rfl rfl (by rw [c12]; exact k_in (by decide)) dX4_count_155 ?_
    exact hret _ _ _ _ ((N.1 (x1 - 8).toNatClampNeg)) () dX4_count_156 rfl (hq.symm.trans hX) hP hD hS
  have hq := it_neg hq c12
  by_cases c13 : x1 = 12
  · have hq := it_pos hq c13
    refine lv_tableIn (tgt := 157) hx hb dX4_count_1 (by rw [c13]; decide) (by rw [c13]; decide) (by rw [c13] <;> rfl) (by decide) ?_
    refine lv_aload_n hx hb dX4_count_157 rfl (lv_at hl 0 rfl) ?_
    refine va_get (D := D) (ci := 4) (v := .ref p0) (C := RX4) (T := TX4) (N := 6) hx hb hts inA4 hown hK hP 0 rfl rfl 4 (by decide) (hts _ wd_fl_RX4_33) (fun _ h9 => h9) rfl dX4_count_158 ?_
    refine va_get (D := D) (ci := 2) (v := .int ln) (C := RX2) (T := TX2) (N := 9) hx hb hts inA2 hown hK hP 2 rfl rfl 1 (by decide) (hts _ wd_fl_RX4_103) (fun _ h9 => h9) rfl dX4_count_161 ?_
    exact hret _ _ _ _ (ln) () dX4_count_164 rfl (hq.symm.trans hX) hP hD hS
  have hq := it_neg hq c13
  by_cases c14 : x1 = 13
  · have hq := it_pos hq c14
    refine lv_tableIn (tgt := 165) hx hb dX4_count_1 (by rw [c14]; decide) (by rw [c14]; decide) (by rw [c14] <;> rfl) (by decide) ?_
    refine lv_aload_n hx hb dX4_count_165 rfl (lv_at hl 0 rfl) ?_
    refine va_get (D := D) (ci := 4) (v := .ref h1) (C := RX4) (T := TX4) (N := 6) hx hb hts inA4 hown hK hP 0 rfl rfl 3 (by decide) (hts _ wd_fl_RX4_26) (fun _ h9 => h9) rfl dX4_count_166 ?_
    refine va_get (D := D) (ci := 0) (v := .int zz) (C := RX0) (T := TX0) (N := 3) hx hb hts inA0 hown hK hP 33 rfl rfl 2 (by decide) (hts _ wd_fl_RX4_209) (fun _ h9 => h9) rfl dX4_count_169 ?_
    exact hret _ _ _ _ (zz) () dX4_count_172 rfl (hq.symm.trans hX) hP hD hS
  have hq := it_neg hq c14
  refine lv_tableOut (tgt := 173) hx hb dX4_count_1 (k_out14 c1 c2 c3 c4 c5 c6 c7 c8 c9 c10 c11 c12 c13 c14) (by decide) ?_
  refine lv_iconst (v := (-1)) hx hb dX4_count_173 (by decide) ?_
  exact hret _ _ _ _ ((-1)) () dX4_count_174 rfl (hq.symm.trans hX) hP hD hS
def sh_X4_lasts (N : TMa) (x1 : Int32) (x2 : Int32) (x3 : Int32) : Int32 := (if (sh_X4_isCup x1) = 0 then (-1 : Int32) else (if (sh_X4_isDots x2) = 0 then (-1 : Int32) else (sh_X1_pagesLasting N.1 N.2.2.1 N.2.2.2.1 x1 (sh_X1_tonerFor N.2.1 x1 x2 (N.1 (0 : Int32).toNatClampNeg)) x3 999)))
abbrev rm_X4_lasts : Room := { frames := 2, cells := 0, slots := 0, locals := 49 }
theorem hd_X4_lasts : hdT yX4_lasts 3 := by decide +kernel
set_option maxHeartbeats 40000000 in
set_option maxRecDepth 100000 in
theorem c_X4_lasts (l : Launch) (D : va_G) (cI cC cQ : ClassId) (sz : Nat) (d0 : Nat) (n0 : Nat) (na : Nat → Nat) (s0 : Nat) (sa : Nat → Nat) (h1 : Nat) (h2 : Nat) (mm : Nat → Nat) (ma : Nat → Nat → Nat) (t0 : Nat) (p0 : Nat) (pa : Nat → Nat) (tk : Int32) (N : TMa) (S : TMa) (oo : Int32) (zz : Int32) (M0 : TMa) (M1 : TMa) (M2 : TMa) (M3 : TMa) (rs : Int32) (de : Int32) (pc : Int32) (pg : Int32) (sg : Nat → Int32) (ln : Int32) (po : Int32) (dd : Int32) (lt : Nat → Int32) (pl : Nat → Int32) (f1s : Nat → Int32) (s2s : Nat → Int32) (tms : Nat → Int32) (x1 : Int32) (x2 : Int32) (x3 : Int32)  : Met l yX4_lasts (wsO yX4_lasts cX4_lasts 5 (some .int)) rm_X4_lasts (va_Pc [.ref d0, .int x1, .int x2, .int x3] (inW D (TYS cI cC cQ) (DW cI cC cQ d0 n0 na s0 sa h1 h2 mm ma t0 p0 pa tk N S oo zz M0 M1 M2 M3 rs de pc pg sg ln po dd lt pl f1s s2s tms) sz)) (va_Qi (fun (r : Int32) (_ : Unit) => r = sh_X4_lasts N x1 x2 x3) (fun (u : Unit) => atW D (TYS cI cC cQ) (va_A (DW cI cC cQ d0 n0 na s0 sa h1 h2 mm ma t0 p0 pa tk N S oo zz M0 M1 M2 M3 rs de pc pg sg ln po dd lt pl f1s s2s tms) sz) (DW cI cC cQ d0 n0 na s0 sa h1 h2 mm ma t0 p0 pa tk N S oo zz M0 M1 M2 M3 rs de pc pg sg ln po dd lt pl f1s s2s tms)) (va_A (DW cI cC cQ d0 n0 na s0 sa h1 h2 mm ma t0 p0 pa tk N S oo zz M0 M1 M2 M3 rs de pc pg sg ln po dd lt pl f1s s2s tms) sz)) 0 0 (va_A (DW cI cC cQ d0 n0 na s0 sa h1 h2 mm ma t0 p0 pa tk N S oo zz M0 M1 M2 M3 rs de pc pg sg ln po dd lt pl f1s s2s tms) sz) := by
  refine k_meti .int rfl (by decide) (Nat.le_of_ble_eq_true rfl) ?_
  intro p e s m args below meth c A ls Q H locs hargs hret hx hb hts hown hml hname hN hA hS hP hK hD hl
  have hl : lv_has ls 5 [(0, .ref d0), (1, .int x1), (2, .int x2), (3, .int x3)] := hl
  obtain ⟨Xq, hX⟩ : ∃ Xq, Xq = sh_X4_lasts N x1 x2 x3 := ⟨_, rfl⟩
  have hq : Xq = (if (sh_X4_isCup x1) = 0 then (-1 : Int32) else (if (sh_X4_isDots x2) = 0 then (-1 : Int32) else (sh_X1_pagesLasting N.1 N.2.2.1 N.2.2.2.1 x1 (sh_X1_tonerFor N.2.1 x1 x2 (N.1 (0 : Int32).toNatClampNeg)) x3 999))) := hX
  refine lv_iload_n hx hb dX4_lasts_0 rfl (lv_at hl 1 rfl) ?_
  have hPs : va_P D vwCl ([] ++ ([] ++ (DW cI cC cQ d0 n0 na s0 sa h1 h2 mm ma t0 p0 pa tk N S oo zz M0 M1 M2 M3 rs de pc pg sg ln po dd lt pl f1s s2s tms))) H := hP
  have hDs : va_D A ([] ++ ([] ++ (DW cI cC cQ d0 n0 na s0 sa h1 h2 mm ma t0 p0 pa tk N S oo zz M0 M1 M2 M3 rs de pc pg sg ln po dd lt pl f1s s2s tms))) := hD
  refine k_behi (X := []) (Y := (DW cI cC cQ d0 n0 na s0 sa h1 h2 mm ma t0 p0 pa tk N S oo zz M0 M1 M2 M3 rs de pc pg sg ln po dd lt pl f1s s2s tms)) (va_runS (As := [.int x1]) (rest := []) ⟨hx, hb, hml, hown, hts⟩ (c_X4_isCup l D cI cC cQ H.size x1) (kcwS hts wd_ml_RX4_59 wd_st_yX4_isCup wd_ini_RX4 wd_code_yX4_isCup rfl rfl hd_X4_isCup ⟨Nat.le_of_ble_eq_true rfl, Nat.le_of_ble_eq_true rfl⟩) ⟨in_blind, k_pre hK (pa_l (pa_r hPs)) (da_l (da_r hDs)) hN⟩ rfl rfl hl.1 rfl (lv_room (Nat.le_of_ble_eq_true rfl)) dX4_lasts_1 ⟨Nat.le_of_ble_eq_true rfl, Nat.le_of_ble_eq_true rfl⟩) hPs hDs hS hA (fun r1 u2 H locs hw3 hP hD hS => ?_)
  have hP : va_P D vwCl (DW cI cC cQ d0 n0 na s0 sa h1 h2 mm ma t0 p0 pa tk N S oo zz M0 M1 M2 M3 rs de pc pg sg ln po dd lt pl f1s s2s tms) H := hP
  have hD : va_D A (DW cI cC cQ d0 n0 na s0 sa h1 h2 mm ma t0 p0 pa tk N S oo zz M0 M1 M2 M3 rs de pc pg sg ln po dd lt pl f1s s2s tms) := hD
  have hw3 : r1 = (sh_X4_isCup x1) := hw3
  subst hw3
  refine lv_if_eq (tgt := 14) hx hb dX4_lasts_4 (by decide) (fun c4 => ?_) (fun c4 => ?_)
  · have hq := it_pos hq c4
    refine lv_iconst (v := (-1)) hx hb dX4_lasts_14 (by decide) ?_
    exact hret _ _ _ _ ((-1)) () dX4_lasts_15 rfl (hq.symm.trans hX) hP hD hS
  · have hq := it_neg hq c4
    refine lv_iload_n hx hb dX4_lasts_7 rfl (lv_at hl 2 rfl) ?_
    have hPs : va_P D vwCl ([] ++ ([] ++ (DW cI cC cQ d0 n0 na s0 sa h1 h2 mm ma t0 p0 pa tk N S oo zz M0 M1 M2 M3 rs de pc pg sg ln po dd lt pl f1s s2s tms))) H := hP
    have hDs : va_D A ([] ++ ([] ++ (DW cI cC cQ d0 n0 na s0 sa h1 h2 mm ma t0 p0 pa tk N S oo zz M0 M1 M2 M3 rs de pc pg sg ln po dd lt pl f1s s2s tms))) := hD
    refine k_behi (X := []) (Y := (DW cI cC cQ d0 n0 na s0 sa h1 h2 mm ma t0 p0 pa tk N S oo zz M0 M1 M2 M3 rs de pc pg sg ln po dd lt pl f1s s2s tms)) (va_runS (As := [.int x2]) (rest := []) ⟨hx, hb, hml, hown, hts⟩ (c_X4_isDots l D cI cC cQ H.size x2) (kcwS hts wd_ml_RX4_48 wd_st_yX4_isDots wd_ini_RX4 wd_code_yX4_isDots rfl rfl hd_X4_isDots ⟨Nat.le_of_ble_eq_true rfl, Nat.le_of_ble_eq_true rfl⟩) ⟨in_blind, k_pre hK (pa_l (pa_r hPs)) (da_l (da_r hDs)) hN⟩ rfl rfl hl.1 rfl (lv_room (Nat.le_of_ble_eq_true rfl)) dX4_lasts_8 ⟨Nat.le_of_ble_eq_true rfl, Nat.le_of_ble_eq_true rfl⟩) hPs hDs hS hA (fun r5 u6 H locs hw7 hP hD hS => ?_)
    have hP : va_P D vwCl (DW cI cC cQ d0 n0 na s0 sa h1 h2 mm ma t0 p0 pa tk N S oo zz M0 M1 M2 M3 rs de pc pg sg ln po dd lt pl f1s s2s tms) H := hP
    have hD : va_D A (DW cI cC cQ d0 n0 na s0 sa h1 h2 mm ma t0 p0 pa tk N S oo zz M0 M1 M2 M3 rs de pc pg sg ln po dd lt pl f1s s2s tms) := hD
    have hw7 : r5 = (sh_X4_isDots x2) := hw7
    subst hw7
    refine lv_if_ne (tgt := 16) hx hb dX4_lasts_11 (by decide) (fun c8 => ?_) (fun c8 => ?_)
    · have hq := it_neg hq c8
      refine lv_aload_n hx hb dX4_lasts_16 rfl (lv_at hl 0 rfl) ?_
      refine va_get (D := D) (ci := 4) (v := .ref n0) (C := RX4) (T := TX4) (N := 6) hx hb hts inA4 hown hK hP 0 rfl rfl 0 (by decide) (hts _ wd_fl_RX4_10) (fun _ h9 => h9) rfl dX4_lasts_17 ?_
      refine lv_iload_n hx hb dX4_lasts_20 rfl (lv_at hl 1 rfl) ?_
      refine lv_iload_n hx hb dX4_lasts_21 rfl (lv_at hl 2 rfl) ?_
      refine lv_aload_n hx hb dX4_lasts_22 rfl (lv_at hl 0 rfl) ?_
      refine va_get (D := D) (ci := 4) (v := .ref n0) (C := RX4) (T := TX4) (N := 6) hx hb hts inA4 hown hK hP 0 rfl rfl 0 (by decide) (hts _ wd_fl_RX4_10) (fun _ h9 => h9) rfl dX4_lasts_23 ?_
      refine va_get (D := D) (ci := 1) (v := .ref (na 0)) (C := RX1) (T := TX1) (N := 14) hx hb hts inA1 hown hK hP 21 rfl rfl 0 (by decide) (hts _ wd_fl_RX4_92) (fun _ h9 => h9) rfl dX4_lasts_26 ?_
      refine lv_iconst (v := 0) hx hb dX4_lasts_29 (by decide) ?_
      refine va_iald hx hb hK hP 22 0 rfl rfl (k_in (by decide)) dX4_lasts_30 ?_
      have hPs : va_P D vwCl (((OB d0 n0 s0 h1 p0 t0 tk) ++ ((SW t0 rs de pc pg) ++ ((PW cI cC p0 pa sg ln po dd lt pl f1s s2s tms) ++ (MT cI s0 sa S)))) ++ ((MW cI n0 na N.1 N.2.1 N.2.2.1 N.2.2.2.1 N.2.2.2.2.1 N.2.2.2.2.2.1 N.2.2.2.2.2.2.1 N.2.2.2.2.2.2.2.1 N.2.2.2.2.2.2.2.2.1 N.2.2.2.2.2.2.2.2.2.1 N.2.2.2.2.2.2.2.2.2.2.1 N.2.2.2.2.2.2.2.2.2.2.2.1 N.2.2.2.2.2.2.2.2.2.2.2.2.1 N.2.2.2.2.2.2.2.2.2.2.2.2.2) ++ ((HO cQ h1 h2 mm oo zz) ++ ((MT cI (mm 0) (ma 0) M0) ++ ((MT cI (mm 1) (ma 1) M1) ++ ((MT cI (mm 2) (ma 2) M2) ++ (MT cI (mm 3) (ma 3) M3))))))) H := hP
      have hDs : va_D A (((OB d0 n0 s0 h1 p0 t0 tk) ++ ((SW t0 rs de pc pg) ++ ((PW cI cC p0 pa sg ln po dd lt pl f1s s2s tms) ++ (MT cI s0 sa S)))) ++ ((MW cI n0 na N.1 N.2.1 N.2.2.1 N.2.2.2.1 N.2.2.2.2.1 N.2.2.2.2.2.1 N.2.2.2.2.2.2.1 N.2.2.2.2.2.2.2.1 N.2.2.2.2.2.2.2.2.1 N.2.2.2.2.2.2.2.2.2.1 N.2.2.2.2.2.2.2.2.2.2.1 N.2.2.2.2.2.2.2.2.2.2.2.1 N.2.2.2.2.2.2.2.2.2.2.2.2.1 N.2.2.2.2.2.2.2.2.2.2.2.2.2) ++ ((HO cQ h1 h2 mm oo zz) ++ ((MT cI (mm 0) (ma 0) M0) ++ ((MT cI (mm 1) (ma 1) M1) ++ ((MT cI (mm 2) (ma 2) M2) ++ (MT cI (mm 3) (ma 3) M3))))))) := hD
      refine k_behi (X := ((OB d0 n0 s0 h1 p0 t0 tk) ++ ((SW t0 rs de pc pg) ++ ((PW cI cC p0 pa sg ln po dd lt pl f1s s2s tms) ++ (MT cI s0 sa S))))) (Y := ((HO cQ h1 h2 mm oo zz) ++ ((MT cI (mm 0) (ma 0) M0) ++ ((MT cI (mm 1) (ma 1) M1) ++ ((MT cI (mm 2) (ma 2) M2) ++ (MT cI (mm 3) (ma 3) M3)))))) (va_runV (As := [.int x1, .int x2, .int (N.1 (0 : Int32).toNatClampNeg)]) (rest := []) ⟨hx, hb, hml, hown, hts⟩ (c_X1_tonerFor l D cI cC cQ H.size n0 na N.1 N.2.1 N.2.2.1 N.2.2.2.1 N.2.2.2.2.1 N.2.2.2.2.2.1 N.2.2.2.2.2.2.1 N.2.2.2.2.2.2.2.1 N.2.2.2.2.2.2.2.2.1 N.2.2.2.2.2.2.2.2.2.1 N.2.2.2.2.2.2.2.2.2.2.1 N.2.2.2.2.2.2.2.2.2.2.2.1 N.2.2.2.2.2.2.2.2.2.2.2.2.1 N.2.2.2.2.2.2.2.2.2.2.2.2.2 x1 x2 (N.1 (0 : Int32).toNatClampNeg) ((isIn4 c4))) (kcwV hts wd_ml_RX4_172 wd_im_yX1_tonerFor wd_sel_yX1_tonerFor wd_ini_RX1 wd_code_yX1_tonerFor rfl rfl rfl hd_X1_tonerFor ⟨Nat.le_of_ble_eq_true rfl, Nat.le_of_ble_eq_true rfl⟩) ⟨in_blind, va_recv hK (pa_l (pa_r hPs)) (ci := 1) (q0 := 0) rfl rfl, k_pre hK (pa_l (pa_r hPs)) (da_l (da_r hDs)) hN⟩ rfl rfl hl.1 rfl (lv_room (Nat.le_of_ble_eq_true rfl)) dX4_lasts_31 ⟨Nat.le_of_ble_eq_true rfl, Nat.le_of_ble_eq_true rfl⟩) hPs hDs hS hA (fun r9 u10 H locs hw11 hP hD hS => ?_)
      have hP : va_P D vwCl (DW cI cC cQ d0 n0 na s0 sa h1 h2 mm ma t0 p0 pa tk N S oo zz M0 M1 M2 M3 rs de pc pg sg ln po dd lt pl f1s s2s tms) H := hP
      have hD : va_D A (DW cI cC cQ d0 n0 na s0 sa h1 h2 mm ma t0 p0 pa tk N S oo zz M0 M1 M2 M3 rs de pc pg sg ln po dd lt pl f1s s2s tms) := hD
      have hw11 : r9 = (sh_X1_tonerFor N.2.1 x1 x2 (N.1 (0 : Int32).toNatClampNeg)) := hw11
      subst hw11
      refine lv_istore (lv' := [(4, .int (sh_X1_tonerFor N.2.1 x1 x2 (N.1 (0 : Int32).toNatClampNeg))), (0, .ref d0), (1, .int x1), (2, .int x2), (3, .int x3)]) hx hb dX4_lasts_34 hl (by decide) rfl (fun ls hl => ?_)
      refine lv_aload_n hx hb dX4_lasts_36 rfl (lv_at hl 1 rfl) ?_
      refine va_get (D := D) (ci := 4) (v := .ref n0) (C := RX4) (T := TX4) (N := 6) hx hb hts inA4 hown hK hP 0 rfl rfl 0 (by decide) (hts _ wd_fl_RX4_10) (fun _ h9 => h9) rfl dX4_lasts_37 ?_
      refine lv_iload_n hx hb dX4_lasts_40 rfl (lv_at hl 2 rfl) ?_
      refine lv_iload hx hb dX4_lasts_41 (lv_at hl 0 rfl) ?_
      refine lv_iload_n hx hb dX4_lasts_43 rfl (lv_at hl 4 rfl) ?_
      refine lv_sipush (v := 999) hx hb dX4_lasts_44 (by decide) ?_
      have hPs : va_P D vwCl (((OB d0 n0 s0 h1 p0 t0 tk) ++ ((SW t0 rs de pc pg) ++ ((PW cI cC p0 pa sg ln po dd lt pl f1s s2s tms) ++ (MT cI s0 sa S)))) ++ ((MW cI n0 na N.1 N.2.1 N.2.2.1 N.2.2.2.1 N.2.2.2.2.1 N.2.2.2.2.2.1 N.2.2.2.2.2.2.1 N.2.2.2.2.2.2.2.1 N.2.2.2.2.2.2.2.2.1 N.2.2.2.2.2.2.2.2.2.1 N.2.2.2.2.2.2.2.2.2.2.1 N.2.2.2.2.2.2.2.2.2.2.2.1 N.2.2.2.2.2.2.2.2.2.2.2.2.1 N.2.2.2.2.2.2.2.2.2.2.2.2.2) ++ ((HO cQ h1 h2 mm oo zz) ++ ((MT cI (mm 0) (ma 0) M0) ++ ((MT cI (mm 1) (ma 1) M1) ++ ((MT cI (mm 2) (ma 2) M2) ++ (MT cI (mm 3) (ma 3) M3))))))) H := hP
      have hDs : va_D A (((OB d0 n0 s0 h1 p0 t0 tk) ++ ((SW t0 rs de pc pg) ++ ((PW cI cC p0 pa sg ln po dd lt pl f1s s2s tms) ++ (MT cI s0 sa S)))) ++ ((MW cI n0 na N.1 N.2.1 N.2.2.1 N.2.2.2.1 N.2.2.2.2.1 N.2.2.2.2.2.1 N.2.2.2.2.2.2.1 N.2.2.2.2.2.2.2.1 N.2.2.2.2.2.2.2.2.1 N.2.2.2.2.2.2.2.2.2.1 N.2.2.2.2.2.2.2.2.2.2.1 N.2.2.2.2.2.2.2.2.2.2.2.1 N.2.2.2.2.2.2.2.2.2.2.2.2.1 N.2.2.2.2.2.2.2.2.2.2.2.2.2) ++ ((HO cQ h1 h2 mm oo zz) ++ ((MT cI (mm 0) (ma 0) M0) ++ ((MT cI (mm 1) (ma 1) M1) ++ ((MT cI (mm 2) (ma 2) M2) ++ (MT cI (mm 3) (ma 3) M3))))))) := hD
      refine k_behi (X := ((OB d0 n0 s0 h1 p0 t0 tk) ++ ((SW t0 rs de pc pg) ++ ((PW cI cC p0 pa sg ln po dd lt pl f1s s2s tms) ++ (MT cI s0 sa S))))) (Y := ((HO cQ h1 h2 mm oo zz) ++ ((MT cI (mm 0) (ma 0) M0) ++ ((MT cI (mm 1) (ma 1) M1) ++ ((MT cI (mm 2) (ma 2) M2) ++ (MT cI (mm 3) (ma 3) M3)))))) (va_runV (As := [.int x1, .int (sh_X1_tonerFor N.2.1 x1 x2 (N.1 (0 : Int32).toNatClampNeg)), .int x3, .int 999]) (rest := []) ⟨hx, hb, hml, hown, hts⟩ (c_X1_pagesLasting l D cI cC cQ H.size n0 na N.1 N.2.1 N.2.2.1 N.2.2.2.1 N.2.2.2.2.1 N.2.2.2.2.2.1 N.2.2.2.2.2.2.1 N.2.2.2.2.2.2.2.1 N.2.2.2.2.2.2.2.2.1 N.2.2.2.2.2.2.2.2.2.1 N.2.2.2.2.2.2.2.2.2.2.1 N.2.2.2.2.2.2.2.2.2.2.2.1 N.2.2.2.2.2.2.2.2.2.2.2.2.1 N.2.2.2.2.2.2.2.2.2.2.2.2.2 x1 (sh_X1_tonerFor N.2.1 x1 x2 (N.1 (0 : Int32).toNatClampNeg)) x3 999 ((isIn4 c4))) (kcwV hts wd_ml_RX4_212 wd_im_yX1_pagesLasting wd_sel_yX1_pagesLasting wd_ini_RX1 wd_code_yX1_pagesLasting rfl rfl rfl hd_X1_pagesLasting ⟨Nat.le_of_ble_eq_true rfl, Nat.le_of_ble_eq_true rfl⟩) ⟨in_blind, va_recv hK (pa_l (pa_r hPs)) (ci := 1) (q0 := 0) rfl rfl, k_pre hK (pa_l (pa_r hPs)) (da_l (da_r hDs)) hN⟩ rfl rfl hl.1 rfl (lv_room (Nat.le_of_ble_eq_true rfl)) dX4_lasts_47 ⟨Nat.le_of_ble_eq_true rfl, Nat.le_of_ble_eq_true rfl⟩) hPs hDs hS hA (fun r12 u13 H locs hw14 hP hD hS => ?_)
      have hP : va_P D vwCl (DW cI cC cQ d0 n0 na s0 sa h1 h2 mm ma t0 p0 pa tk N S oo zz M0 M1 M2 M3 rs de pc pg sg ln po dd lt pl f1s s2s tms) H := hP
      have hD : va_D A (DW cI cC cQ d0 n0 na s0 sa h1 h2 mm ma t0 p0 pa tk N S oo zz M0 M1 M2 M3 rs de pc pg sg ln po dd lt pl f1s s2s tms) := hD
      have hw14 : r12 = (sh_X1_pagesLasting N.1 N.2.2.1 N.2.2.2.1 x1 (sh_X1_tonerFor N.2.1 x1 x2 (N.1 (0 : Int32).toNatClampNeg)) x3 999) := hw14
      subst hw14
      exact hret _ _ _ _ ((sh_X1_pagesLasting N.1 N.2.2.1 N.2.2.2.1 x1 (sh_X1_tonerFor N.2.1 x1 x2 (N.1 (0 : Int32).toNatClampNeg)) x3 999)) () dX4_lasts_50 rfl (hq.symm.trans hX) hP hD hS
    · have hq := it_pos hq c8
      refine lv_iconst (v := (-1)) hx hb dX4_lasts_14 (by decide) ?_
      exact hret _ _ _ _ ((-1)) () dX4_lasts_15 rfl (hq.symm.trans hX) hP hD hS
def sh_X4_atHand (N : TMa) (x1 : Int32) (x2 : Int32) (x3 : Int32) (x4 : Int32) : Int32 := (if (sh_X4_isCup x1) = 0 then (-1 : Int32) else (if (sh_X4_isDots x2) = 0 then (-1 : Int32) else (if x3 < 0 then (-1 : Int32) else (if 50 < x3 then (-1 : Int32) else (if x4 < 0 then (-1 : Int32) else (if x4 ≤ 1 then (if x3 ≤ (sh_X1_pagesLasting N.1 N.2.2.1 N.2.2.2.1 x1 (sh_X1_tonerFor N.2.1 x1 x2 (N.1 (0 : Int32).toNatClampNeg)) 0 x3) then (if x4 = 0 then (sh_X1_handPageByPage N.1 N.2.2.1 x1 (sh_X1_tonerFor N.2.1 x1 x2 (N.1 (0 : Int32).toNatClampNeg)) x3) else (sh_X1_handAddedUp N.1 N.2.2.1 x1 (sh_X1_tonerFor N.2.1 x1 x2 (N.1 (0 : Int32).toNatClampNeg)) x3)) else (-4 : Int32)) else (-1 : Int32)))))))
abbrev rm_X4_atHand : Room := { frames := 2, cells := 0, slots := 0, locals := 49 }
theorem hd_X4_atHand : hdT yX4_atHand 4 := by decide +kernel
set_option maxHeartbeats 40000000 in
set_option maxRecDepth 100000 in
theorem c_X4_atHand (l : Launch) (D : va_G) (cI cC cQ : ClassId) (sz : Nat) (d0 : Nat) (n0 : Nat) (na : Nat → Nat) (s0 : Nat) (sa : Nat → Nat) (h1 : Nat) (h2 : Nat) (mm : Nat → Nat) (ma : Nat → Nat → Nat) (t0 : Nat) (p0 : Nat) (pa : Nat → Nat) (tk : Int32) (N : TMa) (S : TMa) (oo : Int32) (zz : Int32) (M0 : TMa) (M1 : TMa) (M2 : TMa) (M3 : TMa) (rs : Int32) (de : Int32) (pc : Int32) (pg : Int32) (sg : Nat → Int32) (ln : Int32) (po : Int32) (dd : Int32) (lt : Nat → Int32) (pl : Nat → Int32) (f1s : Nat → Int32) (s2s : Nat → Int32) (tms : Nat → Int32) (x1 : Int32) (x2 : Int32) (x3 : Int32) (x4 : Int32)  : Met l yX4_atHand (wsO yX4_atHand cX4_atHand 6 (some .int)) rm_X4_atHand (va_Pc [.ref d0, .int x1, .int x2, .int x3, .int x4] (inW D (TYS cI cC cQ) (DW cI cC cQ d0 n0 na s0 sa h1 h2 mm ma t0 p0 pa tk N S oo zz M0 M1 M2 M3 rs de pc pg sg ln po dd lt pl f1s s2s tms) sz)) (va_Qi (fun (r : Int32) (_ : Unit) => r = sh_X4_atHand N x1 x2 x3 x4) (fun (u : Unit) => atW D (TYS cI cC cQ) (va_A (DW cI cC cQ d0 n0 na s0 sa h1 h2 mm ma t0 p0 pa tk N S oo zz M0 M1 M2 M3 rs de pc pg sg ln po dd lt pl f1s s2s tms) sz) (DW cI cC cQ d0 n0 na s0 sa h1 h2 mm ma t0 p0 pa tk N S oo zz M0 M1 M2 M3 rs de pc pg sg ln po dd lt pl f1s s2s tms)) (va_A (DW cI cC cQ d0 n0 na s0 sa h1 h2 mm ma t0 p0 pa tk N S oo zz M0 M1 M2 M3 rs de pc pg sg ln po dd lt pl f1s s2s tms) sz)) 0 0 (va_A (DW cI cC cQ d0 n0 na s0 sa h1 h2 mm ma t0 p0 pa tk N S oo zz M0 M1 M2 M3 rs de pc pg sg ln po dd lt pl f1s s2s tms) sz) := by
  refine k_meti .int rfl (by decide) (Nat.le_of_ble_eq_true rfl) ?_
  intro p e s m args below meth c A ls Q H locs hargs hret hx hb hts hown hml hname hN hA hS hP hK hD hl
  have hl : lv_has ls 6 [(0, .ref d0), (1, .int x1), (2, .int x2), (3, .int x3), (4, .int x4)] := hl
  obtain ⟨Xq, hX⟩ : ∃ Xq, Xq = sh_X4_atHand N x1 x2 x3 x4 := ⟨_, rfl⟩
  have hq : Xq = (if (sh_X4_isCup x1) = 0 then (-1 : Int32) else (if (sh_X4_isDots x2) = 0 then (-1 : Int32) else (if x3 < 0 then (-1 : Int32) else (if 50 < x3 then (-1 : Int32) else (if x4 < 0 then (-1 : Int32) else (if x4 ≤ 1 then (if x3 ≤ (sh_X1_pagesLasting N.1 N.2.2.1 N.2.2.2.1 x1 (sh_X1_tonerFor N.2.1 x1 x2 (N.1 (0 : Int32).toNatClampNeg)) 0 x3) then (if x4 = 0 then (sh_X1_handPageByPage N.1 N.2.2.1 x1 (sh_X1_tonerFor N.2.1 x1 x2 (N.1 (0 : Int32).toNatClampNeg)) x3) else (sh_X1_handAddedUp N.1 N.2.2.1 x1 (sh_X1_tonerFor N.2.1 x1 x2 (N.1 (0 : Int32).toNatClampNeg)) x3)) else (-4 : Int32)) else (-1 : Int32))))))) := hX
  refine lv_iload_n hx hb dX4_atHand_0 rfl (lv_at hl 1 rfl) ?_
  have hPs : va_P D vwCl ([] ++ ([] ++ (DW cI cC cQ d0 n0 na s0 sa h1 h2 mm ma t0 p0 pa tk N S oo zz M0 M1 M2 M3 rs de pc pg sg ln po dd lt pl f1s s2s tms))) H := hP
  have hDs : va_D A ([] ++ ([] ++ (DW cI cC cQ d0 n0 na s0 sa h1 h2 mm ma t0 p0 pa tk N S oo zz M0 M1 M2 M3 rs de pc pg sg ln po dd lt pl f1s s2s tms))) := hD
  refine k_behi (X := []) (Y := (DW cI cC cQ d0 n0 na s0 sa h1 h2 mm ma t0 p0 pa tk N S oo zz M0 M1 M2 M3 rs de pc pg sg ln po dd lt pl f1s s2s tms)) (va_runS (As := [.int x1]) (rest := []) ⟨hx, hb, hml, hown, hts⟩ (c_X4_isCup l D cI cC cQ H.size x1) (kcwS hts wd_ml_RX4_59 wd_st_yX4_isCup wd_ini_RX4 wd_code_yX4_isCup rfl rfl hd_X4_isCup ⟨Nat.le_of_ble_eq_true rfl, Nat.le_of_ble_eq_true rfl⟩) ⟨in_blind, k_pre hK (pa_l (pa_r hPs)) (da_l (da_r hDs)) hN⟩ rfl rfl hl.1 rfl (lv_room (Nat.le_of_ble_eq_true rfl)) dX4_atHand_1 ⟨Nat.le_of_ble_eq_true rfl, Nat.le_of_ble_eq_true rfl⟩) hPs hDs hS hA (fun r1 u2 H locs hw3 hP hD hS => ?_)
  have hP : va_P D vwCl (DW cI cC cQ d0 n0 na s0 sa h1 h2 mm ma t0 p0 pa tk N S oo zz M0 M1 M2 M3 rs de pc pg sg ln po dd lt pl f1s s2s tms) H := hP
  have hD : va_D A (DW cI cC cQ d0 n0 na s0 sa h1 h2 mm ma t0 p0 pa tk N S oo zz M0 M1 M2 M3 rs de pc pg sg ln po dd lt pl f1s s2s tms) := hD
  have hw3 : r1 = (sh_X4_isCup x1) := hw3
  subst hw3
  refine lv_if_eq (tgt := 35) hx hb dX4_atHand_4 (by decide) (fun c4 => ?_) (fun c4 => ?_)
  · have hq := it_pos hq c4
    refine lv_iconst (v := (-1)) hx hb dX4_atHand_35 (by decide) ?_
    exact hret _ _ _ _ ((-1)) () dX4_atHand_36 rfl (hq.symm.trans hX) hP hD hS
  · have hq := it_neg hq c4
    refine lv_iload_n hx hb dX4_atHand_7 rfl (lv_at hl 2 rfl) ?_
    have hPs : va_P D vwCl ([] ++ ([] ++ (DW cI cC cQ d0 n0 na s0 sa h1 h2 mm ma t0 p0 pa tk N S oo zz M0 M1 M2 M3 rs de pc pg sg ln po dd lt pl f1s s2s tms))) H := hP
    have hDs : va_D A ([] ++ ([] ++ (DW cI cC cQ d0 n0 na s0 sa h1 h2 mm ma t0 p0 pa tk N S oo zz M0 M1 M2 M3 rs de pc pg sg ln po dd lt pl f1s s2s tms))) := hD
    refine k_behi (X := []) (Y := (DW cI cC cQ d0 n0 na s0 sa h1 h2 mm ma t0 p0 pa tk N S oo zz M0 M1 M2 M3 rs de pc pg sg ln po dd lt pl f1s s2s tms)) (va_runS (As := [.int x2]) (rest := []) ⟨hx, hb, hml, hown, hts⟩ (c_X4_isDots l D cI cC cQ H.size x2) (kcwS hts wd_ml_RX4_48 wd_st_yX4_isDots wd_ini_RX4 wd_code_yX4_isDots rfl rfl hd_X4_isDots ⟨Nat.le_of_ble_eq_true rfl, Nat.le_of_ble_eq_true rfl⟩) ⟨in_blind, k_pre hK (pa_l (pa_r hPs)) (da_l (da_r hDs)) hN⟩ rfl rfl hl.1 rfl (lv_room (Nat.le_of_ble_eq_true rfl)) dX4_atHand_8 ⟨Nat.le_of_ble_eq_true rfl, Nat.le_of_ble_eq_true rfl⟩) hPs hDs hS hA (fun r5 u6 H locs hw7 hP hD hS => ?_)
    have hP : va_P D vwCl (DW cI cC cQ d0 n0 na s0 sa h1 h2 mm ma t0 p0 pa tk N S oo zz M0 M1 M2 M3 rs de pc pg sg ln po dd lt pl f1s s2s tms) H := hP
    have hD : va_D A (DW cI cC cQ d0 n0 na s0 sa h1 h2 mm ma t0 p0 pa tk N S oo zz M0 M1 M2 M3 rs de pc pg sg ln po dd lt pl f1s s2s tms) := hD
    have hw7 : r5 = (sh_X4_isDots x2) := hw7
    subst hw7
    refine lv_if_eq (tgt := 35) hx hb dX4_atHand_11 (by decide) (fun c8 => ?_) (fun c8 => ?_)
    · have hq := it_pos hq c8
      refine lv_iconst (v := (-1)) hx hb dX4_atHand_35 (by decide) ?_
      exact hret _ _ _ _ ((-1)) () dX4_atHand_36 rfl (hq.symm.trans hX) hP hD hS
    · have hq := it_neg hq c8
      refine lv_iload_n hx hb dX4_atHand_14 rfl (lv_at hl 3 rfl) ?_
      refine lv_if_lt (tgt := 35) hx hb dX4_atHand_15 (by decide) (fun c9 => ?_) (fun c9 => ?_)
      · have hq := it_pos hq c9
        refine lv_iconst (v := (-1)) hx hb dX4_atHand_35 (by decide) ?_
        exact hret _ _ _ _ ((-1)) () dX4_atHand_36 rfl (hq.symm.trans hX) hP hD hS
      · have hq := it_neg hq c9
        refine lv_iload_n hx hb dX4_atHand_18 rfl (lv_at hl 3 rfl) ?_
        refine lv_bipush (v := 50) hx hb dX4_atHand_19 (by decide) ?_
        refine lv_icmp_gt (tgt := 35) hx hb dX4_atHand_21 (by decide) (fun c10 => ?_) (fun c10 => ?_)
        · have hq := it_pos hq c10
          refine lv_iconst (v := (-1)) hx hb dX4_atHand_35 (by decide) ?_
          exact hret _ _ _ _ ((-1)) () dX4_atHand_36 rfl (hq.symm.trans hX) hP hD hS
        · have hq := it_neg hq c10
          refine lv_iload hx hb dX4_atHand_24 (lv_at hl 4 rfl) ?_
          refine lv_if_lt (tgt := 35) hx hb dX4_atHand_26 (by decide) (fun c11 => ?_) (fun c11 => ?_)
          · have hq := it_pos hq c11
            refine lv_iconst (v := (-1)) hx hb dX4_atHand_35 (by decide) ?_
            exact hret _ _ _ _ ((-1)) () dX4_atHand_36 rfl (hq.symm.trans hX) hP hD hS
          · have hq := it_neg hq c11
            refine lv_iload hx hb dX4_atHand_29 (lv_at hl 4 rfl) ?_
            refine lv_iconst (v := 1) hx hb dX4_atHand_31 (by decide) ?_
            refine lv_icmp_le (tgt := 37) hx hb dX4_atHand_32 (by decide) (fun c12 => ?_) (fun c12 => ?_)
            · have hq := it_pos hq c12
              refine lv_aload_n hx hb dX4_atHand_37 rfl (lv_at hl 0 rfl) ?_
              refine va_get (D := D) (ci := 4) (v := .ref n0) (C := RX4) (T := TX4) (N := 6) hx hb hts inA4 hown hK hP 0 rfl rfl 0 (by decide) (hts _ wd_fl_RX4_10) (fun _ h9 => h9) rfl dX4_atHand_38 ?_
              refine lv_iload_n hx hb dX4_atHand_41 rfl (lv_at hl 1 rfl) ?_
              refine lv_iload_n hx hb dX4_atHand_42 rfl (lv_at hl 2 rfl) ?_
              refine lv_aload_n hx hb dX4_atHand_43 rfl (lv_at hl 0 rfl) ?_
              refine va_get (D := D) (ci := 4) (v := .ref n0) (C := RX4) (T := TX4) (N := 6) hx hb hts inA4 hown hK hP 0 rfl rfl 0 (by decide) (hts _ wd_fl_RX4_10) (fun _ h9 => h9) rfl dX4_atHand_44 ?_
              refine va_get (D := D) (ci := 1) (v := .ref (na 0)) (C := RX1) (T := TX1) (N := 14) hx hb hts inA1 hown hK hP 21 rfl rfl 0 (by decide) (hts _ wd_fl_RX4_92) (fun _ h9 => h9) rfl dX4_atHand_47 ?_
              refine lv_iconst (v := 0) hx hb dX4_atHand_50 (by decide) ?_
              refine va_iald hx hb hK hP 22 0 rfl rfl (k_in (by decide)) dX4_atHand_51 ?_
              have hPs : va_P D vwCl (((OB d0 n0 s0 h1 p0 t0 tk) ++ ((SW t0 rs de pc pg) ++ ((PW cI cC p0 pa sg ln po dd lt pl f1s s2s tms) ++ (MT cI s0 sa S)))) ++ ((MW cI n0 na N.1 N.2.1 N.2.2.1 N.2.2.2.1 N.2.2.2.2.1 N.2.2.2.2.2.1 N.2.2.2.2.2.2.1 N.2.2.2.2.2.2.2.1 N.2.2.2.2.2.2.2.2.1 N.2.2.2.2.2.2.2.2.2.1 N.2.2.2.2.2.2.2.2.2.2.1 N.2.2.2.2.2.2.2.2.2.2.2.1 N.2.2.2.2.2.2.2.2.2.2.2.2.1 N.2.2.2.2.2.2.2.2.2.2.2.2.2) ++ ((HO cQ h1 h2 mm oo zz) ++ ((MT cI (mm 0) (ma 0) M0) ++ ((MT cI (mm 1) (ma 1) M1) ++ ((MT cI (mm 2) (ma 2) M2) ++ (MT cI (mm 3) (ma 3) M3))))))) H := hP
              have hDs : va_D A (((OB d0 n0 s0 h1 p0 t0 tk) ++ ((SW t0 rs de pc pg) ++ ((PW cI cC p0 pa sg ln po dd lt pl f1s s2s tms) ++ (MT cI s0 sa S)))) ++ ((MW cI n0 na N.1 N.2.1 N.2.2.1 N.2.2.2.1 N.2.2.2.2.1 N.2.2.2.2.2.1 N.2.2.2.2.2.2.1 N.2.2.2.2.2.2.2.1 N.2.2.2.2.2.2.2.2.1 N.2.2.2.2.2.2.2.2.2.1 N.2.2.2.2.2.2.2.2.2.2.1 N.2.2.2.2.2.2.2.2.2.2.2.1 N.2.2.2.2.2.2.2.2.2.2.2.2.1 N.2.2.2.2.2.2.2.2.2.2.2.2.2) ++ ((HO cQ h1 h2 mm oo zz) ++ ((MT cI (mm 0) (ma 0) M0) ++ ((MT cI (mm 1) (ma 1) M1) ++ ((MT cI (mm 2) (ma 2) M2) ++ (MT cI (mm 3) (ma 3) M3))))))) := hD
              refine k_behi (X := ((OB d0 n0 s0 h1 p0 t0 tk) ++ ((SW t0 rs de pc pg) ++ ((PW cI cC p0 pa sg ln po dd lt pl f1s s2s tms) ++ (MT cI s0 sa S))))) (Y := ((HO cQ h1 h2 mm oo zz) ++ ((MT cI (mm 0) (ma 0) M0) ++ ((MT cI (mm 1) (ma 1) M1) ++ ((MT cI (mm 2) (ma 2) M2) ++ (MT cI (mm 3) (ma 3) M3)))))) (va_runV (As := [.int x1, .int x2, .int (N.1 (0 : Int32).toNatClampNeg)]) (rest := []) ⟨hx, hb, hml, hown, hts⟩ (c_X1_tonerFor l D cI cC cQ H.size n0 na N.1 N.2.1 N.2.2.1 N.2.2.2.1 N.2.2.2.2.1 N.2.2.2.2.2.1 N.2.2.2.2.2.2.1 N.2.2.2.2.2.2.2.1 N.2.2.2.2.2.2.2.2.1 N.2.2.2.2.2.2.2.2.2.1 N.2.2.2.2.2.2.2.2.2.2.1 N.2.2.2.2.2.2.2.2.2.2.2.1 N.2.2.2.2.2.2.2.2.2.2.2.2.1 N.2.2.2.2.2.2.2.2.2.2.2.2.2 x1 x2 (N.1 (0 : Int32).toNatClampNeg) ((isIn4 c4))) (kcwV hts wd_ml_RX4_172 wd_im_yX1_tonerFor wd_sel_yX1_tonerFor wd_ini_RX1 wd_code_yX1_tonerFor rfl rfl rfl hd_X1_tonerFor ⟨Nat.le_of_ble_eq_true rfl, Nat.le_of_ble_eq_true rfl⟩) ⟨in_blind, va_recv hK (pa_l (pa_r hPs)) (ci := 1) (q0 := 0) rfl rfl, k_pre hK (pa_l (pa_r hPs)) (da_l (da_r hDs)) hN⟩ rfl rfl hl.1 rfl (lv_room (Nat.le_of_ble_eq_true rfl)) dX4_atHand_52 ⟨Nat.le_of_ble_eq_true rfl, Nat.le_of_ble_eq_true rfl⟩) hPs hDs hS hA (fun r13 u14 H locs hw15 hP hD hS => ?_)
              have hP : va_P D vwCl (DW cI cC cQ d0 n0 na s0 sa h1 h2 mm ma t0 p0 pa tk N S oo zz M0 M1 M2 M3 rs de pc pg sg ln po dd lt pl f1s s2s tms) H := hP
              have hD : va_D A (DW cI cC cQ d0 n0 na s0 sa h1 h2 mm ma t0 p0 pa tk N S oo zz M0 M1 M2 M3 rs de pc pg sg ln po dd lt pl f1s s2s tms) := hD
              have hw15 : r13 = (sh_X1_tonerFor N.2.1 x1 x2 (N.1 (0 : Int32).toNatClampNeg)) := hw15
              subst hw15
              refine lv_istore (lv' := [(5, .int (sh_X1_tonerFor N.2.1 x1 x2 (N.1 (0 : Int32).toNatClampNeg))), (0, .ref d0), (1, .int x1), (2, .int x2), (3, .int x3), (4, .int x4)]) hx hb dX4_atHand_55 hl (by decide) rfl (fun ls hl => ?_)
              refine lv_aload_n hx hb dX4_atHand_57 rfl (lv_at hl 1 rfl) ?_
              refine va_get (D := D) (ci := 4) (v := .ref n0) (C := RX4) (T := TX4) (N := 6) hx hb hts inA4 hown hK hP 0 rfl rfl 0 (by decide) (hts _ wd_fl_RX4_10) (fun _ h9 => h9) rfl dX4_atHand_58 ?_
              refine lv_iload_n hx hb dX4_atHand_61 rfl (lv_at hl 2 rfl) ?_
              refine lv_iload hx hb dX4_atHand_62 (lv_at hl 0 rfl) ?_
              refine lv_iconst (v := 0) hx hb dX4_atHand_64 (by decide) ?_
              refine lv_iload_n hx hb dX4_atHand_65 rfl (lv_at hl 4 rfl) ?_
              have hPs : va_P D vwCl (((OB d0 n0 s0 h1 p0 t0 tk) ++ ((SW t0 rs de pc pg) ++ ((PW cI cC p0 pa sg ln po dd lt pl f1s s2s tms) ++ (MT cI s0 sa S)))) ++ ((MW cI n0 na N.1 N.2.1 N.2.2.1 N.2.2.2.1 N.2.2.2.2.1 N.2.2.2.2.2.1 N.2.2.2.2.2.2.1 N.2.2.2.2.2.2.2.1 N.2.2.2.2.2.2.2.2.1 N.2.2.2.2.2.2.2.2.2.1 N.2.2.2.2.2.2.2.2.2.2.1 N.2.2.2.2.2.2.2.2.2.2.2.1 N.2.2.2.2.2.2.2.2.2.2.2.2.1 N.2.2.2.2.2.2.2.2.2.2.2.2.2) ++ ((HO cQ h1 h2 mm oo zz) ++ ((MT cI (mm 0) (ma 0) M0) ++ ((MT cI (mm 1) (ma 1) M1) ++ ((MT cI (mm 2) (ma 2) M2) ++ (MT cI (mm 3) (ma 3) M3))))))) H := hP
              have hDs : va_D A (((OB d0 n0 s0 h1 p0 t0 tk) ++ ((SW t0 rs de pc pg) ++ ((PW cI cC p0 pa sg ln po dd lt pl f1s s2s tms) ++ (MT cI s0 sa S)))) ++ ((MW cI n0 na N.1 N.2.1 N.2.2.1 N.2.2.2.1 N.2.2.2.2.1 N.2.2.2.2.2.1 N.2.2.2.2.2.2.1 N.2.2.2.2.2.2.2.1 N.2.2.2.2.2.2.2.2.1 N.2.2.2.2.2.2.2.2.2.1 N.2.2.2.2.2.2.2.2.2.2.1 N.2.2.2.2.2.2.2.2.2.2.2.1 N.2.2.2.2.2.2.2.2.2.2.2.2.1 N.2.2.2.2.2.2.2.2.2.2.2.2.2) ++ ((HO cQ h1 h2 mm oo zz) ++ ((MT cI (mm 0) (ma 0) M0) ++ ((MT cI (mm 1) (ma 1) M1) ++ ((MT cI (mm 2) (ma 2) M2) ++ (MT cI (mm 3) (ma 3) M3))))))) := hD
              refine k_behi (X := ((OB d0 n0 s0 h1 p0 t0 tk) ++ ((SW t0 rs de pc pg) ++ ((PW cI cC p0 pa sg ln po dd lt pl f1s s2s tms) ++ (MT cI s0 sa S))))) (Y := ((HO cQ h1 h2 mm oo zz) ++ ((MT cI (mm 0) (ma 0) M0) ++ ((MT cI (mm 1) (ma 1) M1) ++ ((MT cI (mm 2) (ma 2) M2) ++ (MT cI (mm 3) (ma 3) M3)))))) (va_runV (As := [.int x1, .int (sh_X1_tonerFor N.2.1 x1 x2 (N.1 (0 : Int32).toNatClampNeg)), .int 0, .int x3]) (rest := []) ⟨hx, hb, hml, hown, hts⟩ (c_X1_pagesLasting l D cI cC cQ H.size n0 na N.1 N.2.1 N.2.2.1 N.2.2.2.1 N.2.2.2.2.1 N.2.2.2.2.2.1 N.2.2.2.2.2.2.1 N.2.2.2.2.2.2.2.1 N.2.2.2.2.2.2.2.2.1 N.2.2.2.2.2.2.2.2.2.1 N.2.2.2.2.2.2.2.2.2.2.1 N.2.2.2.2.2.2.2.2.2.2.2.1 N.2.2.2.2.2.2.2.2.2.2.2.2.1 N.2.2.2.2.2.2.2.2.2.2.2.2.2 x1 (sh_X1_tonerFor N.2.1 x1 x2 (N.1 (0 : Int32).toNatClampNeg)) 0 x3 ((isIn4 c4))) (kcwV hts wd_ml_RX4_212 wd_im_yX1_pagesLasting wd_sel_yX1_pagesLasting wd_ini_RX1 wd_code_yX1_pagesLasting rfl rfl rfl hd_X1_pagesLasting ⟨Nat.le_of_ble_eq_true rfl, Nat.le_of_ble_eq_true rfl⟩) ⟨in_blind, va_recv hK (pa_l (pa_r hPs)) (ci := 1) (q0 := 0) rfl rfl, k_pre hK (pa_l (pa_r hPs)) (da_l (da_r hDs)) hN⟩ rfl rfl hl.1 rfl (lv_room (Nat.le_of_ble_eq_true rfl)) dX4_atHand_66 ⟨Nat.le_of_ble_eq_true rfl, Nat.le_of_ble_eq_true rfl⟩) hPs hDs hS hA (fun r16 u17 H locs hw18 hP hD hS => ?_)
              have hP : va_P D vwCl (DW cI cC cQ d0 n0 na s0 sa h1 h2 mm ma t0 p0 pa tk N S oo zz M0 M1 M2 M3 rs de pc pg sg ln po dd lt pl f1s s2s tms) H := hP
              have hD : va_D A (DW cI cC cQ d0 n0 na s0 sa h1 h2 mm ma t0 p0 pa tk N S oo zz M0 M1 M2 M3 rs de pc pg sg ln po dd lt pl f1s s2s tms) := hD
              have hw18 : r16 = (sh_X1_pagesLasting N.1 N.2.2.1 N.2.2.2.1 x1 (sh_X1_tonerFor N.2.1 x1 x2 (N.1 (0 : Int32).toNatClampNeg)) 0 x3) := hw18
              subst hw18
              refine lv_iload_n hx hb dX4_atHand_69 rfl (lv_at hl 4 rfl) ?_
              refine lv_icmp_ge (tgt := 76) hx hb dX4_atHand_70 (by decide) (fun c19 => ?_) (fun c19 => ?_)
              · have hq := it_pos hq c19
                refine lv_iload hx hb dX4_atHand_76 (lv_at hl 5 rfl) ?_
                refine lv_if_ne (tgt := 95) hx hb dX4_atHand_78 (by decide) (fun c20 => ?_) (fun c20 => ?_)
                · have hq := it_neg hq c20
                  refine lv_aload_n hx hb dX4_atHand_95 rfl (lv_at hl 1 rfl) ?_
                  refine va_get (D := D) (ci := 4) (v := .ref n0) (C := RX4) (T := TX4) (N := 6) hx hb hts inA4 hown hK hP 0 rfl rfl 0 (by decide) (hts _ wd_fl_RX4_10) (fun _ h9 => h9) rfl dX4_atHand_96 ?_
                  refine lv_iload_n hx hb dX4_atHand_99 rfl (lv_at hl 2 rfl) ?_
                  refine lv_iload hx hb dX4_atHand_100 (lv_at hl 0 rfl) ?_
                  refine lv_iload_n hx hb dX4_atHand_102 rfl (lv_at hl 4 rfl) ?_
                  have hPs : va_P D vwCl (((OB d0 n0 s0 h1 p0 t0 tk) ++ ((SW t0 rs de pc pg) ++ ((PW cI cC p0 pa sg ln po dd lt pl f1s s2s tms) ++ (MT cI s0 sa S)))) ++ ((MW cI n0 na N.1 N.2.1 N.2.2.1 N.2.2.2.1 N.2.2.2.2.1 N.2.2.2.2.2.1 N.2.2.2.2.2.2.1 N.2.2.2.2.2.2.2.1 N.2.2.2.2.2.2.2.2.1 N.2.2.2.2.2.2.2.2.2.1 N.2.2.2.2.2.2.2.2.2.2.1 N.2.2.2.2.2.2.2.2.2.2.2.1 N.2.2.2.2.2.2.2.2.2.2.2.2.1 N.2.2.2.2.2.2.2.2.2.2.2.2.2) ++ ((HO cQ h1 h2 mm oo zz) ++ ((MT cI (mm 0) (ma 0) M0) ++ ((MT cI (mm 1) (ma 1) M1) ++ ((MT cI (mm 2) (ma 2) M2) ++ (MT cI (mm 3) (ma 3) M3))))))) H := hP
                  have hDs : va_D A (((OB d0 n0 s0 h1 p0 t0 tk) ++ ((SW t0 rs de pc pg) ++ ((PW cI cC p0 pa sg ln po dd lt pl f1s s2s tms) ++ (MT cI s0 sa S)))) ++ ((MW cI n0 na N.1 N.2.1 N.2.2.1 N.2.2.2.1 N.2.2.2.2.1 N.2.2.2.2.2.1 N.2.2.2.2.2.2.1 N.2.2.2.2.2.2.2.1 N.2.2.2.2.2.2.2.2.1 N.2.2.2.2.2.2.2.2.2.1 N.2.2.2.2.2.2.2.2.2.2.1 N.2.2.2.2.2.2.2.2.2.2.2.1 N.2.2.2.2.2.2.2.2.2.2.2.2.1 N.2.2.2.2.2.2.2.2.2.2.2.2.2) ++ ((HO cQ h1 h2 mm oo zz) ++ ((MT cI (mm 0) (ma 0) M0) ++ ((MT cI (mm 1) (ma 1) M1) ++ ((MT cI (mm 2) (ma 2) M2) ++ (MT cI (mm 3) (ma 3) M3))))))) := hD
                  refine k_behi (X := ((OB d0 n0 s0 h1 p0 t0 tk) ++ ((SW t0 rs de pc pg) ++ ((PW cI cC p0 pa sg ln po dd lt pl f1s s2s tms) ++ (MT cI s0 sa S))))) (Y := ((HO cQ h1 h2 mm oo zz) ++ ((MT cI (mm 0) (ma 0) M0) ++ ((MT cI (mm 1) (ma 1) M1) ++ ((MT cI (mm 2) (ma 2) M2) ++ (MT cI (mm 3) (ma 3) M3)))))) (va_runV (As := [.int x1, .int (sh_X1_tonerFor N.2.1 x1 x2 (N.1 (0 : Int32).toNatClampNeg)), .int x3]) (rest := []) ⟨hx, hb, hml, hown, hts⟩ (c_X1_handAddedUp l D cI cC cQ H.size n0 na N.1 N.2.1 N.2.2.1 N.2.2.2.1 N.2.2.2.2.1 N.2.2.2.2.2.1 N.2.2.2.2.2.2.1 N.2.2.2.2.2.2.2.1 N.2.2.2.2.2.2.2.2.1 N.2.2.2.2.2.2.2.2.2.1 N.2.2.2.2.2.2.2.2.2.2.1 N.2.2.2.2.2.2.2.2.2.2.2.1 N.2.2.2.2.2.2.2.2.2.2.2.2.1 N.2.2.2.2.2.2.2.2.2.2.2.2.2 x1 (sh_X1_tonerFor N.2.1 x1 x2 (N.1 (0 : Int32).toNatClampNeg)) x3 ((isIn4 c4))) (kcwV hts wd_ml_RX4_219 wd_im_yX1_handAddedUp wd_sel_yX1_handAddedUp wd_ini_RX1 wd_code_yX1_handAddedUp rfl rfl rfl hd_X1_handAddedUp ⟨Nat.le_of_ble_eq_true rfl, Nat.le_of_ble_eq_true rfl⟩) ⟨in_blind, va_recv hK (pa_l (pa_r hPs)) (ci := 1) (q0 := 0) rfl rfl, k_pre hK (pa_l (pa_r hPs)) (da_l (da_r hDs)) hN⟩ rfl rfl hl.1 rfl (lv_room (Nat.le_of_ble_eq_true rfl)) dX4_atHand_103 ⟨Nat.le_of_ble_eq_true rfl, Nat.le_of_ble_eq_true rfl⟩) hPs hDs hS hA (fun r21 u22 H locs hw23 hP hD hS => ?_)
                  have hP : va_P D vwCl (DW cI cC cQ d0 n0 na s0 sa h1 h2 mm ma t0 p0 pa tk N S oo zz M0 M1 M2 M3 rs de pc pg sg ln po dd lt pl f1s s2s tms) H := hP
                  have hD : va_D A (DW cI cC cQ d0 n0 na s0 sa h1 h2 mm ma t0 p0 pa tk N S oo zz M0 M1 M2 M3 rs de pc pg sg ln po dd lt pl f1s s2s tms) := hD
                  have hw23 : r21 = (sh_X1_handAddedUp N.1 N.2.2.1 x1 (sh_X1_tonerFor N.2.1 x1 x2 (N.1 (0 : Int32).toNatClampNeg)) x3) := hw23
                  subst hw23
                  exact hret _ _ _ _ ((sh_X1_handAddedUp N.1 N.2.2.1 x1 (sh_X1_tonerFor N.2.1 x1 x2 (N.1 (0 : Int32).toNatClampNeg)) x3)) () dX4_atHand_106 rfl (hq.symm.trans hX) hP hD hS
                · have hq := it_pos hq c20
                  refine lv_aload_n hx hb dX4_atHand_81 rfl (lv_at hl 1 rfl) ?_
                  refine va_get (D := D) (ci := 4) (v := .ref n0) (C := RX4) (T := TX4) (N := 6) hx hb hts inA4 hown hK hP 0 rfl rfl 0 (by decide) (hts _ wd_fl_RX4_10) (fun _ h9 => h9) rfl dX4_atHand_82 ?_
                  refine lv_iload_n hx hb dX4_atHand_85 rfl (lv_at hl 2 rfl) ?_
                  refine lv_iload hx hb dX4_atHand_86 (lv_at hl 0 rfl) ?_
                  refine lv_iload_n hx hb dX4_atHand_88 rfl (lv_at hl 4 rfl) ?_
                  have hPs : va_P D vwCl (((OB d0 n0 s0 h1 p0 t0 tk) ++ ((SW t0 rs de pc pg) ++ ((PW cI cC p0 pa sg ln po dd lt pl f1s s2s tms) ++ (MT cI s0 sa S)))) ++ ((MW cI n0 na N.1 N.2.1 N.2.2.1 N.2.2.2.1 N.2.2.2.2.1 N.2.2.2.2.2.1 N.2.2.2.2.2.2.1 N.2.2.2.2.2.2.2.1 N.2.2.2.2.2.2.2.2.1 N.2.2.2.2.2.2.2.2.2.1 N.2.2.2.2.2.2.2.2.2.2.1 N.2.2.2.2.2.2.2.2.2.2.2.1 N.2.2.2.2.2.2.2.2.2.2.2.2.1 N.2.2.2.2.2.2.2.2.2.2.2.2.2) ++ ((HO cQ h1 h2 mm oo zz) ++ ((MT cI (mm 0) (ma 0) M0) ++ ((MT cI (mm 1) (ma 1) M1) ++ ((MT cI (mm 2) (ma 2) M2) ++ (MT cI (mm 3) (ma 3) M3))))))) H := hP
                  have hDs : va_D A (((OB d0 n0 s0 h1 p0 t0 tk) ++ ((SW t0 rs de pc pg) ++ ((PW cI cC p0 pa sg ln po dd lt pl f1s s2s tms) ++ (MT cI s0 sa S)))) ++ ((MW cI n0 na N.1 N.2.1 N.2.2.1 N.2.2.2.1 N.2.2.2.2.1 N.2.2.2.2.2.1 N.2.2.2.2.2.2.1 N.2.2.2.2.2.2.2.1 N.2.2.2.2.2.2.2.2.1 N.2.2.2.2.2.2.2.2.2.1 N.2.2.2.2.2.2.2.2.2.2.1 N.2.2.2.2.2.2.2.2.2.2.2.1 N.2.2.2.2.2.2.2.2.2.2.2.2.1 N.2.2.2.2.2.2.2.2.2.2.2.2.2) ++ ((HO cQ h1 h2 mm oo zz) ++ ((MT cI (mm 0) (ma 0) M0) ++ ((MT cI (mm 1) (ma 1) M1) ++ ((MT cI (mm 2) (ma 2) M2) ++ (MT cI (mm 3) (ma 3) M3))))))) := hD
                  refine k_behi (X := ((OB d0 n0 s0 h1 p0 t0 tk) ++ ((SW t0 rs de pc pg) ++ ((PW cI cC p0 pa sg ln po dd lt pl f1s s2s tms) ++ (MT cI s0 sa S))))) (Y := ((HO cQ h1 h2 mm oo zz) ++ ((MT cI (mm 0) (ma 0) M0) ++ ((MT cI (mm 1) (ma 1) M1) ++ ((MT cI (mm 2) (ma 2) M2) ++ (MT cI (mm 3) (ma 3) M3)))))) (va_runV (As := [.int x1, .int (sh_X1_tonerFor N.2.1 x1 x2 (N.1 (0 : Int32).toNatClampNeg)), .int x3]) (rest := []) ⟨hx, hb, hml, hown, hts⟩ (c_X1_handPageByPage l D cI cC cQ H.size n0 na N.1 N.2.1 N.2.2.1 N.2.2.2.1 N.2.2.2.2.1 N.2.2.2.2.2.1 N.2.2.2.2.2.2.1 N.2.2.2.2.2.2.2.1 N.2.2.2.2.2.2.2.2.1 N.2.2.2.2.2.2.2.2.2.1 N.2.2.2.2.2.2.2.2.2.2.1 N.2.2.2.2.2.2.2.2.2.2.2.1 N.2.2.2.2.2.2.2.2.2.2.2.2.1 N.2.2.2.2.2.2.2.2.2.2.2.2.2 x1 (sh_X1_tonerFor N.2.1 x1 x2 (N.1 (0 : Int32).toNatClampNeg)) x3 ((isIn4 c4))) (kcwV hts wd_ml_RX4_216 wd_im_yX1_handPageByPage wd_sel_yX1_handPageByPage wd_ini_RX1 wd_code_yX1_handPageByPage rfl rfl rfl hd_X1_handPageByPage ⟨Nat.le_of_ble_eq_true rfl, Nat.le_of_ble_eq_true rfl⟩) ⟨in_blind, va_recv hK (pa_l (pa_r hPs)) (ci := 1) (q0 := 0) rfl rfl, k_pre hK (pa_l (pa_r hPs)) (da_l (da_r hDs)) hN⟩ rfl rfl hl.1 rfl (lv_room (Nat.le_of_ble_eq_true rfl)) dX4_atHand_89 ⟨Nat.le_of_ble_eq_true rfl, Nat.le_of_ble_eq_true rfl⟩) hPs hDs hS hA (fun r24 u25 H locs hw26 hP hD hS => ?_)
                  have hP : va_P D vwCl (DW cI cC cQ d0 n0 na s0 sa h1 h2 mm ma t0 p0 pa tk N S oo zz M0 M1 M2 M3 rs de pc pg sg ln po dd lt pl f1s s2s tms) H := hP
                  have hD : va_D A (DW cI cC cQ d0 n0 na s0 sa h1 h2 mm ma t0 p0 pa tk N S oo zz M0 M1 M2 M3 rs de pc pg sg ln po dd lt pl f1s s2s tms) := hD
                  have hw26 : r24 = (sh_X1_handPageByPage N.1 N.2.2.1 x1 (sh_X1_tonerFor N.2.1 x1 x2 (N.1 (0 : Int32).toNatClampNeg)) x3) := hw26
                  subst hw26
                  refine lv_goto (tgt := 106) hx hb dX4_atHand_92 (by decide) ?_
                  exact hret _ _ _ _ ((sh_X1_handPageByPage N.1 N.2.2.1 x1 (sh_X1_tonerFor N.2.1 x1 x2 (N.1 (0 : Int32).toNatClampNeg)) x3)) () dX4_atHand_106 rfl (hq.symm.trans hX) hP hD hS
              · have hq := it_neg hq c19
                refine lv_bipush (v := (-4)) hx hb dX4_atHand_73 (by decide) ?_
                exact hret _ _ _ _ ((-4)) () dX4_atHand_75 rfl (hq.symm.trans hX) hP hD hS
            · have hq := it_neg hq c12
              refine lv_iconst (v := (-1)) hx hb dX4_atHand_35 (by decide) ?_
              exact hret _ _ _ _ ((-1)) () dX4_atHand_36 rfl (hq.symm.trans hX) hP hD hS
def sh_X4_darkest (N : TMa) (x1 : Int32) (x2 : Int32) (x3 : Int32) : Int32 := (if (sh_X4_isCup x1) = 0 then (-1 : Int32) else (if (sh_X4_isDots x2) = 0 then (-1 : Int32) else (if (sh_X4_isJobLength x3) = 0 then (-1 : Int32) else (if (sh_X1_lastsShaken N.1 N.2.1 N.2.2.1 N.2.2.2.1 x1 x2 5 x3) = 0 then (if (sh_X1_lastsShaken N.1 N.2.1 N.2.2.1 N.2.2.2.1 x1 x2 4 x3) = 0 then (if (sh_X1_lastsShaken N.1 N.2.1 N.2.2.1 N.2.2.2.1 x1 x2 3 x3) = 0 then (if (sh_X1_lastsShaken N.1 N.2.1 N.2.2.1 N.2.2.2.1 x1 x2 2 x3) = 0 then (if (sh_X1_lastsShaken N.1 N.2.1 N.2.2.1 N.2.2.2.1 x1 x2 1 x3) = 0 then (-4 : Int32) else (1 : Int32)) else (2 : Int32)) else (3 : Int32)) else (4 : Int32)) else (5 : Int32)))))
abbrev rm_X4_darkest : Room := { frames := 3, cells := 0, slots := 0, locals := 73 }
theorem hd_X4_darkest : hdT yX4_darkest 3 := by decide +kernel
set_option maxHeartbeats 40000000 in
set_option maxRecDepth 100000 in
theorem c_X4_darkest (l : Launch) (D : va_G) (cI cC cQ : ClassId) (sz : Nat) (d0 : Nat) (n0 : Nat) (na : Nat → Nat) (s0 : Nat) (sa : Nat → Nat) (h1 : Nat) (h2 : Nat) (mm : Nat → Nat) (ma : Nat → Nat → Nat) (t0 : Nat) (p0 : Nat) (pa : Nat → Nat) (tk : Int32) (N : TMa) (S : TMa) (oo : Int32) (zz : Int32) (M0 : TMa) (M1 : TMa) (M2 : TMa) (M3 : TMa) (rs : Int32) (de : Int32) (pc : Int32) (pg : Int32) (sg : Nat → Int32) (ln : Int32) (po : Int32) (dd : Int32) (lt : Nat → Int32) (pl : Nat → Int32) (f1s : Nat → Int32) (s2s : Nat → Int32) (tms : Nat → Int32) (x1 : Int32) (x2 : Int32) (x3 : Int32)  : Met l yX4_darkest (wsO yX4_darkest cX4_darkest 5 (some .int)) rm_X4_darkest (va_Pc [.ref d0, .int x1, .int x2, .int x3] (inW D (TYS cI cC cQ) (DW cI cC cQ d0 n0 na s0 sa h1 h2 mm ma t0 p0 pa tk N S oo zz M0 M1 M2 M3 rs de pc pg sg ln po dd lt pl f1s s2s tms) sz)) (va_Qi (fun (r : Int32) (_ : Unit) => r = sh_X4_darkest N x1 x2 x3) (fun (u : Unit) => atW D (TYS cI cC cQ) (va_A (DW cI cC cQ d0 n0 na s0 sa h1 h2 mm ma t0 p0 pa tk N S oo zz M0 M1 M2 M3 rs de pc pg sg ln po dd lt pl f1s s2s tms) sz) (DW cI cC cQ d0 n0 na s0 sa h1 h2 mm ma t0 p0 pa tk N S oo zz M0 M1 M2 M3 rs de pc pg sg ln po dd lt pl f1s s2s tms)) (va_A (DW cI cC cQ d0 n0 na s0 sa h1 h2 mm ma t0 p0 pa tk N S oo zz M0 M1 M2 M3 rs de pc pg sg ln po dd lt pl f1s s2s tms) sz)) 0 0 (va_A (DW cI cC cQ d0 n0 na s0 sa h1 h2 mm ma t0 p0 pa tk N S oo zz M0 M1 M2 M3 rs de pc pg sg ln po dd lt pl f1s s2s tms) sz) := by
  refine k_meti .int rfl (by decide) (Nat.le_of_ble_eq_true rfl) ?_
  intro p e s m args below meth c A ls Q H locs hargs hret hx hb hts hown hml hname hN hA hS hP hK hD hl
  have hl : lv_has ls 5 [(0, .ref d0), (1, .int x1), (2, .int x2), (3, .int x3)] := hl
  obtain ⟨Xq, hX⟩ : ∃ Xq, Xq = sh_X4_darkest N x1 x2 x3 := ⟨_, rfl⟩
  have hq : Xq = (if (sh_X4_isCup x1) = 0 then (-1 : Int32) else (if (sh_X4_isDots x2) = 0 then (-1 : Int32) else (if (sh_X4_isJobLength x3) = 0 then (-1 : Int32) else (if (sh_X1_lastsShaken N.1 N.2.1 N.2.2.1 N.2.2.2.1 x1 x2 5 x3) = 0 then (if (sh_X1_lastsShaken N.1 N.2.1 N.2.2.1 N.2.2.2.1 x1 x2 4 x3) = 0 then (if (sh_X1_lastsShaken N.1 N.2.1 N.2.2.1 N.2.2.2.1 x1 x2 3 x3) = 0 then (if (sh_X1_lastsShaken N.1 N.2.1 N.2.2.1 N.2.2.2.1 x1 x2 2 x3) = 0 then (if (sh_X1_lastsShaken N.1 N.2.1 N.2.2.1 N.2.2.2.1 x1 x2 1 x3) = 0 then (-4 : Int32) else (1 : Int32)) else (2 : Int32)) else (3 : Int32)) else (4 : Int32)) else (5 : Int32))))) := hX
  refine lv_iload_n hx hb dX4_darkest_0 rfl (lv_at hl 1 rfl) ?_
  have hPs : va_P D vwCl ([] ++ ([] ++ (DW cI cC cQ d0 n0 na s0 sa h1 h2 mm ma t0 p0 pa tk N S oo zz M0 M1 M2 M3 rs de pc pg sg ln po dd lt pl f1s s2s tms))) H := hP
  have hDs : va_D A ([] ++ ([] ++ (DW cI cC cQ d0 n0 na s0 sa h1 h2 mm ma t0 p0 pa tk N S oo zz M0 M1 M2 M3 rs de pc pg sg ln po dd lt pl f1s s2s tms))) := hD
  refine k_behi (X := []) (Y := (DW cI cC cQ d0 n0 na s0 sa h1 h2 mm ma t0 p0 pa tk N S oo zz M0 M1 M2 M3 rs de pc pg sg ln po dd lt pl f1s s2s tms)) (va_runS (As := [.int x1]) (rest := []) ⟨hx, hb, hml, hown, hts⟩ (c_X4_isCup l D cI cC cQ H.size x1) (kcwS hts wd_ml_RX4_59 wd_st_yX4_isCup wd_ini_RX4 wd_code_yX4_isCup rfl rfl hd_X4_isCup ⟨Nat.le_of_ble_eq_true rfl, Nat.le_of_ble_eq_true rfl⟩) ⟨in_blind, k_pre hK (pa_l (pa_r hPs)) (da_l (da_r hDs)) hN⟩ rfl rfl hl.1 rfl (lv_room (Nat.le_of_ble_eq_true rfl)) dX4_darkest_1 ⟨Nat.le_of_ble_eq_true rfl, Nat.le_of_ble_eq_true rfl⟩) hPs hDs hS hA (fun r1 u2 H locs hw3 hP hD hS => ?_)
  have hP : va_P D vwCl (DW cI cC cQ d0 n0 na s0 sa h1 h2 mm ma t0 p0 pa tk N S oo zz M0 M1 M2 M3 rs de pc pg sg ln po dd lt pl f1s s2s tms) H := hP
  have hD : va_D A (DW cI cC cQ d0 n0 na s0 sa h1 h2 mm ma t0 p0 pa tk N S oo zz M0 M1 M2 M3 rs de pc pg sg ln po dd lt pl f1s s2s tms) := hD
  have hw3 : r1 = (sh_X4_isCup x1) := hw3
  subst hw3
  refine lv_if_eq (tgt := 21) hx hb dX4_darkest_4 (by decide) (fun c4 => ?_) (fun c4 => ?_)
  · have hq := it_pos hq c4
    refine lv_iconst (v := (-1)) hx hb dX4_darkest_21 (by decide) ?_
    exact hret _ _ _ _ ((-1)) () dX4_darkest_22 rfl (hq.symm.trans hX) hP hD hS
  · have hq := it_neg hq c4
    refine lv_iload_n hx hb dX4_darkest_7 rfl (lv_at hl 2 rfl) ?_
    have hPs : va_P D vwCl ([] ++ ([] ++ (DW cI cC cQ d0 n0 na s0 sa h1 h2 mm ma t0 p0 pa tk N S oo zz M0 M1 M2 M3 rs de pc pg sg ln po dd lt pl f1s s2s tms))) H := hP
    have hDs : va_D A ([] ++ ([] ++ (DW cI cC cQ d0 n0 na s0 sa h1 h2 mm ma t0 p0 pa tk N S oo zz M0 M1 M2 M3 rs de pc pg sg ln po dd lt pl f1s s2s tms))) := hD
    refine k_behi (X := []) (Y := (DW cI cC cQ d0 n0 na s0 sa h1 h2 mm ma t0 p0 pa tk N S oo zz M0 M1 M2 M3 rs de pc pg sg ln po dd lt pl f1s s2s tms)) (va_runS (As := [.int x2]) (rest := []) ⟨hx, hb, hml, hown, hts⟩ (c_X4_isDots l D cI cC cQ H.size x2) (kcwS hts wd_ml_RX4_48 wd_st_yX4_isDots wd_ini_RX4 wd_code_yX4_isDots rfl rfl hd_X4_isDots ⟨Nat.le_of_ble_eq_true rfl, Nat.le_of_ble_eq_true rfl⟩) ⟨in_blind, k_pre hK (pa_l (pa_r hPs)) (da_l (da_r hDs)) hN⟩ rfl rfl hl.1 rfl (lv_room (Nat.le_of_ble_eq_true rfl)) dX4_darkest_8 ⟨Nat.le_of_ble_eq_true rfl, Nat.le_of_ble_eq_true rfl⟩) hPs hDs hS hA (fun r5 u6 H locs hw7 hP hD hS => ?_)
    have hP : va_P D vwCl (DW cI cC cQ d0 n0 na s0 sa h1 h2 mm ma t0 p0 pa tk N S oo zz M0 M1 M2 M3 rs de pc pg sg ln po dd lt pl f1s s2s tms) H := hP
    have hD : va_D A (DW cI cC cQ d0 n0 na s0 sa h1 h2 mm ma t0 p0 pa tk N S oo zz M0 M1 M2 M3 rs de pc pg sg ln po dd lt pl f1s s2s tms) := hD
    have hw7 : r5 = (sh_X4_isDots x2) := hw7
    subst hw7
    refine lv_if_eq (tgt := 21) hx hb dX4_darkest_11 (by decide) (fun c8 => ?_) (fun c8 => ?_)
    · have hq := it_pos hq c8
      refine lv_iconst (v := (-1)) hx hb dX4_darkest_21 (by decide) ?_
      exact hret _ _ _ _ ((-1)) () dX4_darkest_22 rfl (hq.symm.trans hX) hP hD hS
    · have hq := it_neg hq c8
      refine lv_iload_n hx hb dX4_darkest_14 rfl (lv_at hl 3 rfl) ?_
      have hPs : va_P D vwCl ([] ++ ([] ++ (DW cI cC cQ d0 n0 na s0 sa h1 h2 mm ma t0 p0 pa tk N S oo zz M0 M1 M2 M3 rs de pc pg sg ln po dd lt pl f1s s2s tms))) H := hP
      have hDs : va_D A ([] ++ ([] ++ (DW cI cC cQ d0 n0 na s0 sa h1 h2 mm ma t0 p0 pa tk N S oo zz M0 M1 M2 M3 rs de pc pg sg ln po dd lt pl f1s s2s tms))) := hD
      refine k_behi (X := []) (Y := (DW cI cC cQ d0 n0 na s0 sa h1 h2 mm ma t0 p0 pa tk N S oo zz M0 M1 M2 M3 rs de pc pg sg ln po dd lt pl f1s s2s tms)) (va_runS (As := [.int x3]) (rest := []) ⟨hx, hb, hml, hown, hts⟩ (c_X4_isJobLength l D cI cC cQ H.size x3) (kcwS hts wd_ml_RX4_222 wd_st_yX4_isJobLength wd_ini_RX4 wd_code_yX4_isJobLength rfl rfl hd_X4_isJobLength ⟨Nat.le_of_ble_eq_true rfl, Nat.le_of_ble_eq_true rfl⟩) ⟨in_blind, k_pre hK (pa_l (pa_r hPs)) (da_l (da_r hDs)) hN⟩ rfl rfl hl.1 rfl (lv_room (Nat.le_of_ble_eq_true rfl)) dX4_darkest_15 ⟨Nat.le_of_ble_eq_true rfl, Nat.le_of_ble_eq_true rfl⟩) hPs hDs hS hA (fun r9 u10 H locs hw11 hP hD hS => ?_)
      have hP : va_P D vwCl (DW cI cC cQ d0 n0 na s0 sa h1 h2 mm ma t0 p0 pa tk N S oo zz M0 M1 M2 M3 rs de pc pg sg ln po dd lt pl f1s s2s tms) H := hP
      have hD : va_D A (DW cI cC cQ d0 n0 na s0 sa h1 h2 mm ma t0 p0 pa tk N S oo zz M0 M1 M2 M3 rs de pc pg sg ln po dd lt pl f1s s2s tms) := hD
      have hw11 : r9 = (sh_X4_isJobLength x3) := hw11
      subst hw11
      refine lv_if_ne (tgt := 23) hx hb dX4_darkest_18 (by decide) (fun c12 => ?_) (fun c12 => ?_)
      · have hq := it_neg hq c12
        refine lv_iconst (v := 5) hx hb dX4_darkest_23 (by decide) ?_
        refine lv_istore (lv' := [(4, .int 5), (0, .ref d0), (1, .int x1), (2, .int x2), (3, .int x3)]) hx hb dX4_darkest_24 hl (by decide) rfl (fun ls hl => ?_)
        refine lv_iload hx hb dX4_darkest_26 (lv_at hl 0 rfl) ?_
        refine lv_iconst (v := 1) hx hb dX4_darkest_28 (by decide) ?_
        refine lv_icmp_lt (tgt := 56) hx hb dX4_darkest_29 (by decide) (fun c9 => absurd c9 (by decide)) (fun _ => ?_)
        refine lv_aload_n hx hb dX4_darkest_32 rfl (lv_at hl 1 rfl) ?_
        refine va_get (D := D) (ci := 4) (v := .ref n0) (C := RX4) (T := TX4) (N := 6) hx hb hts inA4 hown hK hP 0 rfl rfl 0 (by decide) (hts _ wd_fl_RX4_10) (fun _ h9 => h9) rfl dX4_darkest_33 ?_
        refine lv_iload_n hx hb dX4_darkest_36 rfl (lv_at hl 2 rfl) ?_
        refine lv_iload_n hx hb dX4_darkest_37 rfl (lv_at hl 3 rfl) ?_
        refine lv_iload hx hb dX4_darkest_38 (lv_at hl 0 rfl) ?_
        refine lv_iload_n hx hb dX4_darkest_40 rfl (lv_at hl 4 rfl) ?_
        have hPs : va_P D vwCl (((OB d0 n0 s0 h1 p0 t0 tk) ++ ((SW t0 rs de pc pg) ++ ((PW cI cC p0 pa sg ln po dd lt pl f1s s2s tms) ++ (MT cI s0 sa S)))) ++ ((MW cI n0 na N.1 N.2.1 N.2.2.1 N.2.2.2.1 N.2.2.2.2.1 N.2.2.2.2.2.1 N.2.2.2.2.2.2.1 N.2.2.2.2.2.2.2.1 N.2.2.2.2.2.2.2.2.1 N.2.2.2.2.2.2.2.2.2.1 N.2.2.2.2.2.2.2.2.2.2.1 N.2.2.2.2.2.2.2.2.2.2.2.1 N.2.2.2.2.2.2.2.2.2.2.2.2.1 N.2.2.2.2.2.2.2.2.2.2.2.2.2) ++ ((HO cQ h1 h2 mm oo zz) ++ ((MT cI (mm 0) (ma 0) M0) ++ ((MT cI (mm 1) (ma 1) M1) ++ ((MT cI (mm 2) (ma 2) M2) ++ (MT cI (mm 3) (ma 3) M3))))))) H := hP
        have hDs : va_D A (((OB d0 n0 s0 h1 p0 t0 tk) ++ ((SW t0 rs de pc pg) ++ ((PW cI cC p0 pa sg ln po dd lt pl f1s s2s tms) ++ (MT cI s0 sa S)))) ++ ((MW cI n0 na N.1 N.2.1 N.2.2.1 N.2.2.2.1 N.2.2.2.2.1 N.2.2.2.2.2.1 N.2.2.2.2.2.2.1 N.2.2.2.2.2.2.2.1 N.2.2.2.2.2.2.2.2.1 N.2.2.2.2.2.2.2.2.2.1 N.2.2.2.2.2.2.2.2.2.2.1 N.2.2.2.2.2.2.2.2.2.2.2.1 N.2.2.2.2.2.2.2.2.2.2.2.2.1 N.2.2.2.2.2.2.2.2.2.2.2.2.2) ++ ((HO cQ h1 h2 mm oo zz) ++ ((MT cI (mm 0) (ma 0) M0) ++ ((MT cI (mm 1) (ma 1) M1) ++ ((MT cI (mm 2) (ma 2) M2) ++ (MT cI (mm 3) (ma 3) M3))))))) := hD
        refine k_behi (X := ((OB d0 n0 s0 h1 p0 t0 tk) ++ ((SW t0 rs de pc pg) ++ ((PW cI cC p0 pa sg ln po dd lt pl f1s s2s tms) ++ (MT cI s0 sa S))))) (Y := ((HO cQ h1 h2 mm oo zz) ++ ((MT cI (mm 0) (ma 0) M0) ++ ((MT cI (mm 1) (ma 1) M1) ++ ((MT cI (mm 2) (ma 2) M2) ++ (MT cI (mm 3) (ma 3) M3)))))) (va_runV (As := [.int x1, .int x2, .int 5, .int x3]) (rest := []) ⟨hx, hb, hml, hown, hts⟩ (c_X1_lastsShaken l D cI cC cQ H.size n0 na N.1 N.2.1 N.2.2.1 N.2.2.2.1 N.2.2.2.2.1 N.2.2.2.2.2.1 N.2.2.2.2.2.2.1 N.2.2.2.2.2.2.2.1 N.2.2.2.2.2.2.2.2.1 N.2.2.2.2.2.2.2.2.2.1 N.2.2.2.2.2.2.2.2.2.2.1 N.2.2.2.2.2.2.2.2.2.2.2.1 N.2.2.2.2.2.2.2.2.2.2.2.2.1 N.2.2.2.2.2.2.2.2.2.2.2.2.2 x1 x2 5 x3 ((isIn4 c4))) (kcwV hts wd_ml_RX4_225 wd_im_yX1_lastsShaken wd_sel_yX1_lastsShaken wd_ini_RX1 wd_code_yX1_lastsShaken rfl rfl rfl hd_X1_lastsShaken ⟨Nat.le_of_ble_eq_true rfl, Nat.le_of_ble_eq_true rfl⟩) ⟨in_blind, va_recv hK (pa_l (pa_r hPs)) (ci := 1) (q0 := 0) rfl rfl, k_pre hK (pa_l (pa_r hPs)) (da_l (da_r hDs)) hN⟩ rfl rfl hl.1 rfl (lv_room (Nat.le_of_ble_eq_true rfl)) dX4_darkest_41 ⟨Nat.le_of_ble_eq_true rfl, Nat.le_of_ble_eq_true rfl⟩) hPs hDs hS hA (fun r13 u14 H locs hw15 hP hD hS => ?_)
        have hP : va_P D vwCl (DW cI cC cQ d0 n0 na s0 sa h1 h2 mm ma t0 p0 pa tk N S oo zz M0 M1 M2 M3 rs de pc pg sg ln po dd lt pl f1s s2s tms) H := hP
        have hD : va_D A (DW cI cC cQ d0 n0 na s0 sa h1 h2 mm ma t0 p0 pa tk N S oo zz M0 M1 M2 M3 rs de pc pg sg ln po dd lt pl f1s s2s tms) := hD
        have hw15 : r13 = (sh_X1_lastsShaken N.1 N.2.1 N.2.2.1 N.2.2.2.1 x1 x2 5 x3) := hw15
        subst hw15
        refine lv_if_eq (tgt := 50) hx hb dX4_darkest_44 (by decide) (fun c16 => ?_) (fun c16 => ?_)
        · have hq := it_pos hq c16
          refine lv_iinc (v := 4) (lv' := [(4, .int 4), (0, .ref d0), (1, .int x1), (2, .int x2), (3, .int x3)]) hx hb dX4_darkest_50 hl (k := 0) rfl (by decide) (by decide) rfl (fun ls hl => ?_)
          refine lv_goto (tgt := 26) hx hb dX4_darkest_53 (by decide) ?_
          refine lv_iload hx hb dX4_darkest_26 (lv_at hl 0 rfl) ?_
          refine lv_iconst (v := 1) hx hb dX4_darkest_28 (by decide) ?_
          refine lv_icmp_lt (tgt := 56) hx hb dX4_darkest_29 (by decide) (fun c9 => absurd c9 (by decide)) (fun _ => ?_)
          refine lv_aload_n hx hb dX4_darkest_32 rfl (lv_at hl 1 rfl) ?_
          refine va_get (D := D) (ci := 4) (v := .ref n0) (C := RX4) (T := TX4) (N := 6) hx hb hts inA4 hown hK hP 0 rfl rfl 0 (by decide) (hts _ wd_fl_RX4_10) (fun _ h9 => h9) rfl dX4_darkest_33 ?_
          refine lv_iload_n hx hb dX4_darkest_36 rfl (lv_at hl 2 rfl) ?_
          refine lv_iload_n hx hb dX4_darkest_37 rfl (lv_at hl 3 rfl) ?_
          refine lv_iload hx hb dX4_darkest_38 (lv_at hl 0 rfl) ?_
          refine lv_iload_n hx hb dX4_darkest_40 rfl (lv_at hl 4 rfl) ?_
          have hPs : va_P D vwCl (((OB d0 n0 s0 h1 p0 t0 tk) ++ ((SW t0 rs de pc pg) ++ ((PW cI cC p0 pa sg ln po dd lt pl f1s s2s tms) ++ (MT cI s0 sa S)))) ++ ((MW cI n0 na N.1 N.2.1 N.2.2.1 N.2.2.2.1 N.2.2.2.2.1 N.2.2.2.2.2.1 N.2.2.2.2.2.2.1 N.2.2.2.2.2.2.2.1 N.2.2.2.2.2.2.2.2.1 N.2.2.2.2.2.2.2.2.2.1 N.2.2.2.2.2.2.2.2.2.2.1 N.2.2.2.2.2.2.2.2.2.2.2.1 N.2.2.2.2.2.2.2.2.2.2.2.2.1 N.2.2.2.2.2.2.2.2.2.2.2.2.2) ++ ((HO cQ h1 h2 mm oo zz) ++ ((MT cI (mm 0) (ma 0) M0) ++ ((MT cI (mm 1) (ma 1) M1) ++ ((MT cI (mm 2) (ma 2) M2) ++ (MT cI (mm 3) (ma 3) M3))))))) H := hP
          have hDs : va_D A (((OB d0 n0 s0 h1 p0 t0 tk) ++ ((SW t0 rs de pc pg) ++ ((PW cI cC p0 pa sg ln po dd lt pl f1s s2s tms) ++ (MT cI s0 sa S)))) ++ ((MW cI n0 na N.1 N.2.1 N.2.2.1 N.2.2.2.1 N.2.2.2.2.1 N.2.2.2.2.2.1 N.2.2.2.2.2.2.1 N.2.2.2.2.2.2.2.1 N.2.2.2.2.2.2.2.2.1 N.2.2.2.2.2.2.2.2.2.1 N.2.2.2.2.2.2.2.2.2.2.1 N.2.2.2.2.2.2.2.2.2.2.2.1 N.2.2.2.2.2.2.2.2.2.2.2.2.1 N.2.2.2.2.2.2.2.2.2.2.2.2.2) ++ ((HO cQ h1 h2 mm oo zz) ++ ((MT cI (mm 0) (ma 0) M0) ++ ((MT cI (mm 1) (ma 1) M1) ++ ((MT cI (mm 2) (ma 2) M2) ++ (MT cI (mm 3) (ma 3) M3))))))) := hD
          refine k_behi (X := ((OB d0 n0 s0 h1 p0 t0 tk) ++ ((SW t0 rs de pc pg) ++ ((PW cI cC p0 pa sg ln po dd lt pl f1s s2s tms) ++ (MT cI s0 sa S))))) (Y := ((HO cQ h1 h2 mm oo zz) ++ ((MT cI (mm 0) (ma 0) M0) ++ ((MT cI (mm 1) (ma 1) M1) ++ ((MT cI (mm 2) (ma 2) M2) ++ (MT cI (mm 3) (ma 3) M3)))))) (va_runV (As := [.int x1, .int x2, .int 4, .int x3]) (rest := []) ⟨hx, hb, hml, hown, hts⟩ (c_X1_lastsShaken l D cI cC cQ H.size n0 na N.1 N.2.1 N.2.2.1 N.2.2.2.1 N.2.2.2.2.1 N.2.2.2.2.2.1 N.2.2.2.2.2.2.1 N.2.2.2.2.2.2.2.1 N.2.2.2.2.2.2.2.2.1 N.2.2.2.2.2.2.2.2.2.1 N.2.2.2.2.2.2.2.2.2.2.1 N.2.2.2.2.2.2.2.2.2.2.2.1 N.2.2.2.2.2.2.2.2.2.2.2.2.1 N.2.2.2.2.2.2.2.2.2.2.2.2.2 x1 x2 4 x3 ((isIn4 c4))) (kcwV hts wd_ml_RX4_225 wd_im_yX1_lastsShaken wd_sel_yX1_lastsShaken wd_ini_RX1 wd_code_yX1_lastsShaken rfl rfl rfl hd_X1_lastsShaken ⟨Nat.le_of_ble_eq_true rfl, Nat.le_of_ble_eq_true rfl⟩) ⟨in_blind, va_recv hK (pa_l (pa_r hPs)) (ci := 1) (q0 := 0) rfl rfl, k_pre hK (pa_l (pa_r hPs)) (da_l (da_r hDs)) hN⟩ rfl rfl hl.1 rfl (lv_room (Nat.le_of_ble_eq_true rfl)) dX4_darkest_41 ⟨Nat.le_of_ble_eq_true rfl, Nat.le_of_ble_eq_true rfl⟩) hPs hDs hS hA (fun r17 u18 H locs hw19 hP hD hS => ?_)
          have hP : va_P D vwCl (DW cI cC cQ d0 n0 na s0 sa h1 h2 mm ma t0 p0 pa tk N S oo zz M0 M1 M2 M3 rs de pc pg sg ln po dd lt pl f1s s2s tms) H := hP
          have hD : va_D A (DW cI cC cQ d0 n0 na s0 sa h1 h2 mm ma t0 p0 pa tk N S oo zz M0 M1 M2 M3 rs de pc pg sg ln po dd lt pl f1s s2s tms) := hD
          have hw19 : r17 = (sh_X1_lastsShaken N.1 N.2.1 N.2.2.1 N.2.2.2.1 x1 x2 4 x3) := hw19
          subst hw19
          refine lv_if_eq (tgt := 50) hx hb dX4_darkest_44 (by decide) (fun c20 => ?_) (fun c20 => ?_)
          · have hq := it_pos hq c20
            refine lv_iinc (v := 3) (lv' := [(4, .int 3), (0, .ref d0), (1, .int x1), (2, .int x2), (3, .int x3)]) hx hb dX4_darkest_50 hl (k := 0) rfl (by decide) (by decide) rfl (fun ls hl => ?_)
            refine lv_goto (tgt := 26) hx hb dX4_darkest_53 (by decide) ?_
            refine lv_iload hx hb dX4_darkest_26 (lv_at hl 0 rfl) ?_
            refine lv_iconst (v := 1) hx hb dX4_darkest_28 (by decide) ?_
            refine lv_icmp_lt (tgt := 56) hx hb dX4_darkest_29 (by decide) (fun c9 => absurd c9 (by decide)) (fun _ => ?_)
            refine lv_aload_n hx hb dX4_darkest_32 rfl (lv_at hl 1 rfl) ?_
            refine va_get (D := D) (ci := 4) (v := .ref n0) (C := RX4) (T := TX4) (N := 6) hx hb hts inA4 hown hK hP 0 rfl rfl 0 (by decide) (hts _ wd_fl_RX4_10) (fun _ h9 => h9) rfl dX4_darkest_33 ?_
            refine lv_iload_n hx hb dX4_darkest_36 rfl (lv_at hl 2 rfl) ?_
            refine lv_iload_n hx hb dX4_darkest_37 rfl (lv_at hl 3 rfl) ?_
            refine lv_iload hx hb dX4_darkest_38 (lv_at hl 0 rfl) ?_
            refine lv_iload_n hx hb dX4_darkest_40 rfl (lv_at hl 4 rfl) ?_
            have hPs : va_P D vwCl (((OB d0 n0 s0 h1 p0 t0 tk) ++ ((SW t0 rs de pc pg) ++ ((PW cI cC p0 pa sg ln po dd lt pl f1s s2s tms) ++ (MT cI s0 sa S)))) ++ ((MW cI n0 na N.1 N.2.1 N.2.2.1 N.2.2.2.1 N.2.2.2.2.1 N.2.2.2.2.2.1 N.2.2.2.2.2.2.1 N.2.2.2.2.2.2.2.1 N.2.2.2.2.2.2.2.2.1 N.2.2.2.2.2.2.2.2.2.1 N.2.2.2.2.2.2.2.2.2.2.1 N.2.2.2.2.2.2.2.2.2.2.2.1 N.2.2.2.2.2.2.2.2.2.2.2.2.1 N.2.2.2.2.2.2.2.2.2.2.2.2.2) ++ ((HO cQ h1 h2 mm oo zz) ++ ((MT cI (mm 0) (ma 0) M0) ++ ((MT cI (mm 1) (ma 1) M1) ++ ((MT cI (mm 2) (ma 2) M2) ++ (MT cI (mm 3) (ma 3) M3))))))) H := hP
            have hDs : va_D A (((OB d0 n0 s0 h1 p0 t0 tk) ++ ((SW t0 rs de pc pg) ++ ((PW cI cC p0 pa sg ln po dd lt pl f1s s2s tms) ++ (MT cI s0 sa S)))) ++ ((MW cI n0 na N.1 N.2.1 N.2.2.1 N.2.2.2.1 N.2.2.2.2.1 N.2.2.2.2.2.1 N.2.2.2.2.2.2.1 N.2.2.2.2.2.2.2.1 N.2.2.2.2.2.2.2.2.1 N.2.2.2.2.2.2.2.2.2.1 N.2.2.2.2.2.2.2.2.2.2.1 N.2.2.2.2.2.2.2.2.2.2.2.1 N.2.2.2.2.2.2.2.2.2.2.2.2.1 N.2.2.2.2.2.2.2.2.2.2.2.2.2) ++ ((HO cQ h1 h2 mm oo zz) ++ ((MT cI (mm 0) (ma 0) M0) ++ ((MT cI (mm 1) (ma 1) M1) ++ ((MT cI (mm 2) (ma 2) M2) ++ (MT cI (mm 3) (ma 3) M3))))))) := hD
            refine k_behi (X := ((OB d0 n0 s0 h1 p0 t0 tk) ++ ((SW t0 rs de pc pg) ++ ((PW cI cC p0 pa sg ln po dd lt pl f1s s2s tms) ++ (MT cI s0 sa S))))) (Y := ((HO cQ h1 h2 mm oo zz) ++ ((MT cI (mm 0) (ma 0) M0) ++ ((MT cI (mm 1) (ma 1) M1) ++ ((MT cI (mm 2) (ma 2) M2) ++ (MT cI (mm 3) (ma 3) M3)))))) (va_runV (As := [.int x1, .int x2, .int 3, .int x3]) (rest := []) ⟨hx, hb, hml, hown, hts⟩ (c_X1_lastsShaken l D cI cC cQ H.size n0 na N.1 N.2.1 N.2.2.1 N.2.2.2.1 N.2.2.2.2.1 N.2.2.2.2.2.1 N.2.2.2.2.2.2.1 N.2.2.2.2.2.2.2.1 N.2.2.2.2.2.2.2.2.1 N.2.2.2.2.2.2.2.2.2.1 N.2.2.2.2.2.2.2.2.2.2.1 N.2.2.2.2.2.2.2.2.2.2.2.1 N.2.2.2.2.2.2.2.2.2.2.2.2.1 N.2.2.2.2.2.2.2.2.2.2.2.2.2 x1 x2 3 x3 ((isIn4 c4))) (kcwV hts wd_ml_RX4_225 wd_im_yX1_lastsShaken wd_sel_yX1_lastsShaken wd_ini_RX1 wd_code_yX1_lastsShaken rfl rfl rfl hd_X1_lastsShaken ⟨Nat.le_of_ble_eq_true rfl, Nat.le_of_ble_eq_true rfl⟩) ⟨in_blind, va_recv hK (pa_l (pa_r hPs)) (ci := 1) (q0 := 0) rfl rfl, k_pre hK (pa_l (pa_r hPs)) (da_l (da_r hDs)) hN⟩ rfl rfl hl.1 rfl (lv_room (Nat.le_of_ble_eq_true rfl)) dX4_darkest_41 ⟨Nat.le_of_ble_eq_true rfl, Nat.le_of_ble_eq_true rfl⟩) hPs hDs hS hA (fun r21 u22 H locs hw23 hP hD hS => ?_)
            have hP : va_P D vwCl (DW cI cC cQ d0 n0 na s0 sa h1 h2 mm ma t0 p0 pa tk N S oo zz M0 M1 M2 M3 rs de pc pg sg ln po dd lt pl f1s s2s tms) H := hP
            have hD : va_D A (DW cI cC cQ d0 n0 na s0 sa h1 h2 mm ma t0 p0 pa tk N S oo zz M0 M1 M2 M3 rs de pc pg sg ln po dd lt pl f1s s2s tms) := hD
            have hw23 : r21 = (sh_X1_lastsShaken N.1 N.2.1 N.2.2.1 N.2.2.2.1 x1 x2 3 x3) := hw23
            subst hw23
            refine lv_if_eq (tgt := 50) hx hb dX4_darkest_44 (by decide) (fun c24 => ?_) (fun c24 => ?_)
            · have hq := it_pos hq c24
              refine lv_iinc (v := 2) (lv' := [(4, .int 2), (0, .ref d0), (1, .int x1), (2, .int x2), (3, .int x3)]) hx hb dX4_darkest_50 hl (k := 0) rfl (by decide) (by decide) rfl (fun ls hl => ?_)
              refine lv_goto (tgt := 26) hx hb dX4_darkest_53 (by decide) ?_
              refine lv_iload hx hb dX4_darkest_26 (lv_at hl 0 rfl) ?_
              refine lv_iconst (v := 1) hx hb dX4_darkest_28 (by decide) ?_
              refine lv_icmp_lt (tgt := 56) hx hb dX4_darkest_29 (by decide) (fun c9 => absurd c9 (by decide)) (fun _ => ?_)
              refine lv_aload_n hx hb dX4_darkest_32 rfl (lv_at hl 1 rfl) ?_
              refine va_get (D := D) (ci := 4) (v := .ref n0) (C := RX4) (T := TX4) (N := 6) hx hb hts inA4 hown hK hP 0 rfl rfl 0 (by decide) (hts _ wd_fl_RX4_10) (fun _ h9 => h9) rfl dX4_darkest_33 ?_
              refine lv_iload_n hx hb dX4_darkest_36 rfl (lv_at hl 2 rfl) ?_
              refine lv_iload_n hx hb dX4_darkest_37 rfl (lv_at hl 3 rfl) ?_
              refine lv_iload hx hb dX4_darkest_38 (lv_at hl 0 rfl) ?_
              refine lv_iload_n hx hb dX4_darkest_40 rfl (lv_at hl 4 rfl) ?_
              have hPs : va_P D vwCl (((OB d0 n0 s0 h1 p0 t0 tk) ++ ((SW t0 rs de pc pg) ++ ((PW cI cC p0 pa sg ln po dd lt pl f1s s2s tms) ++ (MT cI s0 sa S)))) ++ ((MW cI n0 na N.1 N.2.1 N.2.2.1 N.2.2.2.1 N.2.2.2.2.1 N.2.2.2.2.2.1 N.2.2.2.2.2.2.1 N.2.2.2.2.2.2.2.1 N.2.2.2.2.2.2.2.2.1 N.2.2.2.2.2.2.2.2.2.1 N.2.2.2.2.2.2.2.2.2.2.1 N.2.2.2.2.2.2.2.2.2.2.2.1 N.2.2.2.2.2.2.2.2.2.2.2.2.1 N.2.2.2.2.2.2.2.2.2.2.2.2.2) ++ ((HO cQ h1 h2 mm oo zz) ++ ((MT cI (mm 0) (ma 0) M0) ++ ((MT cI (mm 1) (ma 1) M1) ++ ((MT cI (mm 2) (ma 2) M2) ++ (MT cI (mm 3) (ma 3) M3))))))) H := hP
              have hDs : va_D A (((OB d0 n0 s0 h1 p0 t0 tk) ++ ((SW t0 rs de pc pg) ++ ((PW cI cC p0 pa sg ln po dd lt pl f1s s2s tms) ++ (MT cI s0 sa S)))) ++ ((MW cI n0 na N.1 N.2.1 N.2.2.1 N.2.2.2.1 N.2.2.2.2.1 N.2.2.2.2.2.1 N.2.2.2.2.2.2.1 N.2.2.2.2.2.2.2.1 N.2.2.2.2.2.2.2.2.1 N.2.2.2.2.2.2.2.2.2.1 N.2.2.2.2.2.2.2.2.2.2.1 N.2.2.2.2.2.2.2.2.2.2.2.1 N.2.2.2.2.2.2.2.2.2.2.2.2.1 N.2.2.2.2.2.2.2.2.2.2.2.2.2) ++ ((HO cQ h1 h2 mm oo zz) ++ ((MT cI (mm 0) (ma 0) M0) ++ ((MT cI (mm 1) (ma 1) M1) ++ ((MT cI (mm 2) (ma 2) M2) ++ (MT cI (mm 3) (ma 3) M3))))))) := hD
              refine k_behi (X := ((OB d0 n0 s0 h1 p0 t0 tk) ++ ((SW t0 rs de pc pg) ++ ((PW cI cC p0 pa sg ln po dd lt pl f1s s2s tms) ++ (MT cI s0 sa S))))) (Y := ((HO cQ h1 h2 mm oo zz) ++ ((MT cI (mm 0) (ma 0) M0) ++ ((MT cI (mm 1) (ma 1) M1) ++ ((MT cI (mm 2) (ma 2) M2) ++ (MT cI (mm 3) (ma 3) M3)))))) (va_runV (As := [.int x1, .int x2, .int 2, .int x3]) (rest := []) ⟨hx, hb, hml, hown, hts⟩ (c_X1_lastsShaken l D cI cC cQ H.size n0 na N.1 N.2.1 N.2.2.1 N.2.2.2.1 N.2.2.2.2.1 N.2.2.2.2.2.1 N.2.2.2.2.2.2.1 N.2.2.2.2.2.2.2.1 N.2.2.2.2.2.2.2.2.1 N.2.2.2.2.2.2.2.2.2.1 N.2.2.2.2.2.2.2.2.2.2.1 N.2.2.2.2.2.2.2.2.2.2.2.1 N.2.2.2.2.2.2.2.2.2.2.2.2.1 N.2.2.2.2.2.2.2.2.2.2.2.2.2 x1 x2 2 x3 ((isIn4 c4))) (kcwV hts wd_ml_RX4_225 wd_im_yX1_lastsShaken wd_sel_yX1_lastsShaken wd_ini_RX1 wd_code_yX1_lastsShaken rfl rfl rfl hd_X1_lastsShaken ⟨Nat.le_of_ble_eq_true rfl, Nat.le_of_ble_eq_true rfl⟩) ⟨in_blind, va_recv hK (pa_l (pa_r hPs)) (ci := 1) (q0 := 0) rfl rfl, k_pre hK (pa_l (pa_r hPs)) (da_l (da_r hDs)) hN⟩ rfl rfl hl.1 rfl (lv_room (Nat.le_of_ble_eq_true rfl)) dX4_darkest_41 ⟨Nat.le_of_ble_eq_true rfl, Nat.le_of_ble_eq_true rfl⟩) hPs hDs hS hA (fun r25 u26 H locs hw27 hP hD hS => ?_)
              have hP : va_P D vwCl (DW cI cC cQ d0 n0 na s0 sa h1 h2 mm ma t0 p0 pa tk N S oo zz M0 M1 M2 M3 rs de pc pg sg ln po dd lt pl f1s s2s tms) H := hP
              have hD : va_D A (DW cI cC cQ d0 n0 na s0 sa h1 h2 mm ma t0 p0 pa tk N S oo zz M0 M1 M2 M3 rs de pc pg sg ln po dd lt pl f1s s2s tms) := hD
              have hw27 : r25 = (sh_X1_lastsShaken N.1 N.2.1 N.2.2.1 N.2.2.2.1 x1 x2 2 x3) := hw27
              subst hw27
              refine lv_if_eq (tgt := 50) hx hb dX4_darkest_44 (by decide) (fun c28 => ?_) (fun c28 => ?_)
              · have hq := it_pos hq c28
                refine lv_iinc (v := 1) (lv' := [(4, .int 1), (0, .ref d0), (1, .int x1), (2, .int x2), (3, .int x3)]) hx hb dX4_darkest_50 hl (k := 0) rfl (by decide) (by decide) rfl (fun ls hl => ?_)
                refine lv_goto (tgt := 26) hx hb dX4_darkest_53 (by decide) ?_
                refine lv_iload hx hb dX4_darkest_26 (lv_at hl 0 rfl) ?_
                refine lv_iconst (v := 1) hx hb dX4_darkest_28 (by decide) ?_
                refine lv_icmp_lt (tgt := 56) hx hb dX4_darkest_29 (by decide) (fun c9 => absurd c9 (by decide)) (fun _ => ?_)
                refine lv_aload_n hx hb dX4_darkest_32 rfl (lv_at hl 1 rfl) ?_
                refine va_get (D := D) (ci := 4) (v := .ref n0) (C := RX4) (T := TX4) (N := 6) hx hb hts inA4 hown hK hP 0 rfl rfl 0 (by decide) (hts _ wd_fl_RX4_10) (fun _ h9 => h9) rfl dX4_darkest_33 ?_
                refine lv_iload_n hx hb dX4_darkest_36 rfl (lv_at hl 2 rfl) ?_
                refine lv_iload_n hx hb dX4_darkest_37 rfl (lv_at hl 3 rfl) ?_
                refine lv_iload hx hb dX4_darkest_38 (lv_at hl 0 rfl) ?_
                refine lv_iload_n hx hb dX4_darkest_40 rfl (lv_at hl 4 rfl) ?_
                have hPs : va_P D vwCl (((OB d0 n0 s0 h1 p0 t0 tk) ++ ((SW t0 rs de pc pg) ++ ((PW cI cC p0 pa sg ln po dd lt pl f1s s2s tms) ++ (MT cI s0 sa S)))) ++ ((MW cI n0 na N.1 N.2.1 N.2.2.1 N.2.2.2.1 N.2.2.2.2.1 N.2.2.2.2.2.1 N.2.2.2.2.2.2.1 N.2.2.2.2.2.2.2.1 N.2.2.2.2.2.2.2.2.1 N.2.2.2.2.2.2.2.2.2.1 N.2.2.2.2.2.2.2.2.2.2.1 N.2.2.2.2.2.2.2.2.2.2.2.1 N.2.2.2.2.2.2.2.2.2.2.2.2.1 N.2.2.2.2.2.2.2.2.2.2.2.2.2) ++ ((HO cQ h1 h2 mm oo zz) ++ ((MT cI (mm 0) (ma 0) M0) ++ ((MT cI (mm 1) (ma 1) M1) ++ ((MT cI (mm 2) (ma 2) M2) ++ (MT cI (mm 3) (ma 3) M3))))))) H := hP
                have hDs : va_D A (((OB d0 n0 s0 h1 p0 t0 tk) ++ ((SW t0 rs de pc pg) ++ ((PW cI cC p0 pa sg ln po dd lt pl f1s s2s tms) ++ (MT cI s0 sa S)))) ++ ((MW cI n0 na N.1 N.2.1 N.2.2.1 N.2.2.2.1 N.2.2.2.2.1 N.2.2.2.2.2.1 N.2.2.2.2.2.2.1 N.2.2.2.2.2.2.2.1 N.2.2.2.2.2.2.2.2.1 N.2.2.2.2.2.2.2.2.2.1 N.2.2.2.2.2.2.2.2.2.2.1 N.2.2.2.2.2.2.2.2.2.2.2.1 N.2.2.2.2.2.2.2.2.2.2.2.2.1 N.2.2.2.2.2.2.2.2.2.2.2.2.2) ++ ((HO cQ h1 h2 mm oo zz) ++ ((MT cI (mm 0) (ma 0) M0) ++ ((MT cI (mm 1) (ma 1) M1) ++ ((MT cI (mm 2) (ma 2) M2) ++ (MT cI (mm 3) (ma 3) M3))))))) := hD
                refine k_behi (X := ((OB d0 n0 s0 h1 p0 t0 tk) ++ ((SW t0 rs de pc pg) ++ ((PW cI cC p0 pa sg ln po dd lt pl f1s s2s tms) ++ (MT cI s0 sa S))))) (Y := ((HO cQ h1 h2 mm oo zz) ++ ((MT cI (mm 0) (ma 0) M0) ++ ((MT cI (mm 1) (ma 1) M1) ++ ((MT cI (mm 2) (ma 2) M2) ++ (MT cI (mm 3) (ma 3) M3)))))) (va_runV (As := [.int x1, .int x2, .int 1, .int x3]) (rest := []) ⟨hx, hb, hml, hown, hts⟩ (c_X1_lastsShaken l D cI cC cQ H.size n0 na N.1 N.2.1 N.2.2.1 N.2.2.2.1 N.2.2.2.2.1 N.2.2.2.2.2.1 N.2.2.2.2.2.2.1 N.2.2.2.2.2.2.2.1 N.2.2.2.2.2.2.2.2.1 N.2.2.2.2.2.2.2.2.2.1 N.2.2.2.2.2.2.2.2.2.2.1 N.2.2.2.2.2.2.2.2.2.2.2.1 N.2.2.2.2.2.2.2.2.2.2.2.2.1 N.2.2.2.2.2.2.2.2.2.2.2.2.2 x1 x2 1 x3 ((isIn4 c4))) (kcwV hts wd_ml_RX4_225 wd_im_yX1_lastsShaken wd_sel_yX1_lastsShaken wd_ini_RX1 wd_code_yX1_lastsShaken rfl rfl rfl hd_X1_lastsShaken ⟨Nat.le_of_ble_eq_true rfl, Nat.le_of_ble_eq_true rfl⟩) ⟨in_blind, va_recv hK (pa_l (pa_r hPs)) (ci := 1) (q0 := 0) rfl rfl, k_pre hK (pa_l (pa_r hPs)) (da_l (da_r hDs)) hN⟩ rfl rfl hl.1 rfl (lv_room (Nat.le_of_ble_eq_true rfl)) dX4_darkest_41 ⟨Nat.le_of_ble_eq_true rfl, Nat.le_of_ble_eq_true rfl⟩) hPs hDs hS hA (fun r29 u30 H locs hw31 hP hD hS => ?_)
                have hP : va_P D vwCl (DW cI cC cQ d0 n0 na s0 sa h1 h2 mm ma t0 p0 pa tk N S oo zz M0 M1 M2 M3 rs de pc pg sg ln po dd lt pl f1s s2s tms) H := hP
                have hD : va_D A (DW cI cC cQ d0 n0 na s0 sa h1 h2 mm ma t0 p0 pa tk N S oo zz M0 M1 M2 M3 rs de pc pg sg ln po dd lt pl f1s s2s tms) := hD
                have hw31 : r29 = (sh_X1_lastsShaken N.1 N.2.1 N.2.2.1 N.2.2.2.1 x1 x2 1 x3) := hw31
                subst hw31
                refine lv_if_eq (tgt := 50) hx hb dX4_darkest_44 (by decide) (fun c32 => ?_) (fun c32 => ?_)
                · have hq := it_pos hq c32
                  refine lv_iinc (v := 0) (lv' := [(4, .int 0), (0, .ref d0), (1, .int x1), (2, .int x2), (3, .int x3)]) hx hb dX4_darkest_50 hl (k := 0) rfl (by decide) (by decide) rfl (fun ls hl => ?_)
                  refine lv_goto (tgt := 26) hx hb dX4_darkest_53 (by decide) ?_
                  refine lv_iload hx hb dX4_darkest_26 (lv_at hl 0 rfl) ?_
                  refine lv_iconst (v := 1) hx hb dX4_darkest_28 (by decide) ?_
                  refine lv_icmp_lt (tgt := 56) hx hb dX4_darkest_29 (by decide) (fun _ => ?_) (fun c9 => absurd c9 (by decide))
                  refine lv_bipush (v := (-4)) hx hb dX4_darkest_56 (by decide) ?_
                  exact hret _ _ _ _ ((-4)) () dX4_darkest_58 rfl (hq.symm.trans hX) hP hD hS
                · have hq := it_neg hq c32
                  refine lv_iload hx hb dX4_darkest_47 (lv_at hl 0 rfl) ?_
                  exact hret _ _ _ _ (1) () dX4_darkest_49 rfl (hq.symm.trans hX) hP hD hS
              · have hq := it_neg hq c28
                refine lv_iload hx hb dX4_darkest_47 (lv_at hl 0 rfl) ?_
                exact hret _ _ _ _ (2) () dX4_darkest_49 rfl (hq.symm.trans hX) hP hD hS
            · have hq := it_neg hq c24
              refine lv_iload hx hb dX4_darkest_47 (lv_at hl 0 rfl) ?_
              exact hret _ _ _ _ (3) () dX4_darkest_49 rfl (hq.symm.trans hX) hP hD hS
          · have hq := it_neg hq c20
            refine lv_iload hx hb dX4_darkest_47 (lv_at hl 0 rfl) ?_
            exact hret _ _ _ _ (4) () dX4_darkest_49 rfl (hq.symm.trans hX) hP hD hS
        · have hq := it_neg hq c16
          refine lv_iload hx hb dX4_darkest_47 (lv_at hl 0 rfl) ?_
          exact hret _ _ _ _ (5) () dX4_darkest_49 rfl (hq.symm.trans hX) hP hD hS
      · have hq := it_pos hq c12
        refine lv_iconst (v := (-1)) hx hb dX4_darkest_21 (by decide) ?_
        exact hret _ _ _ _ ((-1)) () dX4_darkest_22 rfl (hq.symm.trans hX) hP hD hS
def sh_X4_why (rs : Int32) (de : Int32) (pc : Int32) (pg : Int32) (x1 : Int32) : Int32 := (if x1 = 0 then rs else (if x1 = 1 then de else (if x1 = 2 then pc else (if x1 = 3 then pg else (-1 : Int32)))))
abbrev rm_X4_why : Room := { frames := 0, cells := 0, slots := 0, locals := 0 }
theorem hd_X4_why : hdT yX4_why 1 := by decide +kernel
set_option maxHeartbeats 40000000 in
set_option maxRecDepth 100000 in
theorem c_X4_why (l : Launch) (D : va_G) (cI cC cQ : ClassId) (sz : Nat) (d0 : Nat) (n0 : Nat) (na : Nat → Nat) (s0 : Nat) (sa : Nat → Nat) (h1 : Nat) (h2 : Nat) (mm : Nat → Nat) (ma : Nat → Nat → Nat) (t0 : Nat) (p0 : Nat) (pa : Nat → Nat) (tk : Int32) (N : TMa) (S : TMa) (oo : Int32) (zz : Int32) (M0 : TMa) (M1 : TMa) (M2 : TMa) (M3 : TMa) (rs : Int32) (de : Int32) (pc : Int32) (pg : Int32) (sg : Nat → Int32) (ln : Int32) (po : Int32) (dd : Int32) (lt : Nat → Int32) (pl : Nat → Int32) (f1s : Nat → Int32) (s2s : Nat → Int32) (tms : Nat → Int32) (x1 : Int32)  : Met l yX4_why (wsO yX4_why cX4_why 2 (some .int)) rm_X4_why (va_Pc [.ref d0, .int x1] (inW D (TYS cI cC cQ) (DW cI cC cQ d0 n0 na s0 sa h1 h2 mm ma t0 p0 pa tk N S oo zz M0 M1 M2 M3 rs de pc pg sg ln po dd lt pl f1s s2s tms) sz)) (va_Qi (fun (r : Int32) (_ : Unit) => r = sh_X4_why rs de pc pg x1) (fun (u : Unit) => atW D (TYS cI cC cQ) (va_A (DW cI cC cQ d0 n0 na s0 sa h1 h2 mm ma t0 p0 pa tk N S oo zz M0 M1 M2 M3 rs de pc pg sg ln po dd lt pl f1s s2s tms) sz) (DW cI cC cQ d0 n0 na s0 sa h1 h2 mm ma t0 p0 pa tk N S oo zz M0 M1 M2 M3 rs de pc pg sg ln po dd lt pl f1s s2s tms)) (va_A (DW cI cC cQ d0 n0 na s0 sa h1 h2 mm ma t0 p0 pa tk N S oo zz M0 M1 M2 M3 rs de pc pg sg ln po dd lt pl f1s s2s tms) sz)) 0 0 (va_A (DW cI cC cQ d0 n0 na s0 sa h1 h2 mm ma t0 p0 pa tk N S oo zz M0 M1 M2 M3 rs de pc pg sg ln po dd lt pl f1s s2s tms) sz) := by
  refine k_meti .int rfl (by decide) (Nat.le_of_ble_eq_true rfl) ?_
  intro p e s m args below meth c A ls Q H locs hargs hret hx hb hts hown hml hname hN hA hS hP hK hD hl
  have hl : lv_has ls 2 [(0, .ref d0), (1, .int x1)] := hl
  obtain ⟨Xq, hX⟩ : ∃ Xq, Xq = sh_X4_why rs de pc pg x1 := ⟨_, rfl⟩
  have hq : Xq = (if x1 = 0 then rs else (if x1 = 1 then de else (if x1 = 2 then pc else (if x1 = 3 then pg else (-1 : Int32))))) := hX
  refine lv_iload_n hx hb dX4_why_0 rfl (lv_at hl 1 rfl) ?_
  by_cases c1 : x1 = 0
  · have hq := it_pos hq c1
    refine lv_tableIn (tgt := 32) hx hb dX4_why_1 (by rw [c1]; decide) (by rw [c1]; decide) (by rw [c1] <;> rfl) (by decide) ?_
    refine lv_aload_n hx hb dX4_why_32 rfl (lv_at hl 0 rfl) ?_
    refine va_get (D := D) (ci := 4) (v := .ref t0) (C := RX4) (T := TX4) (N := 6) hx hb hts inA4 hown hK hP 0 rfl rfl 5 (by decide) (hts _ wd_fl_RX4_40) (fun _ h9 => h9) rfl dX4_why_33 ?_
    refine va_get (D := D) (ci := 3) (v := .int rs) (C := RX3) (T := TX3) (N := 4) hx hb hts inA3 hown hK hP 1 rfl rfl 0 (by decide) (hts _ wd_fl_RX4_126) (fun _ h9 => h9) rfl dX4_why_36 ?_
    exact hret _ _ _ _ (rs) () dX4_why_39 rfl (hq.symm.trans hX) hP hD hS
  have hq := it_neg hq c1
  by_cases c2 : x1 = 1
  · have hq := it_pos hq c2
    refine lv_tableIn (tgt := 40) hx hb dX4_why_1 (by rw [c2]; decide) (by rw [c2]; decide) (by rw [c2] <;> rfl) (by decide) ?_
    refine lv_aload_n hx hb dX4_why_40 rfl (lv_at hl 0 rfl) ?_
    refine va_get (D := D) (ci := 4) (v := .ref t0) (C := RX4) (T := TX4) (N := 6) hx hb hts inA4 hown hK hP 0 rfl rfl 5 (by decide) (hts _ wd_fl_RX4_40) (fun _ h9 => h9) rfl dX4_why_41 ?_
    refine va_get (D := D) (ci := 3) (v := .int de) (C := RX3) (T := TX3) (N := 4) hx hb hts inA3 hown hK hP 1 rfl rfl 1 (by decide) (hts _ wd_fl_RX4_129) (fun _ h9 => h9) rfl dX4_why_44 ?_
    exact hret _ _ _ _ (de) () dX4_why_47 rfl (hq.symm.trans hX) hP hD hS
  have hq := it_neg hq c2
  by_cases c3 : x1 = 2
  · have hq := it_pos hq c3
    refine lv_tableIn (tgt := 48) hx hb dX4_why_1 (by rw [c3]; decide) (by rw [c3]; decide) (by rw [c3] <;> rfl) (by decide) ?_
    refine lv_aload_n hx hb dX4_why_48 rfl (lv_at hl 0 rfl) ?_
    refine va_get (D := D) (ci := 4) (v := .ref t0) (C := RX4) (T := TX4) (N := 6) hx hb hts inA4 hown hK hP 0 rfl rfl 5 (by decide) (hts _ wd_fl_RX4_40) (fun _ h9 => h9) rfl dX4_why_49 ?_
    refine va_get (D := D) (ci := 3) (v := .int pc) (C := RX3) (T := TX3) (N := 4) hx hb hts inA3 hown hK hP 1 rfl rfl 2 (by decide) (hts _ wd_fl_RX4_132) (fun _ h9 => h9) rfl dX4_why_52 ?_
    exact hret _ _ _ _ (pc) () dX4_why_55 rfl (hq.symm.trans hX) hP hD hS
  have hq := it_neg hq c3
  by_cases c4 : x1 = 3
  · have hq := it_pos hq c4
    refine lv_tableIn (tgt := 56) hx hb dX4_why_1 (by rw [c4]; decide) (by rw [c4]; decide) (by rw [c4] <;> rfl) (by decide) ?_
    refine lv_aload_n hx hb dX4_why_56 rfl (lv_at hl 0 rfl) ?_
    refine va_get (D := D) (ci := 4) (v := .ref t0) (C := RX4) (T := TX4) (N := 6) hx hb hts inA4 hown hK hP 0 rfl rfl 5 (by decide) (hts _ wd_fl_RX4_40) (fun _ h9 => h9) rfl dX4_why_57 ?_
    refine va_get (D := D) (ci := 3) (v := .int pg) (C := RX3) (T := TX3) (N := 4) hx hb hts inA3 hown hK hP 1 rfl rfl 3 (by decide) (hts _ wd_fl_RX4_135) (fun _ h9 => h9) rfl dX4_why_60 ?_
    exact hret _ _ _ _ (pg) () dX4_why_63 rfl (hq.symm.trans hX) hP hD hS
  have hq := it_neg hq c4
  refine lv_tableOut (tgt := 64) hx hb dX4_why_1 (k_out4 c1 c2 c3 c4) (by decide) ?_
  refine lv_iconst (v := (-1)) hx hb dX4_why_64 (by decide) ?_
  exact hret _ _ _ _ ((-1)) () dX4_why_65 rfl (hq.symm.trans hX) hP hD hS
