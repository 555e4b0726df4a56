theorem in4 {x : Int32} (h : ¬ x < 0) (c : x < 4) : vp_in x 4 := by
  rw [vp_in_iff]
  rw [Int32.lt_iff_toInt_lt] at h c
  have : (0 : Int32).toInt = 0 := rfl
  have : (4 : Int32).toInt = 4 := rfl
  omega
def sh_X4_set (N : TMa) (oo : Int32) (zz : Int32) (M0 : TMa) (M1 : TMa) (M2 : TMa) (M3 : TMa) (x1 : Int32) (x2 : Int32) : Int32 × (TMa) × (Int32) × (Int32) × (TMa) × (TMa) × (TMa) × (TMa) := (if x1 < 0 then ((-1 : Int32), N, oo, zz, M0, M1, M2, M3) else (if x1 < 4 then (if x2 < (lowF x1.toNatClampNeg) then ((-1 : Int32), N, oo, zz, M0, M1, M2, M3) else (if x2 ≤ (highF x1.toNatClampNeg) then (kb (sh_X0_keep N oo zz M0 M1 M2 M3) (fun z_v8 => ((N.1 x1.toNatClampNeg), ((upd N.1 x1.toNatClampNeg x2), N.2.1, N.2.2.1, N.2.2.2.1, N.2.2.2.2.1, N.2.2.2.2.2.1, N.2.2.2.2.2.2.1, N.2.2.2.2.2.2.2.1, N.2.2.2.2.2.2.2.2.1, N.2.2.2.2.2.2.2.2.2.1, N.2.2.2.2.2.2.2.2.2.2.1, N.2.2.2.2.2.2.2.2.2.2.2.1, N.2.2.2.2.2.2.2.2.2.2.2.2.1, N.2.2.2.2.2.2.2.2.2.2.2.2.2), z_v8.1, z_v8.2.1, z_v8.2.2.1, z_v8.2.2.2.1, z_v8.2.2.2.2.1, z_v8.2.2.2.2.2))) else ((-1 : Int32), N, oo, zz, M0, M1, M2, M3))) else ((-1 : Int32), N, oo, zz, M0, M1, M2, M3)))
abbrev rm_X4_set : Room := { frames := 3, cells := 0, slots := 0, locals := 60 }
theorem hd_X4_set : hdT yX4_set 2 := by decide +kernel
set_option maxHeartbeats 40000000 in
set_option maxRecDepth 100000 in
theorem c_X4_set (l : Launch) (D : va_G) (cI cC cQ : ClassId) (sz : Nat) (d0 : Nat) (n0 : Nat) (na : Nat → Nat) (s0 : Nat) (sa : Nat → Nat) (h1 : Nat) (h2 : Nat) (mm : Nat → Nat) (ma : Nat → Nat → Nat) (t0 : Nat) (p0 : Nat) (pa : Nat → Nat) (tk : Int32) (N : TMa) (S : TMa) (oo : Int32) (zz : Int32) (M0 : TMa) (M1 : TMa) (M2 : TMa) (M3 : TMa) (rs : Int32) (de : Int32) (pc : Int32) (pg : Int32) (sg : Nat → Int32) (ln : Int32) (po : Int32) (dd : Int32) (lt : Nat → Int32) (pl : Nat → Int32) (f1s : Nat → Int32) (s2s : Nat → Int32) (tms : Nat → Int32) (x1 : Int32) (x2 : Int32) (hoo : vp_in oo 4) (hzz : vp_in zz 5) : Met l yX4_set (wsO yX4_set cX4_set 4 (some .int)) rm_X4_set (va_Pc [.ref d0, .int x1, .int x2] (inZ D (TYS cI cC cQ) (DW cI cC cQ d0 n0 na s0 sa h1 h2 mm ma t0 p0 pa tk N S oo zz M0 M1 M2 M3 rs de pc pg sg ln po dd lt pl f1s s2s tms) sz)) (va_Qi (fun (r : Int32) (u : (TMa) × (Int32) × (Int32) × (TMa) × (TMa) × (TMa) × (TMa)) => (r, u) = sh_X4_set N oo zz M0 M1 M2 M3 x1 x2) (fun (u : (TMa) × (Int32) × (Int32) × (TMa) × (TMa) × (TMa) × (TMa)) => atW D (TYS cI cC cQ) (va_A (DW cI cC cQ d0 n0 na s0 sa h1 h2 mm ma t0 p0 pa tk N S oo zz M0 M1 M2 M3 rs de pc pg sg ln po dd lt pl f1s s2s tms) sz) (DW cI cC cQ d0 n0 na s0 sa h1 h2 mm ma t0 p0 pa tk u.1 S u.2.1 u.2.2.1 u.2.2.2.1 u.2.2.2.2.1 u.2.2.2.2.2.1 u.2.2.2.2.2.2 rs de pc pg sg ln po dd lt pl f1s s2s tms)) (va_A (DW cI cC cQ d0 n0 na s0 sa h1 h2 mm ma t0 p0 pa tk N S oo zz M0 M1 M2 M3 rs de pc pg sg ln po dd lt pl f1s s2s tms) sz)) 0 0 (va_A (DW cI cC cQ d0 n0 na s0 sa h1 h2 mm ma t0 p0 pa tk N S oo zz M0 M1 M2 M3 rs de pc pg sg ln po dd lt pl f1s s2s tms) sz) := by
  refine k_metZ .int rfl (by decide) (Nat.le_of_ble_eq_true rfl) ?_
  intro p e s m args below meth c A ls Q H locs hargs hZ hret hx hb hts hown hml hname hN hA hS hP hK hD hl
  have hl : lv_has ls 4 [(0, .ref d0), (1, .int x1), (2, .int x2)] := hl
  obtain ⟨⟨tLO, hZLO, hTLO⟩, tHI, hZHI, hTHI⟩ := hZ
  obtain ⟨Xq, hX⟩ : ∃ Xq, Xq = sh_X4_set N oo zz M0 M1 M2 M3 x1 x2 := ⟨_, rfl⟩
  have hq : Xq = (if x1 < 0 then ((-1 : Int32), N, oo, zz, M0, M1, M2, M3) else (if x1 < 4 then (if x2 < (lowF x1.toNatClampNeg) then ((-1 : Int32), N, oo, zz, M0, M1, M2, M3) else (if x2 ≤ (highF x1.toNatClampNeg) then (kb (sh_X0_keep N oo zz M0 M1 M2 M3) (fun z_v8 => ((N.1 x1.toNatClampNeg), ((upd N.1 x1.toNatClampNeg x2), N.2.1, N.2.2.1, N.2.2.2.1, N.2.2.2.2.1, N.2.2.2.2.2.1, N.2.2.2.2.2.2.1, N.2.2.2.2.2.2.2.1, N.2.2.2.2.2.2.2.2.1, N.2.2.2.2.2.2.2.2.2.1, N.2.2.2.2.2.2.2.2.2.2.1, N.2.2.2.2.2.2.2.2.2.2.2.1, N.2.2.2.2.2.2.2.2.2.2.2.2.1, N.2.2.2.2.2.2.2.2.2.2.2.2.2), z_v8.1, z_v8.2.1, z_v8.2.2.1, z_v8.2.2.2.1, z_v8.2.2.2.2.1, z_v8.2.2.2.2.2))) else ((-1 : Int32), N, oo, zz, M0, M1, M2, M3))) else ((-1 : Int32), N, oo, zz, M0, M1, M2, M3))) := hX
  refine lv_iload_n hx hb dX4_set_0 rfl (lv_at hl 1 rfl) ?_
  refine lv_if_lt (tgt := 9) hx hb dX4_set_1 (by decide) (fun c1 => ?_) (fun c1 => ?_)
  · have hq := it_pos hq c1
    refine lv_iconst (v := (-1)) hx hb dX4_set_9 (by decide) ?_
    exact hret _ _ _ _ ((-1)) (N, oo, zz, M0, M1, M2, M3) dX4_set_10 rfl (hq.symm.trans hX) hP hD hS
  · have hq := it_neg hq c1
    refine lv_iload_n hx hb dX4_set_4 rfl (lv_at hl 1 rfl) ?_
    refine lv_iconst (v := 4) hx hb dX4_set_5 (by decide) ?_
    refine lv_icmp_lt (tgt := 11) hx hb dX4_set_6 (by decide) (fun c2 => ?_) (fun c2 => ?_)
    · have hq := it_pos hq c2
      refine lv_iload_n hx hb dX4_set_11 rfl (lv_at hl 2 rfl) ?_
      refine va_gets hx hb hZLO hS hown (hts _ wd_fl_RX4_86) (fun _ h9 => h9) dX4_set_12 ?_
      refine lv_iload_n hx hb dX4_set_15 rfl (lv_at hl 1 rfl) ?_
      refine va_ti hx hb hTLO hS (in4 c1 c2) (v := .int (lowF x1.toNatClampNeg)) rfl dX4_set_16 ?_
      refine lv_icmp_lt (tgt := 29) hx hb dX4_set_17 (by decide) (fun c3 => ?_) (fun c3 => ?_)
      · have hq := it_pos hq c3
        refine lv_iconst (v := (-1)) hx hb dX4_set_29 (by decide) ?_
        exact hret _ _ _ _ ((-1)) (N, oo, zz, M0, M1, M2, M3) dX4_set_30 rfl (hq.symm.trans hX) hP hD hS
      · have hq := it_neg hq c3
        refine lv_iload_n hx hb dX4_set_20 rfl (lv_at hl 2 rfl) ?_
        refine va_gets hx hb hZHI hS hown (hts _ wd_fl_RX4_89) (fun _ h9 => h9) dX4_set_21 ?_
        refine lv_iload_n hx hb dX4_set_24 rfl (lv_at hl 1 rfl) ?_
        refine va_ti hx hb hTHI hS (in4 c1 c2) (v := .int (highF x1.toNatClampNeg)) rfl dX4_set_25 ?_
        refine lv_icmp_le (tgt := 31) hx hb dX4_set_26 (by decide) (fun c4 => ?_) (fun c4 => ?_)
        · have hq := it_pos hq c4
          refine lv_aload_n hx hb dX4_set_31 rfl (lv_at hl 0 rfl) ?_
          refine va_get (D := D) (ci := 4) (v := .ref h1) (C := RX4) (T := TX4) (N := 6) hx hb hts inA4 hown hK hP 0 rfl rfl 3 (by decide) (hts _ wd_fl_RX4_26) (fun _ h9 => h9) rfl dX4_set_32 ?_
          refine lv_aload_n hx hb dX4_set_35 rfl (lv_at hl 0 rfl) ?_
          refine va_get (D := D) (ci := 4) (v := .ref n0) (C := RX4) (T := TX4) (N := 6) hx hb hts inA4 hown hK hP 0 rfl rfl 0 (by decide) (hts _ wd_fl_RX4_10) (fun _ h9 => h9) rfl dX4_set_36 ?_
          have hPs : va_P D vwCl (((OB d0 n0 s0 h1 p0 t0 tk) ++ ((SW t0 rs de pc pg) ++ ((PW cI cC p0 pa sg ln po dd lt pl f1s s2s tms) ++ (MT cI s0 sa S)))) ++ ((KW cI cQ n0 na h1 h2 mm ma N oo zz M0 M1 M2 M3) ++ [])) H := hP
          have hDs : va_D A (((OB d0 n0 s0 h1 p0 t0 tk) ++ ((SW t0 rs de pc pg) ++ ((PW cI cC p0 pa sg ln po dd lt pl f1s s2s tms) ++ (MT cI s0 sa S)))) ++ ((KW cI cQ n0 na h1 h2 mm ma N oo zz M0 M1 M2 M3) ++ [])) := hD
          refine k_behv (X := ((OB d0 n0 s0 h1 p0 t0 tk) ++ ((SW t0 rs de pc pg) ++ ((PW cI cC p0 pa sg ln po dd lt pl f1s s2s tms) ++ (MT cI s0 sa S))))) (Y := []) (va_runV (As := [.ref n0]) (rest := []) ⟨hx, hb, hml, hown, hts⟩ (c_X0_keep l D cI cC cQ H.size n0 na h1 h2 mm ma N oo zz M0 M1 M2 M3 (hoo) (hzz)) (kcwV hts wd_ml_RX4_51 wd_im_yX0_keep wd_sel_yX0_keep wd_ini_RX0 wd_code_yX0_keep rfl rfl rfl hd_X0_keep ⟨Nat.le_of_ble_eq_true rfl, Nat.le_of_ble_eq_true rfl⟩) ⟨in_blind, va_recv hK (pa_l (pa_r hPs)) (ci := 0) (q0 := 12) rfl rfl, k_pre hK (pa_l (pa_r hPs)) (da_l (da_r hDs)) hN⟩ rfl rfl hl.1 rfl (lv_room (Nat.le_of_ble_eq_true rfl)) dX4_set_39 ⟨Nat.le_of_ble_eq_true rfl, Nat.le_of_ble_eq_true rfl⟩) hPs hDs hS hA (fun u6 H locs hw7 hP hD hS => ?_)
          obtain ⟨v8, v9, t10, t11, t12, t13⟩ := u6
          have hP : va_P D vwCl (DW cI cC cQ d0 n0 na s0 sa h1 h2 mm ma t0 p0 pa tk N S v8 v9 t10 t11 t12 t13 rs de pc pg sg ln po dd lt pl f1s s2s tms) H := hP
          have hD : va_D A (DW cI cC cQ d0 n0 na s0 sa h1 h2 mm ma t0 p0 pa tk N S v8 v9 t10 t11 t12 t13 rs de pc pg sg ln po dd lt pl f1s s2s tms) := hD
          have hw7 : (v8, v9, t10, t11, t12, t13) = (sh_X0_keep N oo zz M0 M1 M2 M3) := hw7
          have hq := kb_to hq hw7
          refine lv_aload_n hx hb dX4_set_42 rfl (lv_at hl 0 rfl) ?_
          refine va_get (D := D) (ci := 4) (v := .ref n0) (C := RX4) (T := TX4) (N := 6) hx hb hts inA4 hown hK hP 0 rfl rfl 0 (by decide) (hts _ wd_fl_RX4_10) (fun _ h9 => h9) rfl dX4_set_43 ?_
          refine va_get (D := D) (ci := 1) (v := .ref (na 0)) (C := RX1) (T := TX1) (N := 14) hx hb hts inA1 hown hK hP 21 rfl rfl 0 (by decide) (hts _ wd_fl_RX4_92) (fun _ h9 => h9) rfl dX4_set_46 ?_
          refine lv_iload_n hx hb dX4_set_49 rfl (lv_at hl 1 rfl) ?_
          refine va_iald hx hb hK hP 22 0 rfl rfl (in4 c1 c2) dX4_set_50 ?_
          refine lv_istore_n (lv' := [(3, .int (N.1 x1.toNatClampNeg)), (0, .ref d0), (1, .int x1), (2, .int x2)]) hx hb dX4_set_51 rfl hl (by decide) rfl (fun ls hl => ?_)
          refine lv_aload_n hx hb dX4_set_52 rfl (lv_at hl 1 rfl) ?_
          refine va_get (D := D) (ci := 4) (v := .ref n0) (C := RX4) (T := TX4) (N := 6) hx hb hts inA4 hown hK hP 0 rfl rfl 0 (by decide) (hts _ wd_fl_RX4_10) (fun _ h9 => h9) rfl dX4_set_53 ?_
          refine va_get (D := D) (ci := 1) (v := .ref (na 0)) (C := RX1) (T := TX1) (N := 14) hx hb hts inA1 hown hK hP 21 rfl rfl 0 (by decide) (hts _ wd_fl_RX4_92) (fun _ h9 => h9) rfl dX4_set_56 ?_
          refine lv_iload_n hx hb dX4_set_59 rfl (lv_at hl 2 rfl) ?_
          refine lv_iload_n hx hb dX4_set_60 rfl (lv_at hl 3 rfl) ?_
          refine va_iast hx hb hK hP hD hS 22 0 rfl rfl (in4 c1 c2) dX4_set_61 (fun H locs hP hD hS => ?_)
          have hP : va_P D vwCl (DW cI cC cQ d0 n0 na s0 sa h1 h2 mm ma t0 p0 pa tk ((upd N.1 x1.toNatClampNeg x2), N.2.1, N.2.2.1, N.2.2.2.1, N.2.2.2.2.1, N.2.2.2.2.2.1, N.2.2.2.2.2.2.1, N.2.2.2.2.2.2.2.1, N.2.2.2.2.2.2.2.2.1, N.2.2.2.2.2.2.2.2.2.1, N.2.2.2.2.2.2.2.2.2.2.1, N.2.2.2.2.2.2.2.2.2.2.2.1, N.2.2.2.2.2.2.2.2.2.2.2.2.1, N.2.2.2.2.2.2.2.2.2.2.2.2.2) S v8 v9 t10 t11 t12 t13 rs de pc pg sg ln po dd lt pl f1s s2s tms) H := hP
          have hD : va_D A (DW cI cC cQ d0 n0 na s0 sa h1 h2 mm ma t0 p0 pa tk ((upd N.1 x1.toNatClampNeg x2), N.2.1, N.2.2.1, N.2.2.2.1, N.2.2.2.2.1, N.2.2.2.2.2.1, N.2.2.2.2.2.2.1, N.2.2.2.2.2.2.2.1, N.2.2.2.2.2.2.2.2.1, N.2.2.2.2.2.2.2.2.2.1, N.2.2.2.2.2.2.2.2.2.2.1, N.2.2.2.2.2.2.2.2.2.2.2.1, N.2.2.2.2.2.2.2.2.2.2.2.2.1, N.2.2.2.2.2.2.2.2.2.2.2.2.2) S v8 v9 t10 t11 t12 t13 rs de pc pg sg ln po dd lt pl f1s s2s tms) := hD
          refine lv_iload_n hx hb dX4_set_62 rfl (lv_at hl 0 rfl) ?_
          exact hret _ _ _ _ ((N.1 x1.toNatClampNeg)) (((upd N.1 x1.toNatClampNeg x2), N.2.1, N.2.2.1, N.2.2.2.1, N.2.2.2.2.1, N.2.2.2.2.2.1, N.2.2.2.2.2.2.1, N.2.2.2.2.2.2.2.1, N.2.2.2.2.2.2.2.2.1, N.2.2.2.2.2.2.2.2.2.1, N.2.2.2.2.2.2.2.2.2.2.1, N.2.2.2.2.2.2.2.2.2.2.2.1, N.2.2.2.2.2.2.2.2.2.2.2.2.1, N.2.2.2.2.2.2.2.2.2.2.2.2.2), v8, v9, t10, t11, t12, t13) dX4_set_63 rfl (hq.symm.trans hX) hP hD hS
        · have hq := it_neg hq c4
          refine lv_iconst (v := (-1)) hx hb dX4_set_29 (by decide) ?_
          exact hret _ _ _ _ ((-1)) (N, oo, zz, M0, M1, M2, M3) dX4_set_30 rfl (hq.symm.trans hX) hP hD hS
    · have hq := it_neg hq c2
      refine lv_iconst (v := (-1)) hx hb dX4_set_9 (by decide) ?_
      exact hret _ _ _ _ ((-1)) (N, oo, zz, M0, M1, M2, M3) dX4_set_10 rfl (hq.symm.trans hX) hP hD hS
def sh_X4_darkness (N : TMa) : UInt64 := (if ((sh_X1_darkOfAll N.2.2.2.2.2.2.1) + (sh_X1_lightOfAll N.2.2.2.2.2.2.2.1)) ≤ 0 then FP.dconst1 else (FP.ddiv (FP.i2d (sh_X1_darkOfAll N.2.2.2.2.2.2.1)) (FP.i2d ((sh_X1_darkOfAll N.2.2.2.2.2.2.1) + (sh_X1_lightOfAll N.2.2.2.2.2.2.2.1)))))
abbrev rm_X4_darkness : Room := { frames := 1, cells := 0, slots := 0, locals := 20 }
theorem hd_X4_darkness : hdT yX4_darkness 0 := by decide +kernel
set_option maxHeartbeats 40000000 in
set_option maxRecDepth 100000 in
theorem c_X4_darkness (l : Launch) (D : va_G) (cI cC cQ : ClassId) (sz : Nat) (d0 : Nat) (n0 : Nat) (na : Nat → Nat) (s0 : Nat) (sa : Nat → Nat) (h1 : Nat) (h2 : Nat) (mm : Nat → Nat) (ma : Nat → Nat → Nat) (t0 : Nat) (p0 : Nat) (pa : Nat → Nat) (tk : Int32) (N : TMa) (S : TMa) (oo : Int32) (zz : Int32) (M0 : TMa) (M1 : TMa) (M2 : TMa) (M3 : TMa) (rs : Int32) (de : Int32) (pc : Int32) (pg : Int32) (sg : Nat → Int32) (ln : Int32) (po : Int32) (dd : Int32) (lt : Nat → Int32) (pl : Nat → Int32) (f1s : Nat → Int32) (s2s : Nat → Int32) (tms : Nat → Int32)   : Met l yX4_darkness (wsO yX4_darkness cX4_darkness 3 (some .double)) rm_X4_darkness (va_Pc [.ref d0] (inW D (TYS cI cC cQ) (DW cI cC cQ d0 n0 na s0 sa h1 h2 mm ma t0 p0 pa tk N S oo zz M0 M1 M2 M3 rs de pc pg sg ln po dd lt pl f1s s2s tms) sz)) (va_Qd (fun (r : UInt64) (_ : Unit) => r = sh_X4_darkness N) (fun (u : Unit) => atW D (TYS cI cC cQ) (va_A (DW cI cC cQ d0 n0 na s0 sa h1 h2 mm ma t0 p0 pa tk N S oo zz M0 M1 M2 M3 rs de pc pg sg ln po dd lt pl f1s s2s tms) sz) (DW cI cC cQ d0 n0 na s0 sa h1 h2 mm ma t0 p0 pa tk N S oo zz M0 M1 M2 M3 rs de pc pg sg ln po dd lt pl f1s s2s tms)) (va_A (DW cI cC cQ d0 n0 na s0 sa h1 h2 mm ma t0 p0 pa tk N S oo zz M0 M1 M2 M3 rs de pc pg sg ln po dd lt pl f1s s2s tms) sz)) 0 0 (va_A (DW cI cC cQ d0 n0 na s0 sa h1 h2 mm ma t0 p0 pa tk N S oo zz M0 M1 M2 M3 rs de pc pg sg ln po dd lt pl f1s s2s tms) sz) := by
  refine k_metd rfl (by decide) (Nat.le_of_ble_eq_true rfl) ?_
  intro p e s m args below meth c A ls Q H locs hargs hret hx hb hts hown hml hname hN hA hS hP hK hD hl
  have hl : lv_has ls 3 [(0, .ref d0)] := hl
  obtain ⟨Xq, hX⟩ : ∃ Xq, Xq = sh_X4_darkness N := ⟨_, rfl⟩
  have hq : Xq = (if ((sh_X1_darkOfAll N.2.2.2.2.2.2.1) + (sh_X1_lightOfAll N.2.2.2.2.2.2.2.1)) ≤ 0 then FP.dconst1 else (FP.ddiv (FP.i2d (sh_X1_darkOfAll N.2.2.2.2.2.2.1)) (FP.i2d ((sh_X1_darkOfAll N.2.2.2.2.2.2.1) + (sh_X1_lightOfAll N.2.2.2.2.2.2.2.1))))) := hX
  refine lv_aload_n hx hb dX4_darkness_0 rfl (lv_at hl 0 rfl) ?_
  refine va_get (D := D) (ci := 4) (v := .ref n0) (C := RX4) (T := TX4) (N := 6) hx hb hts inA4 hown hK hP 0 rfl rfl 0 (by decide) (hts _ wd_fl_RX4_10) (fun _ h9 => h9) rfl dX4_darkness_1 ?_
  have hPs : va_P D vwCl (((OB d0 n0 s0 h1 p0 t0 tk) ++ ((SW t0 rs de pc pg) ++ ((PW cI cC p0 pa sg ln po dd lt pl f1s s2s tms) ++ (MT cI s0 sa S)))) ++ ((MW cI n0 na N.1 N.2.1 N.2.2.1 N.2.2.2.1 N.2.2.2.2.1 N.2.2.2.2.2.1 N.2.2.2.2.2.2.1 N.2.2.2.2.2.2.2.1 N.2.2.2.2.2.2.2.2.1 N.2.2.2.2.2.2.2.2.2.1 N.2.2.2.2.2.2.2.2.2.2.1 N.2.2.2.2.2.2.2.2.2.2.2.1 N.2.2.2.2.2.2.2.2.2.2.2.2.1 N.2.2.2.2.2.2.2.2.2.2.2.2.2) ++ ((HO cQ h1 h2 mm oo zz) ++ ((MT cI (mm 0) (ma 0) M0) ++ ((MT cI (mm 1) (ma 1) M1) ++ ((MT cI (mm 2) (ma 2) M2) ++ (MT cI (mm 3) (ma 3) M3))))))) H := hP
  have hDs : va_D A (((OB d0 n0 s0 h1 p0 t0 tk) ++ ((SW t0 rs de pc pg) ++ ((PW cI cC p0 pa sg ln po dd lt pl f1s s2s tms) ++ (MT cI s0 sa S)))) ++ ((MW cI n0 na N.1 N.2.1 N.2.2.1 N.2.2.2.1 N.2.2.2.2.1 N.2.2.2.2.2.1 N.2.2.2.2.2.2.1 N.2.2.2.2.2.2.2.1 N.2.2.2.2.2.2.2.2.1 N.2.2.2.2.2.2.2.2.2.1 N.2.2.2.2.2.2.2.2.2.2.1 N.2.2.2.2.2.2.2.2.2.2.2.1 N.2.2.2.2.2.2.2.2.2.2.2.2.1 N.2.2.2.2.2.2.2.2.2.2.2.2.2) ++ ((HO cQ h1 h2 mm oo zz) ++ ((MT cI (mm 0) (ma 0) M0) ++ ((MT cI (mm 1) (ma 1) M1) ++ ((MT cI (mm 2) (ma 2) M2) ++ (MT cI (mm 3) (ma 3) M3))))))) := hD
  refine k_behi (X := ((OB d0 n0 s0 h1 p0 t0 tk) ++ ((SW t0 rs de pc pg) ++ ((PW cI cC p0 pa sg ln po dd lt pl f1s s2s tms) ++ (MT cI s0 sa S))))) (Y := ((HO cQ h1 h2 mm oo zz) ++ ((MT cI (mm 0) (ma 0) M0) ++ ((MT cI (mm 1) (ma 1) M1) ++ ((MT cI (mm 2) (ma 2) M2) ++ (MT cI (mm 3) (ma 3) M3)))))) (va_runV (As := []) (rest := []) ⟨hx, hb, hml, hown, hts⟩ (c_X1_darkOfAll l D cI cC cQ H.size n0 na N.1 N.2.1 N.2.2.1 N.2.2.2.1 N.2.2.2.2.1 N.2.2.2.2.2.1 N.2.2.2.2.2.2.1 N.2.2.2.2.2.2.2.1 N.2.2.2.2.2.2.2.2.1 N.2.2.2.2.2.2.2.2.2.1 N.2.2.2.2.2.2.2.2.2.2.1 N.2.2.2.2.2.2.2.2.2.2.2.1 N.2.2.2.2.2.2.2.2.2.2.2.2.1 N.2.2.2.2.2.2.2.2.2.2.2.2.2 ) (kcwV hts wd_ml_RX4_194 wd_im_yX1_darkOfAll wd_sel_yX1_darkOfAll wd_ini_RX1 wd_code_yX1_darkOfAll rfl rfl rfl hd_X1_darkOfAll ⟨Nat.le_of_ble_eq_true rfl, Nat.le_of_ble_eq_true rfl⟩) ⟨in_blind, va_recv hK (pa_l (pa_r hPs)) (ci := 1) (q0 := 0) rfl rfl, k_pre hK (pa_l (pa_r hPs)) (da_l (da_r hDs)) hN⟩ rfl rfl hl.1 rfl (lv_room (Nat.le_of_ble_eq_true rfl)) dX4_darkness_4 ⟨Nat.le_of_ble_eq_true rfl, Nat.le_of_ble_eq_true rfl⟩) hPs hDs hS hA (fun r1 u2 H locs hw3 hP hD hS => ?_)
  have hP : va_P D vwCl (DW cI cC cQ d0 n0 na s0 sa h1 h2 mm ma t0 p0 pa tk N S oo zz M0 M1 M2 M3 rs de pc pg sg ln po dd lt pl f1s s2s tms) H := hP
  have hD : va_D A (DW cI cC cQ d0 n0 na s0 sa h1 h2 mm ma t0 p0 pa tk N S oo zz M0 M1 M2 M3 rs de pc pg sg ln po dd lt pl f1s s2s tms) := hD
  have hw3 : r1 = (sh_X1_darkOfAll N.2.2.2.2.2.2.1) := hw3
  subst hw3
  refine lv_istore_n (lv' := [(1, .int (sh_X1_darkOfAll N.2.2.2.2.2.2.1)), (0, .ref d0)]) hx hb dX4_darkness_7 rfl hl (by decide) rfl (fun ls hl => ?_)
  refine lv_iload_n hx hb dX4_darkness_8 rfl (lv_at hl 0 rfl) ?_
  refine lv_aload_n hx hb dX4_darkness_9 rfl (lv_at hl 1 rfl) ?_
  refine va_get (D := D) (ci := 4) (v := .ref n0) (C := RX4) (T := TX4) (N := 6) hx hb hts inA4 hown hK hP 0 rfl rfl 0 (by decide) (hts _ wd_fl_RX4_10) (fun _ h9 => h9) rfl dX4_darkness_10 ?_
  have hPs : va_P D vwCl (((OB d0 n0 s0 h1 p0 t0 tk) ++ ((SW t0 rs de pc pg) ++ ((PW cI cC p0 pa sg ln po dd lt pl f1s s2s tms) ++ (MT cI s0 sa S)))) ++ ((MW cI n0 na N.1 N.2.1 N.2.2.1 N.2.2.2.1 N.2.2.2.2.1 N.2.2.2.2.2.1 N.2.2.2.2.2.2.1 N.2.2.2.2.2.2.2.1 N.2.2.2.2.2.2.2.2.1 N.2.2.2.2.2.2.2.2.2.1 N.2.2.2.2.2.2.2.2.2.2.1 N.2.2.2.2.2.2.2.2.2.2.2.1 N.2.2.2.2.2.2.2.2.2.2.2.2.1 N.2.2.2.2.2.2.2.2.2.2.2.2.2) ++ ((HO cQ h1 h2 mm oo zz) ++ ((MT cI (mm 0) (ma 0) M0) ++ ((MT cI (mm 1) (ma 1) M1) ++ ((MT cI (mm 2) (ma 2) M2) ++ (MT cI (mm 3) (ma 3) M3))))))) H := hP
  have hDs : va_D A (((OB d0 n0 s0 h1 p0 t0 tk) ++ ((SW t0 rs de pc pg) ++ ((PW cI cC p0 pa sg ln po dd lt pl f1s s2s tms) ++ (MT cI s0 sa S)))) ++ ((MW cI n0 na N.1 N.2.1 N.2.2.1 N.2.2.2.1 N.2.2.2.2.1 N.2.2.2.2.2.1 N.2.2.2.2.2.2.1 N.2.2.2.2.2.2.2.1 N.2.2.2.2.2.2.2.2.1 N.2.2.2.2.2.2.2.2.2.1 N.2.2.2.2.2.2.2.2.2.2.1 N.2.2.2.2.2.2.2.2.2.2.2.1 N.2.2.2.2.2.2.2.2.2.2.2.2.1 N.2.2.2.2.2.2.2.2.2.2.2.2.2) ++ ((HO cQ h1 h2 mm oo zz) ++ ((MT cI (mm 0) (ma 0) M0) ++ ((MT cI (mm 1) (ma 1) M1) ++ ((MT cI (mm 2) (ma 2) M2) ++ (MT cI (mm 3) (ma 3) M3))))))) := hD
  refine k_behi (X := ((OB d0 n0 s0 h1 p0 t0 tk) ++ ((SW t0 rs de pc pg) ++ ((PW cI cC p0 pa sg ln po dd lt pl f1s s2s tms) ++ (MT cI s0 sa S))))) (Y := ((HO cQ h1 h2 mm oo zz) ++ ((MT cI (mm 0) (ma 0) M0) ++ ((MT cI (mm 1) (ma 1) M1) ++ ((MT cI (mm 2) (ma 2) M2) ++ (MT cI (mm 3) (ma 3) M3)))))) (va_runV (As := []) (rest := [.int (sh_X1_darkOfAll N.2.2.2.2.2.2.1)]) ⟨hx, hb, hml, hown, hts⟩ (c_X1_lightOfAll l D cI cC cQ H.size n0 na N.1 N.2.1 N.2.2.1 N.2.2.2.1 N.2.2.2.2.1 N.2.2.2.2.2.1 N.2.2.2.2.2.2.1 N.2.2.2.2.2.2.2.1 N.2.2.2.2.2.2.2.2.1 N.2.2.2.2.2.2.2.2.2.1 N.2.2.2.2.2.2.2.2.2.2.1 N.2.2.2.2.2.2.2.2.2.2.2.1 N.2.2.2.2.2.2.2.2.2.2.2.2.1 N.2.2.2.2.2.2.2.2.2.2.2.2.2 ) (kcwV hts wd_ml_RX4_197 wd_im_yX1_lightOfAll wd_sel_yX1_lightOfAll wd_ini_RX1 wd_code_yX1_lightOfAll rfl rfl rfl hd_X1_lightOfAll ⟨Nat.le_of_ble_eq_true rfl, Nat.le_of_ble_eq_true rfl⟩) ⟨in_blind, va_recv hK (pa_l (pa_r hPs)) (ci := 1) (q0 := 0) rfl rfl, k_pre hK (pa_l (pa_r hPs)) (da_l (da_r hDs)) hN⟩ rfl rfl hl.1 rfl (lv_room (Nat.le_of_ble_eq_true rfl)) dX4_darkness_13 ⟨Nat.le_of_ble_eq_true rfl, Nat.le_of_ble_eq_true rfl⟩) hPs hDs hS hA (fun r4 u5 H locs hw6 hP hD hS => ?_)
  have hP : va_P D vwCl (DW cI cC cQ d0 n0 na s0 sa h1 h2 mm ma t0 p0 pa tk N S oo zz M0 M1 M2 M3 rs de pc pg sg ln po dd lt pl f1s s2s tms) H := hP
  have hD : va_D A (DW cI cC cQ d0 n0 na s0 sa h1 h2 mm ma t0 p0 pa tk N S oo zz M0 M1 M2 M3 rs de pc pg sg ln po dd lt pl f1s s2s tms) := hD
  have hw6 : r4 = (sh_X1_lightOfAll N.2.2.2.2.2.2.2.1) := hw6
  subst hw6
  refine lv_iadd hx hb dX4_darkness_16 ?_
  refine lv_istore_n (lv' := [(2, .int ((sh_X1_darkOfAll N.2.2.2.2.2.2.1) + (sh_X1_lightOfAll N.2.2.2.2.2.2.2.1))), (1, .int (sh_X1_darkOfAll N.2.2.2.2.2.2.1)), (0, .ref d0)]) hx hb dX4_darkness_17 rfl hl (by decide) rfl (fun ls hl => ?_)
  refine lv_iload_n hx hb dX4_darkness_18 rfl (lv_at hl 0 rfl) ?_
  refine lv_if_le (tgt := 30) hx hb dX4_darkness_19 (by decide) (fun c7 => ?_) (fun c7 => ?_)
  · have hq := it_pos hq c7
    refine lv_dconst1 hx hb dX4_darkness_30 ?_
    exact hret _ _ _ _ (FP.dconst1) () dX4_darkness_31 (hq.symm.trans hX) hP hD hS
  · have hq := it_neg hq c7
    refine lv_iload_n hx hb dX4_darkness_22 rfl (lv_at hl 1 rfl) ?_
    refine lv_i2d hx hb dX4_darkness_23 ?_
    refine lv_iload_n hx hb dX4_darkness_24 rfl (lv_at hl 0 rfl) ?_
    refine lv_i2d hx hb dX4_darkness_25 ?_
    refine lv_ddiv hx hb dX4_darkness_26 (div_num (k_pos c7)) ?_
    refine lv_goto (tgt := 31) hx hb dX4_darkness_27 (by decide) ?_
    exact hret _ _ _ _ ((FP.ddiv (FP.i2d (sh_X1_darkOfAll N.2.2.2.2.2.2.1)) (FP.i2d ((sh_X1_darkOfAll N.2.2.2.2.2.2.1) + (sh_X1_lightOfAll N.2.2.2.2.2.2.2.1))))) () dX4_darkness_31 (hq.symm.trans hX) hP hD hS
def sh_X5_darkness (sv : Nat → Int32) : UInt64 := (if (sh_X5_allPages sv) = 0 then FP.dconst1 else (FP.ddiv (FP.i2d (sh_X5_darkPages sv)) (FP.i2d (sh_X5_allPages sv))))
