set_option maxHeartbeats 40000000 in
set_option maxRecDepth 100000 in
theorem law_12 {p : Program} {l : Launch} {e : Env} {s : State} {m : MethodId} {below : List Frame} {meth : Method} {c : Code} {b L : Nat} {xs : Nat → Int32} {D : va_G} {cI cC cQ : ClassId} {d0 n0 : Nat} {na : Nat → Nat} {s0 : Nat} {sa : Nat → Nat} {h1 h2 : Nat} {mm : Nat → Nat} {ma : Nat → Nat → Nat} {t0 p0 : Nat} {pA : Nat → Nat} {z0 : Nat} {za : Nat → Nat} {B : Int} {i : Int32} (F : FxL p s m meth c b L xs D cI cC cQ) (hi : vp_in (i + 1) L ∧ vp_in (i + 2) L ∧ vp_in (i + 3) L ∧ vp_in (i + 4) L) (hB : B ≤ 400000000) (go : GoL p l e s m below meth c b D cI cC cQ d0 n0 na s0 sa h1 h2 mm ma t0 p0 pA z0 za 830 (B + 10000) i) : GoL p l e s m below meth c b D cI cC cQ d0 n0 na s0 sa h1 h2 mm ma t0 p0 pA z0 za 440 B i := by
  intro tk N S oo zz M0 M1 M2 M3 rs de pc pg sg ln po dd lt pl f1s s2s tms sv pa pn sn kp pd l2 so p2 wr l5 fr sc tm hd st H locs ls hrel hP hD hS hl
  obtain ⟨hx, hb, hr, hlocks, hml, hown, hts, hX, hbl, hN, hK, hZ⟩ := F
  have hA : ∀ q : Nat, s.heap.size ≤ q → (fun q : Nat => s.heap.size ≤ q) q := fun _ h => h
  have hbA : ¬ (fun q : Nat => s.heap.size ≤ q) b := Nat.not_le.mpr hbl
  refine lv_aload_n hx hb dL_law_440 rfl (lv_at hl 2 rfl) ?_
  refine lv_aload_n hx hb dL_law_441 rfl (lv_at hl 3 rfl) ?_
  refine lv_iload_n hx hb dL_law_442 rfl (lv_at hl 0 rfl) ?_
  refine lv_iconst (v := 1) hx hb dL_law_443 (by decide) ?_
  refine lv_iadd hx hb dL_law_444 ?_
  refine va_sld hx hb hX hbl hbA hS hi.1 dL_law_445 ?_
  refine lv_aload_n hx hb dL_law_446 rfl (lv_at hl 3 rfl) ?_
  refine lv_iload_n hx hb dL_law_447 rfl (lv_at hl 0 rfl) ?_
  refine lv_iconst (v := 2) hx hb dL_law_448 (by decide) ?_
  refine lv_iadd hx hb dL_law_449 ?_
  refine va_sld hx hb hX hbl hbA hS hi.2.1 dL_law_450 ?_
  have hPs : va_P D vwCl (([] : va_W) ++ ((DW cI cC cQ d0 n0 na s0 sa h1 h2 mm ma t0 p0 pA tk N S oo zz M0 M1 M2 M3 rs de pc pg sg ln po dd lt pl f1s s2s tms) ++ (MO cI z0 za sv pa pn sn kp pd l2 so p2 wr l5 fr sc tm hd st))) H := hP
  have hDs : va_D (fun q : Nat => s.heap.size ≤ q) (([] : va_W) ++ ((DW cI cC cQ d0 n0 na s0 sa h1 h2 mm ma t0 p0 pA tk N S oo zz M0 M1 M2 M3 rs de pc pg sg ln po dd lt pl f1s s2s tms) ++ (MO cI z0 za sv pa pn sn kp pd l2 so p2 wr l5 fr sc tm hd st))) := hD
  refine k_behi (X := ([] : va_W)) (Y := (MO cI z0 za sv pa pn sn kp pd l2 so p2 wr l5 fr sc tm hd st)) (va_runV (As := [.int (xs (i + 1).toNatClampNeg), .int (xs (i + 2).toNatClampNeg)]) (rest := []) ⟨hx, hb, hml, hown, hts⟩ (c_X4_printer l D cI cC cQ H.size d0 n0 na s0 sa h1 h2 mm ma t0 p0 pA tk N S oo zz M0 M1 M2 M3 rs de pc pg sg ln po dd lt pl f1s s2s tms (xs (i + 1).toNatClampNeg) (xs (i + 2).toNatClampNeg) ) (kcwV hts wd_ml_RL_64 wd_im_yX4_printer wd_sel_yX4_printer wd_ini_RX4 wd_code_yX4_printer rfl rfl rfl hd_X4_printer ⟨Nat.le_of_ble_eq_true rfl, Nat.le_of_ble_eq_true rfl⟩) ⟨in_blind, va_recv hK (pa_l (pa_r hPs)) (ci := 4) (q0 := 0) rfl rfl, k_pre hK (pa_l (pa_r hPs)) (da_l (da_r hDs)) hN⟩ rfl rfl hl.1 rfl (lv_room (Nat.le_of_ble_eq_true rfl)) dL_law_451 ⟨Nat.le_of_ble_eq_true rfl, Nat.le_of_ble_eq_true rfl⟩) hPs hDs hS hA (fun r1 u1 H locs hw1 hP hD hS => ?_)
  have hw1 : r1 = sh_X4_printer N (xs (i + 1).toNatClampNeg) (xs (i + 2).toNatClampNeg) := hw1
  have hP : va_P D vwCl ((DW cI cC cQ d0 n0 na s0 sa h1 h2 mm ma t0 p0 pA tk N S oo zz M0 M1 M2 M3 rs de pc pg sg ln po dd lt pl f1s s2s tms) ++ (MO cI z0 za sv pa pn sn kp pd l2 so p2 wr l5 fr sc tm hd st)) H := hP
  have hD : va_D (fun q : Nat => s.heap.size ≤ q) ((DW cI cC cQ d0 n0 na s0 sa h1 h2 mm ma t0 p0 pA tk N S oo zz M0 M1 M2 M3 rs de pc pg sg ln po dd lt pl f1s s2s tms) ++ (MO cI z0 za sv pa pn sn kp pd l2 so p2 wr l5 fr sc tm hd st)) := hD
  refine lv_aload_n hx hb dL_law_454 rfl (lv_at hl 1 rfl) ?_
  refine lv_aload_n hx hb dL_law_455 rfl (lv_at hl 3 rfl) ?_
  refine lv_iload_n hx hb dL_law_456 rfl (lv_at hl 0 rfl) ?_
  refine lv_iconst (v := 1) hx hb dL_law_457 (by decide) ?_
  refine lv_iadd hx hb dL_law_458 ?_
  refine va_sld hx hb hX hbl hbA hS hi.1 dL_law_459 ?_
  refine lv_aload_n hx hb dL_law_460 rfl (lv_at hl 3 rfl) ?_
  refine lv_iload_n hx hb dL_law_461 rfl (lv_at hl 0 rfl) ?_
  refine lv_iconst (v := 2) hx hb dL_law_462 (by decide) ?_
  refine lv_iadd hx hb dL_law_463 ?_
  refine va_sld hx hb hX hbl hbA hS hi.2.1 dL_law_464 ?_
  have hPs : va_P D vwCl ((DW cI cC cQ d0 n0 na s0 sa h1 h2 mm ma t0 p0 pA tk N S oo zz M0 M1 M2 M3 rs de pc pg sg ln po dd lt pl f1s s2s tms) ++ ((MO cI z0 za sv pa pn sn kp pd l2 so p2 wr l5 fr sc tm hd st) ++ ([] : va_W))) H := hP
  have hDs : va_D (fun q : Nat => s.heap.size ≤ q) ((DW cI cC cQ d0 n0 na s0 sa h1 h2 mm ma t0 p0 pA tk N S oo zz M0 M1 M2 M3 rs de pc pg sg ln po dd lt pl f1s s2s tms) ++ ((MO cI z0 za sv pa pn sn kp pd l2 so p2 wr l5 fr sc tm hd st) ++ ([] : va_W))) := hD
  refine k_behi (X := (DW cI cC cQ d0 n0 na s0 sa h1 h2 mm ma t0 p0 pA tk N S oo zz M0 M1 M2 M3 rs de pc pg sg ln po dd lt pl f1s s2s tms)) (Y := ([] : va_W)) (va_runV (As := [.int (xs (i + 1).toNatClampNeg), .int (xs (i + 2).toNatClampNeg)]) (rest := [.int r1]) ⟨hx, hb, hml, hown, hts⟩ (c_X5_printer l D cI cC cQ H.size z0 za sv pa pn sn kp pd l2 so p2 wr l5 fr sc tm hd st (xs (i + 1).toNatClampNeg) (xs (i + 2).toNatClampNeg) ) (kcwV hts wd_ml_RL_67 wd_im_yX5_printer wd_sel_yX5_printer wd_ini_RX5 wd_code_yX5_printer rfl rfl rfl hd_X5_printer ⟨Nat.le_of_ble_eq_true rfl, Nat.le_of_ble_eq_true rfl⟩) ⟨in_blind, va_recv hK (pa_l (pa_r hPs)) (ci := 5) (q0 := 0) rfl rfl, k_pre hK (pa_l (pa_r hPs)) (da_l (da_r hDs)) hN⟩ rfl rfl hl.1 rfl (lv_room (Nat.le_of_ble_eq_true rfl)) dL_law_465 ⟨Nat.le_of_ble_eq_true rfl, Nat.le_of_ble_eq_true rfl⟩) hPs hDs hS hA (fun r2 u2 H locs hw2 hP hD hS => ?_)
  have hw2 : r2 = sh_X5_printer sv (xs (i + 1).toNatClampNeg) (xs (i + 2).toNatClampNeg) := hw2
  have hP : va_P D vwCl ((DW cI cC cQ d0 n0 na s0 sa h1 h2 mm ma t0 p0 pA tk N S oo zz M0 M1 M2 M3 rs de pc pg sg ln po dd lt pl f1s s2s tms) ++ (MO cI z0 za sv pa pn sn kp pd l2 so p2 wr l5 fr sc tm hd st)) H := hP
  have hD : va_D (fun q : Nat => s.heap.size ≤ q) ((DW cI cC cQ d0 n0 na s0 sa h1 h2 mm ma t0 p0 pA tk N S oo zz M0 M1 M2 M3 rs de pc pg sg ln po dd lt pl f1s s2s tms) ++ (MO cI z0 za sv pa pn sn kp pd l2 so p2 wr l5 fr sc tm hd st)) := hD
  have E1 : r1 = r2 := hw1.trans ((e_printer hrel.1.1).trans hw2.symm)
  refine lv_icmp_eq (tgt := 830) hx hb dL_law_468 (by decide) (fun _ => ?_) (fun c9 => absurd E1 c9)
  exact go tk N S oo zz M0 M1 M2 M3 rs de pc pg sg ln po dd lt pl f1s s2s tms sv pa pn sn kp pd l2 so p2 wr l5 fr sc tm hd st _ _ _ (hrel.mono (by omega)) hP hD hS hl
set_option maxHeartbeats 40000000 in
set_option maxRecDepth 100000 in
theorem law_13 {p : Program} {l : Launch} {e : Env} {s : State} {m : MethodId} {below : List Frame} {meth : Method} {c : Code} {b L : Nat} {xs : Nat → Int32} {D : va_G} {cI cC cQ : ClassId} {d0 n0 : Nat} {na : Nat → Nat} {s0 : Nat} {sa : Nat → Nat} {h1 h2 : Nat} {mm : Nat → Nat} {ma : Nat → Nat → Nat} {t0 p0 : Nat} {pA : Nat → Nat} {z0 : Nat} {za : Nat → Nat} {B : Int} {i : Int32} (F : FxL p s m meth c b L xs D cI cC cQ) (hi : vp_in (i + 1) L ∧ vp_in (i + 2) L ∧ vp_in (i + 3) L ∧ vp_in (i + 4) L) (hB : B ≤ 400000000) (go : GoL p l e s m below meth c b D cI cC cQ d0 n0 na s0 sa h1 h2 mm ma t0 p0 pA z0 za 830 (B + 10000) i) : GoL p l e s m below meth c b D cI cC cQ d0 n0 na s0 sa h1 h2 mm ma t0 p0 pA z0 za 473 B i := by
  intro tk N S oo zz M0 M1 M2 M3 rs de pc pg sg ln po dd lt pl f1s s2s tms sv pa pn sn kp pd l2 so p2 wr l5 fr sc tm hd st H locs ls hrel hP hD hS hl
  obtain ⟨hx, hb, hr, hlocks, hml, hown, hts, hX, hbl, hN, hK, hZ⟩ := F
  have hA : ∀ q : Nat, s.heap.size ≤ q → (fun q : Nat => s.heap.size ≤ q) q := fun _ h => h
  have hbA : ¬ (fun q : Nat => s.heap.size ≤ q) b := Nat.not_le.mpr hbl
  refine lv_aload_n hx hb dL_law_473 rfl (lv_at hl 2 rfl) ?_
  refine lv_aload_n hx hb dL_law_474 rfl (lv_at hl 3 rfl) ?_
  refine lv_iload_n hx hb dL_law_475 rfl (lv_at hl 0 rfl) ?_
  refine lv_iconst (v := 1) hx hb dL_law_476 (by decide) ?_
  refine lv_iadd hx hb dL_law_477 ?_
  refine va_sld hx hb hX hbl hbA hS hi.1 dL_law_478 ?_
  refine lv_aload_n hx hb dL_law_479 rfl (lv_at hl 3 rfl) ?_
  refine lv_iload_n hx hb dL_law_480 rfl (lv_at hl 0 rfl) ?_
  refine lv_iconst (v := 2) hx hb dL_law_481 (by decide) ?_
  refine lv_iadd hx hb dL_law_482 ?_
  refine va_sld hx hb hX hbl hbA hS hi.2.1 dL_law_483 ?_
  refine lv_aload_n hx hb dL_law_484 rfl (lv_at hl 3 rfl) ?_
  refine lv_iload_n hx hb dL_law_485 rfl (lv_at hl 0 rfl) ?_
  refine lv_iconst (v := 3) hx hb dL_law_486 (by decide) ?_
  refine lv_iadd hx hb dL_law_487 ?_
  refine va_sld hx hb hX hbl hbA hS hi.2.2.1 dL_law_488 ?_
  have hPs : va_P D vwCl (([] : va_W) ++ ((DW cI cC cQ d0 n0 na s0 sa h1 h2 mm ma t0 p0 pA tk N S oo zz M0 M1 M2 M3 rs de pc pg sg ln po dd lt pl f1s s2s tms) ++ (MO cI z0 za sv pa pn sn kp pd l2 so p2 wr l5 fr sc tm hd st))) H := hP
  have hDs : va_D (fun q : Nat => s.heap.size ≤ q) (([] : va_W) ++ ((DW cI cC cQ d0 n0 na s0 sa h1 h2 mm ma t0 p0 pA tk N S oo zz M0 M1 M2 M3 rs de pc pg sg ln po dd lt pl f1s s2s tms) ++ (MO cI z0 za sv pa pn sn kp pd l2 so p2 wr l5 fr sc tm hd st))) := hD
  refine k_behi (X := ([] : va_W)) (Y := (MO cI z0 za sv pa pn sn kp pd l2 so p2 wr l5 fr sc tm hd st)) (va_runV (As := [.int (xs (i + 1).toNatClampNeg), .int (xs (i + 2).toNatClampNeg), .int (xs (i + 3).toNatClampNeg)]) (rest := []) ⟨hx, hb, hml, hown, hts⟩ (c_X4_needs l D cI cC cQ H.size d0 n0 na s0 sa h1 h2 mm ma t0 p0 pA tk N S oo zz M0 M1 M2 M3 rs de pc pg sg ln po dd lt pl f1s s2s tms (xs (i + 1).toNatClampNeg) (xs (i + 2).toNatClampNeg) (xs (i + 3).toNatClampNeg) ) (kcwV hts wd_ml_RL_68 wd_im_yX4_needs wd_sel_yX4_needs wd_ini_RX4 wd_code_yX4_needs rfl rfl rfl hd_X4_needs ⟨Nat.le_of_ble_eq_true rfl, Nat.le_of_ble_eq_true rfl⟩) ⟨in_blind, va_recv hK (pa_l (pa_r hPs)) (ci := 4) (q0 := 0) rfl rfl, k_pre hK (pa_l (pa_r hPs)) (da_l (da_r hDs)) hN⟩ rfl rfl hl.1 rfl (lv_room (Nat.le_of_ble_eq_true rfl)) dL_law_489 ⟨Nat.le_of_ble_eq_true rfl, Nat.le_of_ble_eq_true rfl⟩) hPs hDs hS hA (fun r1 u1 H locs hw1 hP hD hS => ?_)
  have hw1 : r1 = sh_X4_needs N (xs (i + 1).toNatClampNeg) (xs (i + 2).toNatClampNeg) (xs (i + 3).toNatClampNeg) := hw1
  have hP : va_P D vwCl ((DW cI cC cQ d0 n0 na s0 sa h1 h2 mm ma t0 p0 pA tk N S oo zz M0 M1 M2 M3 rs de pc pg sg ln po dd lt pl f1s s2s tms) ++ (MO cI z0 za sv pa pn sn kp pd l2 so p2 wr l5 fr sc tm hd st)) H := hP
  have hD : va_D (fun q : Nat => s.heap.size ≤ q) ((DW cI cC cQ d0 n0 na s0 sa h1 h2 mm ma t0 p0 pA tk N S oo zz M0 M1 M2 M3 rs de pc pg sg ln po dd lt pl f1s s2s tms) ++ (MO cI z0 za sv pa pn sn kp pd l2 so p2 wr l5 fr sc tm hd st)) := hD
  refine lv_aload_n hx hb dL_law_492 rfl (lv_at hl 1 rfl) ?_
  refine lv_aload_n hx hb dL_law_493 rfl (lv_at hl 3 rfl) ?_
  refine lv_iload_n hx hb dL_law_494 rfl (lv_at hl 0 rfl) ?_
  refine lv_iconst (v := 1) hx hb dL_law_495 (by decide) ?_
  refine lv_iadd hx hb dL_law_496 ?_
  refine va_sld hx hb hX hbl hbA hS hi.1 dL_law_497 ?_
  refine lv_aload_n hx hb dL_law_498 rfl (lv_at hl 3 rfl) ?_
  refine lv_iload_n hx hb dL_law_499 rfl (lv_at hl 0 rfl) ?_
  refine lv_iconst (v := 2) hx hb dL_law_500 (by decide) ?_
  refine lv_iadd hx hb dL_law_501 ?_
  refine va_sld hx hb hX hbl hbA hS hi.2.1 dL_law_502 ?_
  refine lv_aload_n hx hb dL_law_503 rfl (lv_at hl 3 rfl) ?_
  refine lv_iload_n hx hb dL_law_504 rfl (lv_at hl 0 rfl) ?_
  refine lv_iconst (v := 3) hx hb dL_law_505 (by decide) ?_
  refine lv_iadd hx hb dL_law_506 ?_
  refine va_sld hx hb hX hbl hbA hS hi.2.2.1 dL_law_507 ?_
  have hPs : va_P D vwCl ((DW cI cC cQ d0 n0 na s0 sa h1 h2 mm ma t0 p0 pA tk N S oo zz M0 M1 M2 M3 rs de pc pg sg ln po dd lt pl f1s s2s tms) ++ ((MO cI z0 za sv pa pn sn kp pd l2 so p2 wr l5 fr sc tm hd st) ++ ([] : va_W))) H := hP
  have hDs : va_D (fun q : Nat => s.heap.size ≤ q) ((DW cI cC cQ d0 n0 na s0 sa h1 h2 mm ma t0 p0 pA tk N S oo zz M0 M1 M2 M3 rs de pc pg sg ln po dd lt pl f1s s2s tms) ++ ((MO cI z0 za sv pa pn sn kp pd l2 so p2 wr l5 fr sc tm hd st) ++ ([] : va_W))) := hD
  refine k_behi (X := (DW cI cC cQ d0 n0 na s0 sa h1 h2 mm ma t0 p0 pA tk N S oo zz M0 M1 M2 M3 rs de pc pg sg ln po dd lt pl f1s s2s tms)) (Y := ([] : va_W)) (va_runV (As := [.int (xs (i + 1).toNatClampNeg), .int (xs (i + 2).toNatClampNeg), .int (xs (i + 3).toNatClampNeg)]) (rest := [.int r1]) ⟨hx, hb, hml, hown, hts⟩ (c_X5_needs l D cI cC cQ H.size z0 za sv pa pn sn kp pd l2 so p2 wr l5 fr sc tm hd st (xs (i + 1).toNatClampNeg) (xs (i + 2).toNatClampNeg) (xs (i + 3).toNatClampNeg) ) (kcwV hts wd_ml_RL_72 wd_im_yX5_needs wd_sel_yX5_needs wd_ini_RX5 wd_code_yX5_needs rfl rfl rfl hd_X5_needs ⟨Nat.le_of_ble_eq_true rfl, Nat.le_of_ble_eq_true rfl⟩) ⟨in_blind, va_recv hK (pa_l (pa_r hPs)) (ci := 5) (q0 := 0) rfl rfl, k_pre hK (pa_l (pa_r hPs)) (da_l (da_r hDs)) hN⟩ rfl rfl hl.1 rfl (lv_room (Nat.le_of_ble_eq_true rfl)) dL_law_508 ⟨Nat.le_of_ble_eq_true rfl, Nat.le_of_ble_eq_true rfl⟩) hPs hDs hS hA (fun r2 u2 H locs hw2 hP hD hS => ?_)
  have hw2 : r2 = sh_X5_needs sv (xs (i + 1).toNatClampNeg) (xs (i + 2).toNatClampNeg) (xs (i + 3).toNatClampNeg) := hw2
  have hP : va_P D vwCl ((DW cI cC cQ d0 n0 na s0 sa h1 h2 mm ma t0 p0 pA tk N S oo zz M0 M1 M2 M3 rs de pc pg sg ln po dd lt pl f1s s2s tms) ++ (MO cI z0 za sv pa pn sn kp pd l2 so p2 wr l5 fr sc tm hd st)) H := hP
  have hD : va_D (fun q : Nat => s.heap.size ≤ q) ((DW cI cC cQ d0 n0 na s0 sa h1 h2 mm ma t0 p0 pA tk N S oo zz M0 M1 M2 M3 rs de pc pg sg ln po dd lt pl f1s s2s tms) ++ (MO cI z0 za sv pa pn sn kp pd l2 so p2 wr l5 fr sc tm hd st)) := hD
  have E1 : r1 = r2 := hw1.trans ((e_needs hrel.1.1 hrel.1.2.1).trans hw2.symm)
  refine lv_icmp_eq (tgt := 830) hx hb dL_law_511 (by decide) (fun _ => ?_) (fun c9 => absurd E1 c9)
  exact go tk N S oo zz M0 M1 M2 M3 rs de pc pg sg ln po dd lt pl f1s s2s tms sv pa pn sn kp pd l2 so p2 wr l5 fr sc tm hd st _ _ _ (hrel.mono (by omega)) hP hD hS hl
set_option maxHeartbeats 40000000 in
set_option maxRecDepth 100000 in
theorem law_14 {p : Program} {l : Launch} {e : Env} {s : State} {m : MethodId} {below : List Frame} {meth : Method} {c : Code} {b L : Nat} {xs : Nat → Int32} {D : va_G} {cI cC cQ : ClassId} {d0 n0 : Nat} {na : Nat → Nat} {s0 : Nat} {sa : Nat → Nat} {h1 h2 : Nat} {mm : Nat → Nat} {ma : Nat → Nat → Nat} {t0 p0 : Nat} {pA : Nat → Nat} {z0 : Nat} {za : Nat → Nat} {B : Int} {i : Int32} (F : FxL p s m meth c b L xs D cI cC cQ) (hi : vp_in (i + 1) L ∧ vp_in (i + 2) L ∧ vp_in (i + 3) L ∧ vp_in (i + 4) L) (hB : B ≤ 400000000) (go : GoL p l e s m below meth c b D cI cC cQ d0 n0 na s0 sa h1 h2 mm ma t0 p0 pA z0 za 830 (B + 10000) i) : GoL p l e s m below meth c b D cI cC cQ d0 n0 na s0 sa h1 h2 mm ma t0 p0 pA z0 za 516 B i := by
  intro tk N S oo zz M0 M1 M2 M3 rs de pc pg sg ln po dd lt pl f1s s2s tms sv pa pn sn kp pd l2 so p2 wr l5 fr sc tm hd st H locs ls hrel hP hD hS hl
  obtain ⟨hx, hb, hr, hlocks, hml, hown, hts, hX, hbl, hN, hK, hZ⟩ := F
  have hA : ∀ q : Nat, s.heap.size ≤ q → (fun q : Nat => s.heap.size ≤ q) q := fun _ h => h
  have hbA : ¬ (fun q : Nat => s.heap.size ≤ q) b := Nat.not_le.mpr hbl
  refine lv_aload_n hx hb dL_law_516 rfl (lv_at hl 2 rfl) ?_
  refine lv_aload_n hx hb dL_law_517 rfl (lv_at hl 3 rfl) ?_
  refine lv_iload_n hx hb dL_law_518 rfl (lv_at hl 0 rfl) ?_
  refine lv_iconst (v := 1) hx hb dL_law_519 (by decide) ?_
  refine lv_iadd hx hb dL_law_520 ?_
  refine va_sld hx hb hX hbl hbA hS hi.1 dL_law_521 ?_
  have hPs : va_P D vwCl (([] : va_W) ++ ((DW cI cC cQ d0 n0 na s0 sa h1 h2 mm ma t0 p0 pA tk N S oo zz M0 M1 M2 M3 rs de pc pg sg ln po dd lt pl f1s s2s tms) ++ (MO cI z0 za sv pa pn sn kp pd l2 so p2 wr l5 fr sc tm hd st))) H := hP
  have hDs : va_D (fun q : Nat => s.heap.size ≤ q) (([] : va_W) ++ ((DW cI cC cQ d0 n0 na s0 sa h1 h2 mm ma t0 p0 pA tk N S oo zz M0 M1 M2 M3 rs de pc pg sg ln po dd lt pl f1s s2s tms) ++ (MO cI z0 za sv pa pn sn kp pd l2 so p2 wr l5 fr sc tm hd st))) := hD
  refine k_behi (X := ([] : va_W)) (Y := (MO cI z0 za sv pa pn sn kp pd l2 so p2 wr l5 fr sc tm hd st)) (va_runV (As := [.int (xs (i + 1).toNatClampNeg)]) (rest := []) ⟨hx, hb, hml, hown, hts⟩ (c_X4_whyNot l D cI cC cQ H.size d0 n0 na s0 sa h1 h2 mm ma t0 p0 pA tk N S oo zz M0 M1 M2 M3 rs de pc pg sg ln po dd lt pl f1s s2s tms (xs (i + 1).toNatClampNeg) ) (kcwV hts wd_ml_RL_73 wd_im_yX4_whyNot wd_sel_yX4_whyNot wd_ini_RX4 wd_code_yX4_whyNot rfl rfl rfl hd_X4_whyNot ⟨Nat.le_of_ble_eq_true rfl, Nat.le_of_ble_eq_true rfl⟩) ⟨in_blind, va_recv hK (pa_l (pa_r hPs)) (ci := 4) (q0 := 0) rfl rfl, k_pre hK (pa_l (pa_r hPs)) (da_l (da_r hDs)) hN⟩ rfl rfl hl.1 rfl (lv_room (Nat.le_of_ble_eq_true rfl)) dL_law_522 ⟨Nat.le_of_ble_eq_true rfl, Nat.le_of_ble_eq_true rfl⟩) hPs hDs hS hA (fun r1 u1 H locs hw1 hP hD hS => ?_)
  have hw1 : r1 = sh_X4_whyNot N (xs (i + 1).toNatClampNeg) := hw1
  have hP : va_P D vwCl ((DW cI cC cQ d0 n0 na s0 sa h1 h2 mm ma t0 p0 pA tk N S oo zz M0 M1 M2 M3 rs de pc pg sg ln po dd lt pl f1s s2s tms) ++ (MO cI z0 za sv pa pn sn kp pd l2 so p2 wr l5 fr sc tm hd st)) H := hP
  have hD : va_D (fun q : Nat => s.heap.size ≤ q) ((DW cI cC cQ d0 n0 na s0 sa h1 h2 mm ma t0 p0 pA tk N S oo zz M0 M1 M2 M3 rs de pc pg sg ln po dd lt pl f1s s2s tms) ++ (MO cI z0 za sv pa pn sn kp pd l2 so p2 wr l5 fr sc tm hd st)) := hD
  refine lv_aload_n hx hb dL_law_525 rfl (lv_at hl 1 rfl) ?_
  refine lv_aload_n hx hb dL_law_526 rfl (lv_at hl 3 rfl) ?_
  refine lv_iload_n hx hb dL_law_527 rfl (lv_at hl 0 rfl) ?_
  refine lv_iconst (v := 1) hx hb dL_law_528 (by decide) ?_
  refine lv_iadd hx hb dL_law_529 ?_
  refine va_sld hx hb hX hbl hbA hS hi.1 dL_law_530 ?_
  have hPs : va_P D vwCl ((DW cI cC cQ d0 n0 na s0 sa h1 h2 mm ma t0 p0 pA tk N S oo zz M0 M1 M2 M3 rs de pc pg sg ln po dd lt pl f1s s2s tms) ++ ((MO cI z0 za sv pa pn sn kp pd l2 so p2 wr l5 fr sc tm hd st) ++ ([] : va_W))) H := hP
  have hDs : va_D (fun q : Nat => s.heap.size ≤ q) ((DW cI cC cQ d0 n0 na s0 sa h1 h2 mm ma t0 p0 pA tk N S oo zz M0 M1 M2 M3 rs de pc pg sg ln po dd lt pl f1s s2s tms) ++ ((MO cI z0 za sv pa pn sn kp pd l2 so p2 wr l5 fr sc tm hd st) ++ ([] : va_W))) := hD
  refine k_behi (X := (DW cI cC cQ d0 n0 na s0 sa h1 h2 mm ma t0 p0 pA tk N S oo zz M0 M1 M2 M3 rs de pc pg sg ln po dd lt pl f1s s2s tms)) (Y := ([] : va_W)) (va_runV (As := [.int (xs (i + 1).toNatClampNeg)]) (rest := [.int r1]) ⟨hx, hb, hml, hown, hts⟩ (c_X5_whyNot l D cI cC cQ H.size z0 za sv pa pn sn kp pd l2 so p2 wr l5 fr sc tm hd st (xs (i + 1).toNatClampNeg) (hrel.1.2.1)) (kcwV hts wd_ml_RL_76 wd_im_yX5_whyNot wd_sel_yX5_whyNot wd_ini_RX5 wd_code_yX5_whyNot rfl rfl rfl hd_X5_whyNot ⟨Nat.le_of_ble_eq_true rfl, Nat.le_of_ble_eq_true rfl⟩) ⟨in_blind, va_recv hK (pa_l (pa_r hPs)) (ci := 5) (q0 := 0) rfl rfl, k_pre hK (pa_l (pa_r hPs)) (da_l (da_r hDs)) hN⟩ rfl rfl hl.1 rfl (lv_room (Nat.le_of_ble_eq_true rfl)) dL_law_531 ⟨Nat.le_of_ble_eq_true rfl, Nat.le_of_ble_eq_true rfl⟩) hPs hDs hS hA (fun r2 u2 H locs hw2 hP hD hS => ?_)
  have hw2 : r2 = sh_X5_whyNot sv (xs (i + 1).toNatClampNeg) := hw2
  have hP : va_P D vwCl ((DW cI cC cQ d0 n0 na s0 sa h1 h2 mm ma t0 p0 pA tk N S oo zz M0 M1 M2 M3 rs de pc pg sg ln po dd lt pl f1s s2s tms) ++ (MO cI z0 za sv pa pn sn kp pd l2 so p2 wr l5 fr sc tm hd st)) H := hP
  have hD : va_D (fun q : Nat => s.heap.size ≤ q) ((DW cI cC cQ d0 n0 na s0 sa h1 h2 mm ma t0 p0 pA tk N S oo zz M0 M1 M2 M3 rs de pc pg sg ln po dd lt pl f1s s2s tms) ++ (MO cI z0 za sv pa pn sn kp pd l2 so p2 wr l5 fr sc tm hd st)) := hD
  have E1 : r1 = r2 := hw1.trans ((e_whyNot hrel.1.1 hrel.1.2.1).trans hw2.symm)
  refine lv_icmp_eq (tgt := 830) hx hb dL_law_534 (by decide) (fun _ => ?_) (fun c9 => absurd E1 c9)
  exact go tk N S oo zz M0 M1 M2 M3 rs de pc pg sg ln po dd lt pl f1s s2s tms sv pa pn sn kp pd l2 so p2 wr l5 fr sc tm hd st _ _ _ (hrel.mono (by omega)) hP hD hS hl
set_option maxHeartbeats 40000000 in
set_option maxRecDepth 100000 in
theorem law_15 {p : Program} {l : Launch} {e : Env} {s : State} {m : MethodId} {below : List Frame} {meth : Method} {c : Code} {b L : Nat} {xs : Nat → Int32} {D : va_G} {cI cC cQ : ClassId} {d0 n0 : Nat} {na : Nat → Nat} {s0 : Nat} {sa : Nat → Nat} {h1 h2 : Nat} {mm : Nat → Nat} {ma : Nat → Nat → Nat} {t0 p0 : Nat} {pA : Nat → Nat} {z0 : Nat} {za : Nat → Nat} {B : Int} {i : Int32} (F : FxL p s m meth c b L xs D cI cC cQ) (hi : vp_in (i + 1) L ∧ vp_in (i + 2) L ∧ vp_in (i + 3) L ∧ vp_in (i + 4) L) (hB : B ≤ 400000000) (go : GoL p l e s m below meth c b D cI cC cQ d0 n0 na s0 sa h1 h2 mm ma t0 p0 pA z0 za 830 (B + 10000) i) : GoL p l e s m below meth c b D cI cC cQ d0 n0 na s0 sa h1 h2 mm ma t0 p0 pA z0 za 539 B i := by
  intro tk N S oo zz M0 M1 M2 M3 rs de pc pg sg ln po dd lt pl f1s s2s tms sv pa pn sn kp pd l2 so p2 wr l5 fr sc tm hd st H locs ls hrel hP hD hS hl
  obtain ⟨hx, hb, hr, hlocks, hml, hown, hts, hX, hbl, hN, hK, hZ⟩ := F
  have hA : ∀ q : Nat, s.heap.size ≤ q → (fun q : Nat => s.heap.size ≤ q) q := fun _ h => h
  have hbA : ¬ (fun q : Nat => s.heap.size ≤ q) b := Nat.not_le.mpr hbl
  refine lv_aload_n hx hb dL_law_539 rfl (lv_at hl 2 rfl) ?_
  refine lv_aload_n hx hb dL_law_540 rfl (lv_at hl 3 rfl) ?_
  refine lv_iload_n hx hb dL_law_541 rfl (lv_at hl 0 rfl) ?_
  refine lv_iconst (v := 1) hx hb dL_law_542 (by decide) ?_
  refine lv_iadd hx hb dL_law_543 ?_
  refine va_sld hx hb hX hbl hbA hS hi.1 dL_law_544 ?_
  have hPs : va_P D vwCl (([] : va_W) ++ ((DW cI cC cQ d0 n0 na s0 sa h1 h2 mm ma t0 p0 pA tk N S oo zz M0 M1 M2 M3 rs de pc pg sg ln po dd lt pl f1s s2s tms) ++ (MO cI z0 za sv pa pn sn kp pd l2 so p2 wr l5 fr sc tm hd st))) H := hP
  have hDs : va_D (fun q : Nat => s.heap.size ≤ q) (([] : va_W) ++ ((DW cI cC cQ d0 n0 na s0 sa h1 h2 mm ma t0 p0 pA tk N S oo zz M0 M1 M2 M3 rs de pc pg sg ln po dd lt pl f1s s2s tms) ++ (MO cI z0 za sv pa pn sn kp pd l2 so p2 wr l5 fr sc tm hd st))) := hD
  refine k_behi (X := ([] : va_W)) (Y := (MO cI z0 za sv pa pn sn kp pd l2 so p2 wr l5 fr sc tm hd st)) (va_runV (As := [.int (xs (i + 1).toNatClampNeg)]) (rest := []) ⟨hx, hb, hml, hown, hts⟩ (c_X4_count l D cI cC cQ H.size d0 n0 na s0 sa h1 h2 mm ma t0 p0 pA tk N S oo zz M0 M1 M2 M3 rs de pc pg sg ln po dd lt pl f1s s2s tms (xs (i + 1).toNatClampNeg) ) (kcwV hts wd_ml_RL_77 wd_im_yX4_count wd_sel_yX4_count wd_ini_RX4 wd_code_yX4_count rfl rfl rfl hd_X4_count ⟨Nat.le_of_ble_eq_true rfl, Nat.le_of_ble_eq_true rfl⟩) ⟨in_blind, va_recv hK (pa_l (pa_r hPs)) (ci := 4) (q0 := 0) rfl rfl, k_pre hK (pa_l (pa_r hPs)) (da_l (da_r hDs)) hN⟩ rfl rfl hl.1 rfl (lv_room (Nat.le_of_ble_eq_true rfl)) dL_law_545 ⟨Nat.le_of_ble_eq_true rfl, Nat.le_of_ble_eq_true rfl⟩) hPs hDs hS hA (fun r1 u1 H locs hw1 hP hD hS => ?_)
  have hw1 : r1 = sh_X4_count N zz ln (xs (i + 1).toNatClampNeg) := hw1
  have hP : va_P D vwCl ((DW cI cC cQ d0 n0 na s0 sa h1 h2 mm ma t0 p0 pA tk N S oo zz M0 M1 M2 M3 rs de pc pg sg ln po dd lt pl f1s s2s tms) ++ (MO cI z0 za sv pa pn sn kp pd l2 so p2 wr l5 fr sc tm hd st)) H := hP
  have hD : va_D (fun q : Nat => s.heap.size ≤ q) ((DW cI cC cQ d0 n0 na s0 sa h1 h2 mm ma t0 p0 pA tk N S oo zz M0 M1 M2 M3 rs de pc pg sg ln po dd lt pl f1s s2s tms) ++ (MO cI z0 za sv pa pn sn kp pd l2 so p2 wr l5 fr sc tm hd st)) := hD
  refine lv_aload_n hx hb dL_law_548 rfl (lv_at hl 1 rfl) ?_
  refine lv_aload_n hx hb dL_law_549 rfl (lv_at hl 3 rfl) ?_
  refine lv_iload_n hx hb dL_law_550 rfl (lv_at hl 0 rfl) ?_
  refine lv_iconst (v := 1) hx hb dL_law_551 (by decide) ?_
  refine lv_iadd hx hb dL_law_552 ?_
  refine va_sld hx hb hX hbl hbA hS hi.1 dL_law_553 ?_
  have hPs : va_P D vwCl ((DW cI cC cQ d0 n0 na s0 sa h1 h2 mm ma t0 p0 pA tk N S oo zz M0 M1 M2 M3 rs de pc pg sg ln po dd lt pl f1s s2s tms) ++ ((MO cI z0 za sv pa pn sn kp pd l2 so p2 wr l5 fr sc tm hd st) ++ ([] : va_W))) H := hP
  have hDs : va_D (fun q : Nat => s.heap.size ≤ q) ((DW cI cC cQ d0 n0 na s0 sa h1 h2 mm ma t0 p0 pA tk N S oo zz M0 M1 M2 M3 rs de pc pg sg ln po dd lt pl f1s s2s tms) ++ ((MO cI z0 za sv pa pn sn kp pd l2 so p2 wr l5 fr sc tm hd st) ++ ([] : va_W))) := hD
  refine k_behi (X := (DW cI cC cQ d0 n0 na s0 sa h1 h2 mm ma t0 p0 pA tk N S oo zz M0 M1 M2 M3 rs de pc pg sg ln po dd lt pl f1s s2s tms)) (Y := ([] : va_W)) (va_runV (As := [.int (xs (i + 1).toNatClampNeg)]) (rest := [.int r1]) ⟨hx, hb, hml, hown, hts⟩ (c_X5_count l D cI cC cQ H.size z0 za sv pa pn sn kp pd l2 so p2 wr l5 fr sc tm hd st (xs (i + 1).toNatClampNeg) (hrel.1.2.1)) (kcwV hts wd_ml_RL_80 wd_im_yX5_count wd_sel_yX5_count wd_ini_RX5 wd_code_yX5_count rfl rfl rfl hd_X5_count ⟨Nat.le_of_ble_eq_true rfl, Nat.le_of_ble_eq_true rfl⟩) ⟨in_blind, va_recv hK (pa_l (pa_r hPs)) (ci := 5) (q0 := 0) rfl rfl, k_pre hK (pa_l (pa_r hPs)) (da_l (da_r hDs)) hN⟩ rfl rfl hl.1 rfl (lv_room (Nat.le_of_ble_eq_true rfl)) dL_law_554 ⟨Nat.le_of_ble_eq_true rfl, Nat.le_of_ble_eq_true rfl⟩) hPs hDs hS hA (fun r2 u2 H locs hw2 hP hD hS => ?_)
  have hw2 : r2 = sh_X5_count sv pn l2 (xs (i + 1).toNatClampNeg) := hw2
  have hP : va_P D vwCl ((DW cI cC cQ d0 n0 na s0 sa h1 h2 mm ma t0 p0 pA tk N S oo zz M0 M1 M2 M3 rs de pc pg sg ln po dd lt pl f1s s2s tms) ++ (MO cI z0 za sv pa pn sn kp pd l2 so p2 wr l5 fr sc tm hd st)) H := hP
  have hD : va_D (fun q : Nat => s.heap.size ≤ q) ((DW cI cC cQ d0 n0 na s0 sa h1 h2 mm ma t0 p0 pA tk N S oo zz M0 M1 M2 M3 rs de pc pg sg ln po dd lt pl f1s s2s tms) ++ (MO cI z0 za sv pa pn sn kp pd l2 so p2 wr l5 fr sc tm hd st)) := hD
  have E1 : r1 = r2 := by rw [hw1, hw2, ← hrel.2.1.2.2.1, ← hrel.2.2.2.1.1]; exact e_count hrel.1.1 hrel.1.2.1
  refine lv_icmp_eq (tgt := 830) hx hb dL_law_557 (by decide) (fun _ => ?_) (fun c9 => absurd E1 c9)
  exact go tk N S oo zz M0 M1 M2 M3 rs de pc pg sg ln po dd lt pl f1s s2s tms sv pa pn sn kp pd l2 so p2 wr l5 fr sc tm hd st _ _ _ (hrel.mono (by omega)) hP hD hS hl
set_option maxHeartbeats 40000000 in
set_option maxRecDepth 100000 in
theorem law_16 {p : Program} {l : Launch} {e : Env} {s : State} {m : MethodId} {below : List Frame} {meth : Method} {c : Code} {b L : Nat} {xs : Nat → Int32} {D : va_G} {cI cC cQ : ClassId} {d0 n0 : Nat} {na : Nat → Nat} {s0 : Nat} {sa : Nat → Nat} {h1 h2 : Nat} {mm : Nat → Nat} {ma : Nat → Nat → Nat} {t0 p0 : Nat} {pA : Nat → Nat} {z0 : Nat} {za : Nat → Nat} {B : Int} {i : Int32} (F : FxL p s m meth c b L xs D cI cC cQ) (hi : vp_in (i + 1) L ∧ vp_in (i + 2) L ∧ vp_in (i + 3) L ∧ vp_in (i + 4) L) (hB : B ≤ 400000000) (go : GoL p l e s m below meth c b D cI cC cQ d0 n0 na s0 sa h1 h2 mm ma t0 p0 pA z0 za 830 (B + 10000) i) : GoL p l e s m below meth c b D cI cC cQ d0 n0 na s0 sa h1 h2 mm ma t0 p0 pA z0 za 562 B i := by
  intro tk N S oo zz M0 M1 M2 M3 rs de pc pg sg ln po dd lt pl f1s s2s tms sv pa pn sn kp pd l2 so p2 wr l5 fr sc tm hd st H locs ls hrel hP hD hS hl
  obtain ⟨hx, hb, hr, hlocks, hml, hown, hts, hX, hbl, hN, hK, hZ⟩ := F
  have hA : ∀ q : Nat, s.heap.size ≤ q → (fun q : Nat => s.heap.size ≤ q) q := fun _ h => h
  have hbA : ¬ (fun q : Nat => s.heap.size ≤ q) b := Nat.not_le.mpr hbl
  refine lv_aload_n hx hb dL_law_562 rfl (lv_at hl 2 rfl) ?_
  have hPs : va_P D vwCl (([] : va_W) ++ ((DW cI cC cQ d0 n0 na s0 sa h1 h2 mm ma t0 p0 pA tk N S oo zz M0 M1 M2 M3 rs de pc pg sg ln po dd lt pl f1s s2s tms) ++ (MO cI z0 za sv pa pn sn kp pd l2 so p2 wr l5 fr sc tm hd st))) H := hP
  have hDs : va_D (fun q : Nat => s.heap.size ≤ q) (([] : va_W) ++ ((DW cI cC cQ d0 n0 na s0 sa h1 h2 mm ma t0 p0 pA tk N S oo zz M0 M1 M2 M3 rs de pc pg sg ln po dd lt pl f1s s2s tms) ++ (MO cI z0 za sv pa pn sn kp pd l2 so p2 wr l5 fr sc tm hd st))) := hD
  refine k_behd (X := ([] : va_W)) (Y := (MO cI z0 za sv pa pn sn kp pd l2 so p2 wr l5 fr sc tm hd st)) (va_runV (As := []) (rest := []) ⟨hx, hb, hml, hown, hts⟩ (c_X4_darkness l D cI cC cQ H.size d0 n0 na s0 sa h1 h2 mm ma t0 p0 pA tk N S oo zz M0 M1 M2 M3 rs de pc pg sg ln po dd lt pl f1s s2s tms  ) (kcwV hts wd_ml_RL_81 wd_im_yX4_darkness wd_sel_yX4_darkness wd_ini_RX4 wd_code_yX4_darkness rfl rfl rfl hd_X4_darkness ⟨Nat.le_of_ble_eq_true rfl, Nat.le_of_ble_eq_true rfl⟩) ⟨in_blind, va_recv hK (pa_l (pa_r hPs)) (ci := 4) (q0 := 0) rfl rfl, k_pre hK (pa_l (pa_r hPs)) (da_l (da_r hDs)) hN⟩ rfl rfl hl.1 rfl (lv_room (Nat.le_of_ble_eq_true rfl)) dL_law_563 ⟨Nat.le_of_ble_eq_true rfl, Nat.le_of_ble_eq_true rfl⟩) hPs hDs hS hA (fun r1 u1 H locs hw1 hP hD hS => ?_)
  have hw1 : r1 = sh_X4_darkness N := hw1
  have hP : va_P D vwCl ((DW cI cC cQ d0 n0 na s0 sa h1 h2 mm ma t0 p0 pA tk N S oo zz M0 M1 M2 M3 rs de pc pg sg ln po dd lt pl f1s s2s tms) ++ (MO cI z0 za sv pa pn sn kp pd l2 so p2 wr l5 fr sc tm hd st)) H := hP
  have hD : va_D (fun q : Nat => s.heap.size ≤ q) ((DW cI cC cQ d0 n0 na s0 sa h1 h2 mm ma t0 p0 pA tk N S oo zz M0 M1 M2 M3 rs de pc pg sg ln po dd lt pl f1s s2s tms) ++ (MO cI z0 za sv pa pn sn kp pd l2 so p2 wr l5 fr sc tm hd st)) := hD
  refine lv_dstore (lv' := [(4, .double r1), (3, .int i), (2, .ref z0), (1, .ref d0), (0, .ref b)]) hx hb dL_law_566 hl (by decide) rfl (fun ls hl => ?_)
  refine lv_aload_n hx hb dL_law_568 rfl (lv_at hl 2 rfl) ?_
  have hPs : va_P D vwCl ((DW cI cC cQ d0 n0 na s0 sa h1 h2 mm ma t0 p0 pA tk N S oo zz M0 M1 M2 M3 rs de pc pg sg ln po dd lt pl f1s s2s tms) ++ ((MO cI z0 za sv pa pn sn kp pd l2 so p2 wr l5 fr sc tm hd st) ++ ([] : va_W))) H := hP
  have hDs : va_D (fun q : Nat => s.heap.size ≤ q) ((DW cI cC cQ d0 n0 na s0 sa h1 h2 mm ma t0 p0 pA tk N S oo zz M0 M1 M2 M3 rs de pc pg sg ln po dd lt pl f1s s2s tms) ++ ((MO cI z0 za sv pa pn sn kp pd l2 so p2 wr l5 fr sc tm hd st) ++ ([] : va_W))) := hD
  refine k_behd (X := (DW cI cC cQ d0 n0 na s0 sa h1 h2 mm ma t0 p0 pA tk N S oo zz M0 M1 M2 M3 rs de pc pg sg ln po dd lt pl f1s s2s tms)) (Y := ([] : va_W)) (va_runV (As := []) (rest := []) ⟨hx, hb, hml, hown, hts⟩ (c_X5_darkness l D cI cC cQ H.size z0 za sv pa pn sn kp pd l2 so p2 wr l5 fr sc tm hd st  ) (kcwV hts wd_ml_RL_85 wd_im_yX5_darkness wd_sel_yX5_darkness wd_ini_RX5 wd_code_yX5_darkness rfl rfl rfl hd_X5_darkness ⟨Nat.le_of_ble_eq_true rfl, Nat.le_of_ble_eq_true rfl⟩) ⟨in_blind, va_recv hK (pa_l (pa_r hPs)) (ci := 5) (q0 := 0) rfl rfl, k_pre hK (pa_l (pa_r hPs)) (da_l (da_r hDs)) hN⟩ rfl rfl hl.1 rfl (lv_room (Nat.le_of_ble_eq_true rfl)) dL_law_569 ⟨Nat.le_of_ble_eq_true rfl, Nat.le_of_ble_eq_true rfl⟩) hPs hDs hS hA (fun r2 u2 H locs hw2 hP hD hS => ?_)
  have hw2 : r2 = sh_X5_darkness sv := hw2
  have hP : va_P D vwCl ((DW cI cC cQ d0 n0 na s0 sa h1 h2 mm ma t0 p0 pA tk N S oo zz M0 M1 M2 M3 rs de pc pg sg ln po dd lt pl f1s s2s tms) ++ (MO cI z0 za sv pa pn sn kp pd l2 so p2 wr l5 fr sc tm hd st)) H := hP
  have hD : va_D (fun q : Nat => s.heap.size ≤ q) ((DW cI cC cQ d0 n0 na s0 sa h1 h2 mm ma t0 p0 pA tk N S oo zz M0 M1 M2 M3 rs de pc pg sg ln po dd lt pl f1s s2s tms) ++ (MO cI z0 za sv pa pn sn kp pd l2 so p2 wr l5 fr sc tm hd st)) := hD
  have E1 : r2 = r1 := by rw [hw1, hw2]; exact (e_darkness hrel.1.1 hrel.1.2.2 (by omega)).symm
  refine lv_dstore (lv' := [(6, .double r2), (4, .double r1), (3, .int i), (2, .ref z0), (1, .ref d0), (0, .ref b)]) hx hb dL_law_572 hl (by decide) rfl (fun ls hl => ?_)
  rw [E1] at hl
  have hl4 := lv_sub hl [2, 3, 4, 5] rfl
  refine lv_dload hx hb dL_law_574 (lv_at hl 1 rfl) ?_
  refine lv_dload hx hb dL_law_576 (lv_at hl 0 rfl) ?_
  refine lv_dcmp hx hb dL_law_578 ?_
  refine lv_if_eq (tgt := 600) hx hb dL_law_579 (by decide) (fun _ => ?_) (fun n0 => ?_)
  · refine lv_goto (tgt := 830) hx hb dL_law_600 (by decide) ?_
    exact go tk N S oo zz M0 M1 M2 M3 rs de pc pg sg ln po dd lt pl f1s s2s tms sv pa pn sn kp pd l2 so p2 wr l5 fr sc tm hd st _ _ _ (hrel.mono (by omega)) hP hD hS hl4
  · refine lv_dload hx hb dL_law_582 (lv_at hl 1 rfl) ?_
    refine lv_dload hx hb dL_law_584 (lv_at hl 1 rfl) ?_
    refine lv_dcmp hx hb dL_law_586 ?_
    refine lv_if_eq (tgt := 598) hx hb dL_law_587 (by decide) (fun c9 => absurd c9 n0) (fun _ => ?_)
    refine lv_dload hx hb dL_law_590 (lv_at hl 0 rfl) ?_
    refine lv_dload hx hb dL_law_592 (lv_at hl 0 rfl) ?_
    refine lv_dcmp hx hb dL_law_594 ?_
    refine lv_if_ne (tgt := 600) hx hb dL_law_595 (by decide) (fun _ => ?_) (fun c9 => absurd c9 n0)
    refine lv_goto (tgt := 830) hx hb dL_law_600 (by decide) ?_
    exact go tk N S oo zz M0 M1 M2 M3 rs de pc pg sg ln po dd lt pl f1s s2s tms sv pa pn sn kp pd l2 so p2 wr l5 fr sc tm hd st _ _ _ (hrel.mono (by omega)) hP hD hS hl4
set_option maxHeartbeats 40000000 in
set_option maxRecDepth 100000 in
theorem law_17 {p : Program} {l : Launch} {e : Env} {s : State} {m : MethodId} {below : List Frame} {meth : Method} {c : Code} {b L : Nat} {xs : Nat → Int32} {D : va_G} {cI cC cQ : ClassId} {d0 n0 : Nat} {na : Nat → Nat} {s0 : Nat} {sa : Nat → Nat} {h1 h2 : Nat} {mm : Nat → Nat} {ma : Nat → Nat → Nat} {t0 p0 : Nat} {pA : Nat → Nat} {z0 : Nat} {za : Nat → Nat} {B : Int} {i : Int32} (F : FxL p s m meth c b L xs D cI cC cQ) (hi : vp_in (i + 1) L ∧ vp_in (i + 2) L ∧ vp_in (i + 3) L ∧ vp_in (i + 4) L) (hB : B ≤ 400000000) (go : GoL p l e s m below meth c b D cI cC cQ d0 n0 na s0 sa h1 h2 mm ma t0 p0 pA z0 za 830 (B + 10000) i) : GoL p l e s m below meth c b D cI cC cQ d0 n0 na s0 sa h1 h2 mm ma t0 p0 pA z0 za 603 B i := by
  intro tk N S oo zz M0 M1 M2 M3 rs de pc pg sg ln po dd lt pl f1s s2s tms sv pa pn sn kp pd l2 so p2 wr l5 fr sc tm hd st H locs ls hrel hP hD hS hl
  obtain ⟨hx, hb, hr, hlocks, hml, hown, hts, hX, hbl, hN, hK, hZ⟩ := F
  have hA : ∀ q : Nat, s.heap.size ≤ q → (fun q : Nat => s.heap.size ≤ q) q := fun _ h => h
  have hbA : ¬ (fun q : Nat => s.heap.size ≤ q) b := Nat.not_le.mpr hbl
  by_cases hq : xs (i + 3).toNatClampNeg = 0
  · refine lv_aload_n hx hb dL_law_603 rfl (lv_at hl 2 rfl) ?_
    refine lv_aload_n hx hb dL_law_604 rfl (lv_at hl 3 rfl) ?_
    refine lv_iload_n hx hb dL_law_605 rfl (lv_at hl 0 rfl) ?_
    refine lv_iconst (v := 1) hx hb dL_law_606 (by decide) ?_
    refine lv_iadd hx hb dL_law_607 ?_
    refine va_sld hx hb hX hbl hbA hS hi.1 dL_law_608 ?_
    refine lv_aload_n hx hb dL_law_609 rfl (lv_at hl 3 rfl) ?_
    refine lv_iload_n hx hb dL_law_610 rfl (lv_at hl 0 rfl) ?_
    refine lv_iconst (v := 2) hx hb dL_law_611 (by decide) ?_
    refine lv_iadd hx hb dL_law_612 ?_
    refine va_sld hx hb hX hbl hbA hS hi.2.1 dL_law_613 ?_
    refine lv_aload_n hx hb dL_law_614 rfl (lv_at hl 3 rfl) ?_
    refine lv_iload_n hx hb dL_law_615 rfl (lv_at hl 0 rfl) ?_
    refine lv_iconst (v := 3) hx hb dL_law_616 (by decide) ?_
    refine lv_iadd hx hb dL_law_617 ?_
    refine va_sld hx hb hX hbl hbA hS hi.2.2.1 dL_law_618 ?_
    refine lv_if_eq (tgt := 626) hx hb dL_law_619 (by decide) (fun _ => ?_) (fun c9 => absurd hq c9)
    refine lv_iconst (v := 0) hx hb dL_law_626 (by decide) ?_
    have hPs : va_P D vwCl (([] : va_W) ++ ((DW cI cC cQ d0 n0 na s0 sa h1 h2 mm ma t0 p0 pA tk N S oo zz M0 M1 M2 M3 rs de pc pg sg ln po dd lt pl f1s s2s tms) ++ (MO cI z0 za sv pa pn sn kp pd l2 so p2 wr l5 fr sc tm hd st))) H := hP
    have hDs : va_D (fun q : Nat => s.heap.size ≤ q) (([] : va_W) ++ ((DW cI cC cQ d0 n0 na s0 sa h1 h2 mm ma t0 p0 pA tk N S oo zz M0 M1 M2 M3 rs de pc pg sg ln po dd lt pl f1s s2s tms) ++ (MO cI z0 za sv pa pn sn kp pd l2 so p2 wr l5 fr sc tm hd st))) := hD
    refine k_behi (X := ([] : va_W)) (Y := (MO cI z0 za sv pa pn sn kp pd l2 so p2 wr l5 fr sc tm hd st)) (va_runV (As := [.int (xs (i + 1).toNatClampNeg), .int (xs (i + 2).toNatClampNeg), .int 0]) (rest := []) ⟨hx, hb, hml, hown, hts⟩ (c_X4_lasts l D cI cC cQ H.size d0 n0 na s0 sa h1 h2 mm ma t0 p0 pA tk N S oo zz M0 M1 M2 M3 rs de pc pg sg ln po dd lt pl f1s s2s tms (xs (i + 1).toNatClampNeg) (xs (i + 2).toNatClampNeg) 0 ) (kcwV hts wd_ml_RL_86 wd_im_yX4_lasts wd_sel_yX4_lasts wd_ini_RX4 wd_code_yX4_lasts rfl rfl rfl hd_X4_lasts ⟨Nat.le_of_ble_eq_true rfl, Nat.le_of_ble_eq_true rfl⟩) ⟨in_blind, va_recv hK (pa_l (pa_r hPs)) (ci := 4) (q0 := 0) rfl rfl, k_pre hK (pa_l (pa_r hPs)) (da_l (da_r hDs)) hN⟩ rfl rfl hl.1 rfl (lv_room (Nat.le_of_ble_eq_true rfl)) dL_law_627 ⟨Nat.le_of_ble_eq_true rfl, Nat.le_of_ble_eq_true rfl⟩) hPs hDs hS hA (fun r1 u1 H locs hw1 hP hD hS => ?_)
    have hw1 : r1 = sh_X4_lasts N (xs (i + 1).toNatClampNeg) (xs (i + 2).toNatClampNeg) 0 := hw1
    have hP : va_P D vwCl ((DW cI cC cQ d0 n0 na s0 sa h1 h2 mm ma t0 p0 pA tk N S oo zz M0 M1 M2 M3 rs de pc pg sg ln po dd lt pl f1s s2s tms) ++ (MO cI z0 za sv pa pn sn kp pd l2 so p2 wr l5 fr sc tm hd st)) H := hP
    have hD : va_D (fun q : Nat => s.heap.size ≤ q) ((DW cI cC cQ d0 n0 na s0 sa h1 h2 mm ma t0 p0 pA tk N S oo zz M0 M1 M2 M3 rs de pc pg sg ln po dd lt pl f1s s2s tms) ++ (MO cI z0 za sv pa pn sn kp pd l2 so p2 wr l5 fr sc tm hd st)) := hD
    refine lv_aload_n hx hb dL_law_630 rfl (lv_at hl 1 rfl) ?_
    refine lv_aload_n hx hb dL_law_631 rfl (lv_at hl 3 rfl) ?_
    refine lv_iload_n hx hb dL_law_632 rfl (lv_at hl 0 rfl) ?_
    refine lv_iconst (v := 1) hx hb dL_law_633 (by decide) ?_
    refine lv_iadd hx hb dL_law_634 ?_
    refine va_sld hx hb hX hbl hbA hS hi.1 dL_law_635 ?_
    refine lv_aload_n hx hb dL_law_636 rfl (lv_at hl 3 rfl) ?_
    refine lv_iload_n hx hb dL_law_637 rfl (lv_at hl 0 rfl) ?_
    refine lv_iconst (v := 2) hx hb dL_law_638 (by decide) ?_
    refine lv_iadd hx hb dL_law_639 ?_
    refine va_sld hx hb hX hbl hbA hS hi.2.1 dL_law_640 ?_
    refine lv_aload_n hx hb dL_law_641 rfl (lv_at hl 3 rfl) ?_
    refine lv_iload_n hx hb dL_law_642 rfl (lv_at hl 0 rfl) ?_
    refine lv_iconst (v := 3) hx hb dL_law_643 (by decide) ?_
    refine lv_iadd hx hb dL_law_644 ?_
    refine va_sld hx hb hX hbl hbA hS hi.2.2.1 dL_law_645 ?_
    refine lv_if_eq (tgt := 653) hx hb dL_law_646 (by decide) (fun _ => ?_) (fun c9 => absurd hq c9)
    refine lv_iconst (v := 0) hx hb dL_law_653 (by decide) ?_
    have hPs : va_P D vwCl ((DW cI cC cQ d0 n0 na s0 sa h1 h2 mm ma t0 p0 pA tk N S oo zz M0 M1 M2 M3 rs de pc pg sg ln po dd lt pl f1s s2s tms) ++ ((MO cI z0 za sv pa pn sn kp pd l2 so p2 wr l5 fr sc tm hd st) ++ ([] : va_W))) H := hP
    have hDs : va_D (fun q : Nat => s.heap.size ≤ q) ((DW cI cC cQ d0 n0 na s0 sa h1 h2 mm ma t0 p0 pA tk N S oo zz M0 M1 M2 M3 rs de pc pg sg ln po dd lt pl f1s s2s tms) ++ ((MO cI z0 za sv pa pn sn kp pd l2 so p2 wr l5 fr sc tm hd st) ++ ([] : va_W))) := hD
    refine k_behi (X := (DW cI cC cQ d0 n0 na s0 sa h1 h2 mm ma t0 p0 pA tk N S oo zz M0 M1 M2 M3 rs de pc pg sg ln po dd lt pl f1s s2s tms)) (Y := ([] : va_W)) (va_runV (As := [.int (xs (i + 1).toNatClampNeg), .int (xs (i + 2).toNatClampNeg), .int 0]) (rest := [.int r1]) ⟨hx, hb, hml, hown, hts⟩ (c_X5_lasts l D cI cC cQ H.size z0 za sv pa pn sn kp pd l2 so p2 wr l5 fr sc tm hd st (xs (i + 1).toNatClampNeg) (xs (i + 2).toNatClampNeg) 0 (hrel.1.2.1)) (kcwV hts wd_ml_RL_90 wd_im_yX5_lasts wd_sel_yX5_lasts wd_ini_RX5 wd_code_yX5_lasts rfl rfl rfl hd_X5_lasts ⟨Nat.le_of_ble_eq_true rfl, Nat.le_of_ble_eq_true rfl⟩) ⟨in_blind, va_recv hK (pa_l (pa_r hPs)) (ci := 5) (q0 := 0) rfl rfl, k_pre hK (pa_l (pa_r hPs)) (da_l (da_r hDs)) hN⟩ rfl rfl hl.1 rfl (lv_room (Nat.le_of_ble_eq_true rfl)) dL_law_654 ⟨Nat.le_of_ble_eq_true rfl, Nat.le_of_ble_eq_true rfl⟩) hPs hDs hS hA (fun r2 u2 H locs hw2 hP hD hS => ?_)
    have hw2 : (r2, u2) = sh_X5_lasts sv hd st (xs (i + 1).toNatClampNeg) (xs (i + 2).toNatClampNeg) 0 := hw2
    have hP : va_P D vwCl ((DW cI cC cQ d0 n0 na s0 sa h1 h2 mm ma t0 p0 pA tk N S oo zz M0 M1 M2 M3 rs de pc pg sg ln po dd lt pl f1s s2s tms) ++ (MO cI z0 za sv pa pn sn kp pd l2 so p2 wr l5 fr sc tm u2.1 u2.2)) H := hP
    have hD : va_D (fun q : Nat => s.heap.size ≤ q) ((DW cI cC cQ d0 n0 na s0 sa h1 h2 mm ma t0 p0 pA tk N S oo zz M0 M1 M2 M3 rs de pc pg sg ln po dd lt pl f1s s2s tms) ++ (MO cI z0 za sv pa pn sn kp pd l2 so p2 wr l5 fr sc tm u2.1 u2.2)) := hD
    have E1 : r1 = r2 := hw1.trans ((e_lasts hrel.1.1 hrel.1.2.1).trans (congrArg Prod.fst hw2).symm)
    refine lv_icmp_eq (tgt := 830) hx hb dL_law_657 (by decide) (fun _ => ?_) (fun c9 => absurd E1 c9)
    exact go tk N S oo zz M0 M1 M2 M3 rs de pc pg sg ln po dd lt pl f1s s2s tms sv pa pn sn kp pd l2 so p2 wr l5 fr sc tm u2.1 u2.2 _ _ _ (hrel.mono (by omega)) hP hD hS hl
  · refine lv_aload_n hx hb dL_law_603 rfl (lv_at hl 2 rfl) ?_
    refine lv_aload_n hx hb dL_law_604 rfl (lv_at hl 3 rfl) ?_
    refine lv_iload_n hx hb dL_law_605 rfl (lv_at hl 0 rfl) ?_
    refine lv_iconst (v := 1) hx hb dL_law_606 (by decide) ?_
    refine lv_iadd hx hb dL_law_607 ?_
    refine va_sld hx hb hX hbl hbA hS hi.1 dL_law_608 ?_
    refine lv_aload_n hx hb dL_law_609 rfl (lv_at hl 3 rfl) ?_
    refine lv_iload_n hx hb dL_law_610 rfl (lv_at hl 0 rfl) ?_
    refine lv_iconst (v := 2) hx hb dL_law_611 (by decide) ?_
    refine lv_iadd hx hb dL_law_612 ?_
    refine va_sld hx hb hX hbl hbA hS hi.2.1 dL_law_613 ?_
    refine lv_aload_n hx hb dL_law_614 rfl (lv_at hl 3 rfl) ?_
    refine lv_iload_n hx hb dL_law_615 rfl (lv_at hl 0 rfl) ?_
    refine lv_iconst (v := 3) hx hb dL_law_616 (by decide) ?_
    refine lv_iadd hx hb dL_law_617 ?_
    refine va_sld hx hb hX hbl hbA hS hi.2.2.1 dL_law_618 ?_
    refine lv_if_eq (tgt := 626) hx hb dL_law_619 (by decide) (fun c9 => absurd c9 hq) (fun _ => ?_)
    refine lv_iconst (v := 1) hx hb dL_law_622 (by decide) ?_
    refine lv_goto (tgt := 627) hx hb dL_law_623 (by decide) ?_
    have hPs : va_P D vwCl (([] : va_W) ++ ((DW cI cC cQ d0 n0 na s0 sa h1 h2 mm ma t0 p0 pA tk N S oo zz M0 M1 M2 M3 rs de pc pg sg ln po dd lt pl f1s s2s tms) ++ (MO cI z0 za sv pa pn sn kp pd l2 so p2 wr l5 fr sc tm hd st))) H := hP
    have hDs : va_D (fun q : Nat => s.heap.size ≤ q) (([] : va_W) ++ ((DW cI cC cQ d0 n0 na s0 sa h1 h2 mm ma t0 p0 pA tk N S oo zz M0 M1 M2 M3 rs de pc pg sg ln po dd lt pl f1s s2s tms) ++ (MO cI z0 za sv pa pn sn kp pd l2 so p2 wr l5 fr sc tm hd st))) := hD
    refine k_behi (X := ([] : va_W)) (Y := (MO cI z0 za sv pa pn sn kp pd l2 so p2 wr l5 fr sc tm hd st)) (va_runV (As := [.int (xs (i + 1).toNatClampNeg), .int (xs (i + 2).toNatClampNeg), .int 1]) (rest := []) ⟨hx, hb, hml, hown, hts⟩ (c_X4_lasts l D cI cC cQ H.size d0 n0 na s0 sa h1 h2 mm ma t0 p0 pA tk N S oo zz M0 M1 M2 M3 rs de pc pg sg ln po dd lt pl f1s s2s tms (xs (i + 1).toNatClampNeg) (xs (i + 2).toNatClampNeg) 1 ) (kcwV hts wd_ml_RL_86 wd_im_yX4_lasts wd_sel_yX4_lasts wd_ini_RX4 wd_code_yX4_lasts rfl rfl rfl hd_X4_lasts ⟨Nat.le_of_ble_eq_true rfl, Nat.le_of_ble_eq_true rfl⟩) ⟨in_blind, va_recv hK (pa_l (pa_r hPs)) (ci := 4) (q0 := 0) rfl rfl, k_pre hK (pa_l (pa_r hPs)) (da_l (da_r hDs)) hN⟩ rfl rfl hl.1 rfl (lv_room (Nat.le_of_ble_eq_true rfl)) dL_law_627 ⟨Nat.le_of_ble_eq_true rfl, Nat.le_of_ble_eq_true rfl⟩) hPs hDs hS hA (fun r1 u1 H locs hw1 hP hD hS => ?_)
    have hw1 : r1 = sh_X4_lasts N (xs (i + 1).toNatClampNeg) (xs (i + 2).toNatClampNeg) 1 := hw1
    have hP : va_P D vwCl ((DW cI cC cQ d0 n0 na s0 sa h1 h2 mm ma t0 p0 pA tk N S oo zz M0 M1 M2 M3 rs de pc pg sg ln po dd lt pl f1s s2s tms) ++ (MO cI z0 za sv pa pn sn kp pd l2 so p2 wr l5 fr sc tm hd st)) H := hP
    have hD : va_D (fun q : Nat => s.heap.size ≤ q) ((DW cI cC cQ d0 n0 na s0 sa h1 h2 mm ma t0 p0 pA tk N S oo zz M0 M1 M2 M3 rs de pc pg sg ln po dd lt pl f1s s2s tms) ++ (MO cI z0 za sv pa pn sn kp pd l2 so p2 wr l5 fr sc tm hd st)) := hD
    refine lv_aload_n hx hb dL_law_630 rfl (lv_at hl 1 rfl) ?_
    refine lv_aload_n hx hb dL_law_631 rfl (lv_at hl 3 rfl) ?_
    refine lv_iload_n hx hb dL_law_632 rfl (lv_at hl 0 rfl) ?_
    refine lv_iconst (v := 1) hx hb dL_law_633 (by decide) ?_
    refine lv_iadd hx hb dL_law_634 ?_
    refine va_sld hx hb hX hbl hbA hS hi.1 dL_law_635 ?_
    refine lv_aload_n hx hb dL_law_636 rfl (lv_at hl 3 rfl) ?_
    refine lv_iload_n hx hb dL_law_637 rfl (lv_at hl 0 rfl) ?_
    refine lv_iconst (v := 2) hx hb dL_law_638 (by decide) ?_
    refine lv_iadd hx hb dL_law_639 ?_
    refine va_sld hx hb hX hbl hbA hS hi.2.1 dL_law_640 ?_
    refine lv_aload_n hx hb dL_law_641 rfl (lv_at hl 3 rfl) ?_
    refine lv_iload_n hx hb dL_law_642 rfl (lv_at hl 0 rfl) ?_
    refine lv_iconst (v := 3) hx hb dL_law_643 (by decide) ?_
    refine lv_iadd hx hb dL_law_644 ?_
    refine va_sld hx hb hX hbl hbA hS hi.2.2.1 dL_law_645 ?_
    refine lv_if_eq (tgt := 653) hx hb dL_law_646 (by decide) (fun c9 => absurd c9 hq) (fun _ => ?_)
    refine lv_iconst (v := 1) hx hb dL_law_649 (by decide) ?_
    refine lv_goto (tgt := 654) hx hb dL_law_650 (by decide) ?_
    have hPs : va_P D vwCl ((DW cI cC cQ d0 n0 na s0 sa h1 h2 mm ma t0 p0 pA tk N S oo zz M0 M1 M2 M3 rs de pc pg sg ln po dd lt pl f1s s2s tms) ++ ((MO cI z0 za sv pa pn sn kp pd l2 so p2 wr l5 fr sc tm hd st) ++ ([] : va_W))) H := hP
    have hDs : va_D (fun q : Nat => s.heap.size ≤ q) ((DW cI cC cQ d0 n0 na s0 sa h1 h2 mm ma t0 p0 pA tk N S oo zz M0 M1 M2 M3 rs de pc pg sg ln po dd lt pl f1s s2s tms) ++ ((MO cI z0 za sv pa pn sn kp pd l2 so p2 wr l5 fr sc tm hd st) ++ ([] : va_W))) := hD
    refine k_behi (X := (DW cI cC cQ d0 n0 na s0 sa h1 h2 mm ma t0 p0 pA tk N S oo zz M0 M1 M2 M3 rs de pc pg sg ln po dd lt pl f1s s2s tms)) (Y := ([] : va_W)) (va_runV (As := [.int (xs (i + 1).toNatClampNeg), .int (xs (i + 2).toNatClampNeg), .int 1]) (rest := [.int r1]) ⟨hx, hb, hml, hown, hts⟩ (c_X5_lasts l D cI cC cQ H.size z0 za sv pa pn sn kp pd l2 so p2 wr l5 fr sc tm hd st (xs (i + 1).toNatClampNeg) (xs (i + 2).toNatClampNeg) 1 (hrel.1.2.1)) (kcwV hts wd_ml_RL_90 wd_im_yX5_lasts wd_sel_yX5_lasts wd_ini_RX5 wd_code_yX5_lasts rfl rfl rfl hd_X5_lasts ⟨Nat.le_of_ble_eq_true rfl, Nat.le_of_ble_eq_true rfl⟩) ⟨in_blind, va_recv hK (pa_l (pa_r hPs)) (ci := 5) (q0 := 0) rfl rfl, k_pre hK (pa_l (pa_r hPs)) (da_l (da_r hDs)) hN⟩ rfl rfl hl.1 rfl (lv_room (Nat.le_of_ble_eq_true rfl)) dL_law_654 ⟨Nat.le_of_ble_eq_true rfl, Nat.le_of_ble_eq_true rfl⟩) hPs hDs hS hA (fun r2 u2 H locs hw2 hP hD hS => ?_)
    have hw2 : (r2, u2) = sh_X5_lasts sv hd st (xs (i + 1).toNatClampNeg) (xs (i + 2).toNatClampNeg) 1 := hw2
    have hP : va_P D vwCl ((DW cI cC cQ d0 n0 na s0 sa h1 h2 mm ma t0 p0 pA tk N S oo zz M0 M1 M2 M3 rs de pc pg sg ln po dd lt pl f1s s2s tms) ++ (MO cI z0 za sv pa pn sn kp pd l2 so p2 wr l5 fr sc tm u2.1 u2.2)) H := hP
    have hD : va_D (fun q : Nat => s.heap.size ≤ q) ((DW cI cC cQ d0 n0 na s0 sa h1 h2 mm ma t0 p0 pA tk N S oo zz M0 M1 M2 M3 rs de pc pg sg ln po dd lt pl f1s s2s tms) ++ (MO cI z0 za sv pa pn sn kp pd l2 so p2 wr l5 fr sc tm u2.1 u2.2)) := hD
    have E1 : r1 = r2 := hw1.trans ((e_lasts hrel.1.1 hrel.1.2.1).trans (congrArg Prod.fst hw2).symm)
    refine lv_icmp_eq (tgt := 830) hx hb dL_law_657 (by decide) (fun _ => ?_) (fun c9 => absurd E1 c9)
    exact go tk N S oo zz M0 M1 M2 M3 rs de pc pg sg ln po dd lt pl f1s s2s tms sv pa pn sn kp pd l2 so p2 wr l5 fr sc tm u2.1 u2.2 _ _ _ (hrel.mono (by omega)) hP hD hS hl
