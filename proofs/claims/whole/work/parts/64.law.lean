set_option maxHeartbeats 40000000 in
set_option maxRecDepth 100000 in
theorem law_18 {p : Program} {l : Launch} {e : Env} {s : State} {m : MethodId} {below : List Frame} {meth : Method} {c : Code} {b L : Nat} {xs : Nat → Int32} {D : va_G} {cI cC cQ : ClassId} {d0 n0 : Nat} {na : Nat → Nat} {s0 : Nat} {sa : Nat → Nat} {h1 h2 : Nat} {mm : Nat → Nat} {ma : Nat → Nat → Nat} {t0 p0 : Nat} {pA : Nat → Nat} {z0 : Nat} {za : Nat → Nat} {B : Int} {i : Int32} (F : FxL p s m meth c b L xs D cI cC cQ) (hi : vp_in (i + 1) L ∧ vp_in (i + 2) L ∧ vp_in (i + 3) L ∧ vp_in (i + 4) L) (hB : B ≤ 400000000) (go : GoL p l e s m below meth c b D cI cC cQ d0 n0 na s0 sa h1 h2 mm ma t0 p0 pA z0 za 830 (B + 10000) i) : GoL p l e s m below meth c b D cI cC cQ d0 n0 na s0 sa h1 h2 mm ma t0 p0 pA z0 za 662 B i := by
  intro tk N S oo zz M0 M1 M2 M3 rs de pc pg sg ln po dd lt pl f1s s2s tms sv pa pn sn kp pd l2 so p2 wr l5 fr sc tm hd st H locs ls hrel hP hD hS hl
  obtain ⟨hx, hb, hr, hlocks, hml, hown, hts, hX, hbl, hN, hK, hZ⟩ := F
  have hA : ∀ q : Nat, s.heap.size ≤ q → (fun q : Nat => s.heap.size ≤ q) q := fun _ h => h
  have hbA : ¬ (fun q : Nat => s.heap.size ≤ q) b := Nat.not_le.mpr hbl
  refine lv_aload_n hx hb dL_law_662 rfl (lv_at hl 2 rfl) ?_
  refine lv_aload_n hx hb dL_law_663 rfl (lv_at hl 3 rfl) ?_
  refine lv_iload_n hx hb dL_law_664 rfl (lv_at hl 0 rfl) ?_
  refine lv_iconst (v := 1) hx hb dL_law_665 (by decide) ?_
  refine lv_iadd hx hb dL_law_666 ?_
  refine va_sld hx hb hX hbl hbA hS hi.1 dL_law_667 ?_
  refine lv_aload_n hx hb dL_law_668 rfl (lv_at hl 3 rfl) ?_
  refine lv_iload_n hx hb dL_law_669 rfl (lv_at hl 0 rfl) ?_
  refine lv_iconst (v := 2) hx hb dL_law_670 (by decide) ?_
  refine lv_iadd hx hb dL_law_671 ?_
  refine va_sld hx hb hX hbl hbA hS hi.2.1 dL_law_672 ?_
  refine lv_aload_n hx hb dL_law_673 rfl (lv_at hl 3 rfl) ?_
  refine lv_iload_n hx hb dL_law_674 rfl (lv_at hl 0 rfl) ?_
  refine lv_iconst (v := 3) hx hb dL_law_675 (by decide) ?_
  refine lv_iadd hx hb dL_law_676 ?_
  refine va_sld hx hb hX hbl hbA hS hi.2.2.1 dL_law_677 ?_
  refine lv_aload_n hx hb dL_law_678 rfl (lv_at hl 3 rfl) ?_
  refine lv_iload_n hx hb dL_law_679 rfl (lv_at hl 0 rfl) ?_
  refine lv_iconst (v := 4) hx hb dL_law_680 (by decide) ?_
  refine lv_iadd hx hb dL_law_681 ?_
  refine va_sld hx hb hX hbl hbA hS hi.2.2.2 dL_law_682 ?_
  have hPs : va_P D vwCl (([] : va_W) ++ ((DW cI cC cQ d0 n0 na s0 sa h1 h2 mm ma t0 p0 pA tk N S oo zz M0 M1 M2 M3 rs de pc pg sg ln po dd lt pl f1s s2s tms) ++ (MO cI z0 za sv pa pn sn kp pd l2 so p2 wr l5 fr sc tm hd st))) H := hP
  have hDs : va_D (fun q : Nat => s.heap.size ≤ q) (([] : va_W) ++ ((DW cI cC cQ d0 n0 na s0 sa h1 h2 mm ma t0 p0 pA tk N S oo zz M0 M1 M2 M3 rs de pc pg sg ln po dd lt pl f1s s2s tms) ++ (MO cI z0 za sv pa pn sn kp pd l2 so p2 wr l5 fr sc tm hd st))) := hD
  refine k_behi (X := ([] : va_W)) (Y := (MO cI z0 za sv pa pn sn kp pd l2 so p2 wr l5 fr sc tm hd st)) (va_runV (As := [.int (xs (i + 1).toNatClampNeg), .int (xs (i + 2).toNatClampNeg), .int (xs (i + 3).toNatClampNeg), .int (xs (i + 4).toNatClampNeg)]) (rest := []) ⟨hx, hb, hml, hown, hts⟩ (c_X4_atHand l D cI cC cQ H.size d0 n0 na s0 sa h1 h2 mm ma t0 p0 pA tk N S oo zz M0 M1 M2 M3 rs de pc pg sg ln po dd lt pl f1s s2s tms (xs (i + 1).toNatClampNeg) (xs (i + 2).toNatClampNeg) (xs (i + 3).toNatClampNeg) (xs (i + 4).toNatClampNeg) ) (kcwV hts wd_ml_RL_91 wd_im_yX4_atHand wd_sel_yX4_atHand wd_ini_RX4 wd_code_yX4_atHand rfl rfl rfl hd_X4_atHand ⟨Nat.le_of_ble_eq_true rfl, Nat.le_of_ble_eq_true rfl⟩) ⟨in_blind, va_recv hK (pa_l (pa_r hPs)) (ci := 4) (q0 := 0) rfl rfl, k_pre hK (pa_l (pa_r hPs)) (da_l (da_r hDs)) hN⟩ rfl rfl hl.1 rfl (lv_room (Nat.le_of_ble_eq_true rfl)) dL_law_683 ⟨Nat.le_of_ble_eq_true rfl, Nat.le_of_ble_eq_true rfl⟩) hPs hDs hS hA (fun r1 u1 H locs hw1 hP hD hS => ?_)
  have hw1 : r1 = sh_X4_atHand N (xs (i + 1).toNatClampNeg) (xs (i + 2).toNatClampNeg) (xs (i + 3).toNatClampNeg) (xs (i + 4).toNatClampNeg) := hw1
  have hP : va_P D vwCl ((DW cI cC cQ d0 n0 na s0 sa h1 h2 mm ma t0 p0 pA tk N S oo zz M0 M1 M2 M3 rs de pc pg sg ln po dd lt pl f1s s2s tms) ++ (MO cI z0 za sv pa pn sn kp pd l2 so p2 wr l5 fr sc tm hd st)) H := hP
  have hD : va_D (fun q : Nat => s.heap.size ≤ q) ((DW cI cC cQ d0 n0 na s0 sa h1 h2 mm ma t0 p0 pA tk N S oo zz M0 M1 M2 M3 rs de pc pg sg ln po dd lt pl f1s s2s tms) ++ (MO cI z0 za sv pa pn sn kp pd l2 so p2 wr l5 fr sc tm hd st)) := hD
  refine lv_aload_n hx hb dL_law_686 rfl (lv_at hl 1 rfl) ?_
  refine lv_aload_n hx hb dL_law_687 rfl (lv_at hl 3 rfl) ?_
  refine lv_iload_n hx hb dL_law_688 rfl (lv_at hl 0 rfl) ?_
  refine lv_iconst (v := 1) hx hb dL_law_689 (by decide) ?_
  refine lv_iadd hx hb dL_law_690 ?_
  refine va_sld hx hb hX hbl hbA hS hi.1 dL_law_691 ?_
  refine lv_aload_n hx hb dL_law_692 rfl (lv_at hl 3 rfl) ?_
  refine lv_iload_n hx hb dL_law_693 rfl (lv_at hl 0 rfl) ?_
  refine lv_iconst (v := 2) hx hb dL_law_694 (by decide) ?_
  refine lv_iadd hx hb dL_law_695 ?_
  refine va_sld hx hb hX hbl hbA hS hi.2.1 dL_law_696 ?_
  refine lv_aload_n hx hb dL_law_697 rfl (lv_at hl 3 rfl) ?_
  refine lv_iload_n hx hb dL_law_698 rfl (lv_at hl 0 rfl) ?_
  refine lv_iconst (v := 3) hx hb dL_law_699 (by decide) ?_
  refine lv_iadd hx hb dL_law_700 ?_
  refine va_sld hx hb hX hbl hbA hS hi.2.2.1 dL_law_701 ?_
  refine lv_aload_n hx hb dL_law_702 rfl (lv_at hl 3 rfl) ?_
  refine lv_iload_n hx hb dL_law_703 rfl (lv_at hl 0 rfl) ?_
  refine lv_iconst (v := 4) hx hb dL_law_704 (by decide) ?_
  refine lv_iadd hx hb dL_law_705 ?_
  refine va_sld hx hb hX hbl hbA hS hi.2.2.2 dL_law_706 ?_
  have hPs : va_P D vwCl ((DW cI cC cQ d0 n0 na s0 sa h1 h2 mm ma t0 p0 pA tk N S oo zz M0 M1 M2 M3 rs de pc pg sg ln po dd lt pl f1s s2s tms) ++ ((MO cI z0 za sv pa pn sn kp pd l2 so p2 wr l5 fr sc tm hd st) ++ ([] : va_W))) H := hP
  have hDs : va_D (fun q : Nat => s.heap.size ≤ q) ((DW cI cC cQ d0 n0 na s0 sa h1 h2 mm ma t0 p0 pA tk N S oo zz M0 M1 M2 M3 rs de pc pg sg ln po dd lt pl f1s s2s tms) ++ ((MO cI z0 za sv pa pn sn kp pd l2 so p2 wr l5 fr sc tm hd st) ++ ([] : va_W))) := hD
  refine k_behi (X := (DW cI cC cQ d0 n0 na s0 sa h1 h2 mm ma t0 p0 pA tk N S oo zz M0 M1 M2 M3 rs de pc pg sg ln po dd lt pl f1s s2s tms)) (Y := ([] : va_W)) (va_runV (As := [.int (xs (i + 1).toNatClampNeg), .int (xs (i + 2).toNatClampNeg), .int (xs (i + 3).toNatClampNeg), .int (xs (i + 4).toNatClampNeg)]) (rest := [.int r1]) ⟨hx, hb, hml, hown, hts⟩ (c_X5_atHand l D cI cC cQ H.size z0 za sv pa pn sn kp pd l2 so p2 wr l5 fr sc tm hd st (xs (i + 1).toNatClampNeg) (xs (i + 2).toNatClampNeg) (xs (i + 3).toNatClampNeg) (xs (i + 4).toNatClampNeg) (hrel.1.2.1)) (kcwV hts wd_ml_RL_95 wd_im_yX5_atHand wd_sel_yX5_atHand wd_ini_RX5 wd_code_yX5_atHand rfl rfl rfl hd_X5_atHand ⟨Nat.le_of_ble_eq_true rfl, Nat.le_of_ble_eq_true rfl⟩) ⟨in_blind, va_recv hK (pa_l (pa_r hPs)) (ci := 5) (q0 := 0) rfl rfl, k_pre hK (pa_l (pa_r hPs)) (da_l (da_r hDs)) hN⟩ rfl rfl hl.1 rfl (lv_room (Nat.le_of_ble_eq_true rfl)) dL_law_707 ⟨Nat.le_of_ble_eq_true rfl, Nat.le_of_ble_eq_true rfl⟩) hPs hDs hS hA (fun r2 u2 H locs hw2 hP hD hS => ?_)
  have hw2 : (r2, u2) = sh_X5_atHand sv hd st (xs (i + 1).toNatClampNeg) (xs (i + 2).toNatClampNeg) (xs (i + 3).toNatClampNeg) (xs (i + 4).toNatClampNeg) := hw2
  have hP : va_P D vwCl ((DW cI cC cQ d0 n0 na s0 sa h1 h2 mm ma t0 p0 pA tk N S oo zz M0 M1 M2 M3 rs de pc pg sg ln po dd lt pl f1s s2s tms) ++ (MO cI z0 za sv pa pn sn kp pd l2 so p2 wr l5 fr sc tm u2.1 u2.2)) H := hP
  have hD : va_D (fun q : Nat => s.heap.size ≤ q) ((DW cI cC cQ d0 n0 na s0 sa h1 h2 mm ma t0 p0 pA tk N S oo zz M0 M1 M2 M3 rs de pc pg sg ln po dd lt pl f1s s2s tms) ++ (MO cI z0 za sv pa pn sn kp pd l2 so p2 wr l5 fr sc tm u2.1 u2.2)) := hD
  have E1 : r1 = r2 := hw1.trans ((e_atHand hrel.1.1 hrel.1.2.1).trans (congrArg Prod.fst hw2).symm)
  refine lv_icmp_eq (tgt := 830) hx hb dL_law_710 (by decide) (fun _ => ?_) (fun c9 => absurd E1 c9)
  exact go tk N S oo zz M0 M1 M2 M3 rs de pc pg sg ln po dd lt pl f1s s2s tms sv pa pn sn kp pd l2 so p2 wr l5 fr sc tm u2.1 u2.2 _ _ _ (hrel.mono (by omega)) hP hD hS hl
set_option maxHeartbeats 40000000 in
set_option maxRecDepth 100000 in
theorem law_19 {p : Program} {l : Launch} {e : Env} {s : State} {m : MethodId} {below : List Frame} {meth : Method} {c : Code} {b L : Nat} {xs : Nat → Int32} {D : va_G} {cI cC cQ : ClassId} {d0 n0 : Nat} {na : Nat → Nat} {s0 : Nat} {sa : Nat → Nat} {h1 h2 : Nat} {mm : Nat → Nat} {ma : Nat → Nat → Nat} {t0 p0 : Nat} {pA : Nat → Nat} {z0 : Nat} {za : Nat → Nat} {B : Int} {i : Int32} (F : FxL p s m meth c b L xs D cI cC cQ) (hi : vp_in (i + 1) L ∧ vp_in (i + 2) L ∧ vp_in (i + 3) L ∧ vp_in (i + 4) L) (hB : B ≤ 400000000) (go : GoL p l e s m below meth c b D cI cC cQ d0 n0 na s0 sa h1 h2 mm ma t0 p0 pA z0 za 830 (B + 10000) i) : GoL p l e s m below meth c b D cI cC cQ d0 n0 na s0 sa h1 h2 mm ma t0 p0 pA z0 za 715 B i := by
  intro tk N S oo zz M0 M1 M2 M3 rs de pc pg sg ln po dd lt pl f1s s2s tms sv pa pn sn kp pd l2 so p2 wr l5 fr sc tm hd st H locs ls hrel hP hD hS hl
  obtain ⟨hx, hb, hr, hlocks, hml, hown, hts, hX, hbl, hN, hK, hZ⟩ := F
  have hA : ∀ q : Nat, s.heap.size ≤ q → (fun q : Nat => s.heap.size ≤ q) q := fun _ h => h
  have hbA : ¬ (fun q : Nat => s.heap.size ≤ q) b := Nat.not_le.mpr hbl
  refine lv_aload_n hx hb dL_law_715 rfl (lv_at hl 2 rfl) ?_
  refine lv_aload_n hx hb dL_law_716 rfl (lv_at hl 3 rfl) ?_
  refine lv_iload_n hx hb dL_law_717 rfl (lv_at hl 0 rfl) ?_
  refine lv_iconst (v := 1) hx hb dL_law_718 (by decide) ?_
  refine lv_iadd hx hb dL_law_719 ?_
  refine va_sld hx hb hX hbl hbA hS hi.1 dL_law_720 ?_
  refine lv_aload_n hx hb dL_law_721 rfl (lv_at hl 3 rfl) ?_
  refine lv_iload_n hx hb dL_law_722 rfl (lv_at hl 0 rfl) ?_
  refine lv_iconst (v := 2) hx hb dL_law_723 (by decide) ?_
  refine lv_iadd hx hb dL_law_724 ?_
  refine va_sld hx hb hX hbl hbA hS hi.2.1 dL_law_725 ?_
  have hPs : va_P D vwCl (([] : va_W) ++ ((DW cI cC cQ d0 n0 na s0 sa h1 h2 mm ma t0 p0 pA tk N S oo zz M0 M1 M2 M3 rs de pc pg sg ln po dd lt pl f1s s2s tms) ++ (MO cI z0 za sv pa pn sn kp pd l2 so p2 wr l5 fr sc tm hd st))) H := hP
  have hDs : va_D (fun q : Nat => s.heap.size ≤ q) (([] : va_W) ++ ((DW cI cC cQ d0 n0 na s0 sa h1 h2 mm ma t0 p0 pA tk N S oo zz M0 M1 M2 M3 rs de pc pg sg ln po dd lt pl f1s s2s tms) ++ (MO cI z0 za sv pa pn sn kp pd l2 so p2 wr l5 fr sc tm hd st))) := hD
  refine k_behi (X := ([] : va_W)) (Y := (MO cI z0 za sv pa pn sn kp pd l2 so p2 wr l5 fr sc tm hd st)) (va_runV (As := [.int (xs (i + 1).toNatClampNeg), .int (xs (i + 2).toNatClampNeg)]) (rest := []) ⟨hx, hb, hml, hown, hts⟩ (c_X4_bestFor l D cI cC cQ H.size d0 n0 na s0 sa h1 h2 mm ma t0 p0 pA tk N S oo zz M0 M1 M2 M3 rs de pc pg sg ln po dd lt pl f1s s2s tms (xs (i + 1).toNatClampNeg) (xs (i + 2).toNatClampNeg) ) (kcwV hts wd_ml_RL_96 wd_im_yX4_bestFor wd_sel_yX4_bestFor wd_ini_RX4 wd_code_yX4_bestFor rfl rfl rfl hd_X4_bestFor ⟨Nat.le_of_ble_eq_true rfl, Nat.le_of_ble_eq_true rfl⟩) ⟨in_blind, va_recv hK (pa_l (pa_r hPs)) (ci := 4) (q0 := 0) rfl rfl, k_pre hK (pa_l (pa_r hPs)) (da_l (da_r hDs)) hN⟩ rfl rfl hl.1 rfl (lv_room (Nat.le_of_ble_eq_true rfl)) dL_law_726 ⟨Nat.le_of_ble_eq_true rfl, Nat.le_of_ble_eq_true rfl⟩) hPs hDs hS hA (fun r1 u1 H locs hw1 hP hD hS => ?_)
  have hw1 : r1 = sh_X4_bestFor N (xs (i + 1).toNatClampNeg) (xs (i + 2).toNatClampNeg) := hw1
  have hP : va_P D vwCl ((DW cI cC cQ d0 n0 na s0 sa h1 h2 mm ma t0 p0 pA tk N S oo zz M0 M1 M2 M3 rs de pc pg sg ln po dd lt pl f1s s2s tms) ++ (MO cI z0 za sv pa pn sn kp pd l2 so p2 wr l5 fr sc tm hd st)) H := hP
  have hD : va_D (fun q : Nat => s.heap.size ≤ q) ((DW cI cC cQ d0 n0 na s0 sa h1 h2 mm ma t0 p0 pA tk N S oo zz M0 M1 M2 M3 rs de pc pg sg ln po dd lt pl f1s s2s tms) ++ (MO cI z0 za sv pa pn sn kp pd l2 so p2 wr l5 fr sc tm hd st)) := hD
  refine lv_aload_n hx hb dL_law_729 rfl (lv_at hl 1 rfl) ?_
  refine lv_aload_n hx hb dL_law_730 rfl (lv_at hl 3 rfl) ?_
  refine lv_iload_n hx hb dL_law_731 rfl (lv_at hl 0 rfl) ?_
  refine lv_iconst (v := 1) hx hb dL_law_732 (by decide) ?_
  refine lv_iadd hx hb dL_law_733 ?_
  refine va_sld hx hb hX hbl hbA hS hi.1 dL_law_734 ?_
  refine lv_aload_n hx hb dL_law_735 rfl (lv_at hl 3 rfl) ?_
  refine lv_iload_n hx hb dL_law_736 rfl (lv_at hl 0 rfl) ?_
  refine lv_iconst (v := 2) hx hb dL_law_737 (by decide) ?_
  refine lv_iadd hx hb dL_law_738 ?_
  refine va_sld hx hb hX hbl hbA hS hi.2.1 dL_law_739 ?_
  have hPs : va_P D vwCl ((DW cI cC cQ d0 n0 na s0 sa h1 h2 mm ma t0 p0 pA tk N S oo zz M0 M1 M2 M3 rs de pc pg sg ln po dd lt pl f1s s2s tms) ++ ((MO cI z0 za sv pa pn sn kp pd l2 so p2 wr l5 fr sc tm hd st) ++ ([] : va_W))) H := hP
  have hDs : va_D (fun q : Nat => s.heap.size ≤ q) ((DW cI cC cQ d0 n0 na s0 sa h1 h2 mm ma t0 p0 pA tk N S oo zz M0 M1 M2 M3 rs de pc pg sg ln po dd lt pl f1s s2s tms) ++ ((MO cI z0 za sv pa pn sn kp pd l2 so p2 wr l5 fr sc tm hd st) ++ ([] : va_W))) := hD
  refine k_behi (X := (DW cI cC cQ d0 n0 na s0 sa h1 h2 mm ma t0 p0 pA tk N S oo zz M0 M1 M2 M3 rs de pc pg sg ln po dd lt pl f1s s2s tms)) (Y := ([] : va_W)) (va_runV (As := [.int (xs (i + 1).toNatClampNeg), .int (xs (i + 2).toNatClampNeg)]) (rest := [.int r1]) ⟨hx, hb, hml, hown, hts⟩ (c_X5_bestFor l D cI cC cQ H.size z0 za sv pa pn sn kp pd l2 so p2 wr l5 fr sc tm hd st (xs (i + 1).toNatClampNeg) (xs (i + 2).toNatClampNeg) (hrel.1.2.1)) (kcwV hts wd_ml_RL_99 wd_im_yX5_bestFor wd_sel_yX5_bestFor wd_ini_RX5 wd_code_yX5_bestFor rfl rfl rfl hd_X5_bestFor ⟨Nat.le_of_ble_eq_true rfl, Nat.le_of_ble_eq_true rfl⟩) ⟨in_blind, va_recv hK (pa_l (pa_r hPs)) (ci := 5) (q0 := 0) rfl rfl, k_pre hK (pa_l (pa_r hPs)) (da_l (da_r hDs)) hN⟩ rfl rfl hl.1 rfl (lv_room (Nat.le_of_ble_eq_true rfl)) dL_law_740 ⟨Nat.le_of_ble_eq_true rfl, Nat.le_of_ble_eq_true rfl⟩) hPs hDs hS hA (fun r2 u2 H locs hw2 hP hD hS => ?_)
  have hw2 : (r2, u2) = sh_X5_bestFor sv hd st (xs (i + 1).toNatClampNeg) (xs (i + 2).toNatClampNeg) := hw2
  have hP : va_P D vwCl ((DW cI cC cQ d0 n0 na s0 sa h1 h2 mm ma t0 p0 pA tk N S oo zz M0 M1 M2 M3 rs de pc pg sg ln po dd lt pl f1s s2s tms) ++ (MO cI z0 za sv pa pn sn kp pd l2 so p2 wr l5 fr sc tm u2.1 u2.2)) H := hP
  have hD : va_D (fun q : Nat => s.heap.size ≤ q) ((DW cI cC cQ d0 n0 na s0 sa h1 h2 mm ma t0 p0 pA tk N S oo zz M0 M1 M2 M3 rs de pc pg sg ln po dd lt pl f1s s2s tms) ++ (MO cI z0 za sv pa pn sn kp pd l2 so p2 wr l5 fr sc tm u2.1 u2.2)) := hD
  have E1 : r1 = r2 := hw1.trans ((e_bestFor hrel.1.1 hrel.1.2.1).trans (congrArg Prod.fst hw2).symm)
  refine lv_icmp_eq (tgt := 830) hx hb dL_law_743 (by decide) (fun _ => ?_) (fun c9 => absurd E1 c9)
  exact go tk N S oo zz M0 M1 M2 M3 rs de pc pg sg ln po dd lt pl f1s s2s tms sv pa pn sn kp pd l2 so p2 wr l5 fr sc tm u2.1 u2.2 _ _ _ (hrel.mono (by omega)) hP hD hS hl
set_option maxHeartbeats 40000000 in
set_option maxRecDepth 100000 in
theorem law_20 {p : Program} {l : Launch} {e : Env} {s : State} {m : MethodId} {below : List Frame} {meth : Method} {c : Code} {b L : Nat} {xs : Nat → Int32} {D : va_G} {cI cC cQ : ClassId} {d0 n0 : Nat} {na : Nat → Nat} {s0 : Nat} {sa : Nat → Nat} {h1 h2 : Nat} {mm : Nat → Nat} {ma : Nat → Nat → Nat} {t0 p0 : Nat} {pA : Nat → Nat} {z0 : Nat} {za : Nat → Nat} {B : Int} {i : Int32} (F : FxL p s m meth c b L xs D cI cC cQ) (hi : vp_in (i + 1) L ∧ vp_in (i + 2) L ∧ vp_in (i + 3) L ∧ vp_in (i + 4) L) (hB : B ≤ 400000000) (go : GoL p l e s m below meth c b D cI cC cQ d0 n0 na s0 sa h1 h2 mm ma t0 p0 pA z0 za 830 (B + 10000) i) : GoL p l e s m below meth c b D cI cC cQ d0 n0 na s0 sa h1 h2 mm ma t0 p0 pA z0 za 748 B i := by
  intro tk N S oo zz M0 M1 M2 M3 rs de pc pg sg ln po dd lt pl f1s s2s tms sv pa pn sn kp pd l2 so p2 wr l5 fr sc tm hd st H locs ls hrel hP hD hS hl
  obtain ⟨hx, hb, hr, hlocks, hml, hown, hts, hX, hbl, hN, hK, hZ⟩ := F
  have hA : ∀ q : Nat, s.heap.size ≤ q → (fun q : Nat => s.heap.size ≤ q) q := fun _ h => h
  have hbA : ¬ (fun q : Nat => s.heap.size ≤ q) b := Nat.not_le.mpr hbl
  refine lv_aload_n hx hb dL_law_748 rfl (lv_at hl 2 rfl) ?_
  refine lv_aload_n hx hb dL_law_749 rfl (lv_at hl 3 rfl) ?_
  refine lv_iload_n hx hb dL_law_750 rfl (lv_at hl 0 rfl) ?_
  refine lv_iconst (v := 1) hx hb dL_law_751 (by decide) ?_
  refine lv_iadd hx hb dL_law_752 ?_
  refine va_sld hx hb hX hbl hbA hS hi.1 dL_law_753 ?_
  refine lv_aload_n hx hb dL_law_754 rfl (lv_at hl 3 rfl) ?_
  refine lv_iload_n hx hb dL_law_755 rfl (lv_at hl 0 rfl) ?_
  refine lv_iconst (v := 2) hx hb dL_law_756 (by decide) ?_
  refine lv_iadd hx hb dL_law_757 ?_
  refine va_sld hx hb hX hbl hbA hS hi.2.1 dL_law_758 ?_
  refine lv_aload_n hx hb dL_law_759 rfl (lv_at hl 3 rfl) ?_
  refine lv_iload_n hx hb dL_law_760 rfl (lv_at hl 0 rfl) ?_
  refine lv_iconst (v := 3) hx hb dL_law_761 (by decide) ?_
  refine lv_iadd hx hb dL_law_762 ?_
  refine va_sld hx hb hX hbl hbA hS hi.2.2.1 dL_law_763 ?_
  have hPs : va_P D vwCl (([] : va_W) ++ ((DW cI cC cQ d0 n0 na s0 sa h1 h2 mm ma t0 p0 pA tk N S oo zz M0 M1 M2 M3 rs de pc pg sg ln po dd lt pl f1s s2s tms) ++ (MO cI z0 za sv pa pn sn kp pd l2 so p2 wr l5 fr sc tm hd st))) H := hP
  have hDs : va_D (fun q : Nat => s.heap.size ≤ q) (([] : va_W) ++ ((DW cI cC cQ d0 n0 na s0 sa h1 h2 mm ma t0 p0 pA tk N S oo zz M0 M1 M2 M3 rs de pc pg sg ln po dd lt pl f1s s2s tms) ++ (MO cI z0 za sv pa pn sn kp pd l2 so p2 wr l5 fr sc tm hd st))) := hD
  refine k_behi (X := ([] : va_W)) (Y := (MO cI z0 za sv pa pn sn kp pd l2 so p2 wr l5 fr sc tm hd st)) (va_runV (As := [.int (xs (i + 1).toNatClampNeg), .int (xs (i + 2).toNatClampNeg), .int (xs (i + 3).toNatClampNeg)]) (rest := []) ⟨hx, hb, hml, hown, hts⟩ (c_X4_darkest l D cI cC cQ H.size d0 n0 na s0 sa h1 h2 mm ma t0 p0 pA tk N S oo zz M0 M1 M2 M3 rs de pc pg sg ln po dd lt pl f1s s2s tms (xs (i + 1).toNatClampNeg) (xs (i + 2).toNatClampNeg) (xs (i + 3).toNatClampNeg) ) (kcwV hts wd_ml_RL_100 wd_im_yX4_darkest wd_sel_yX4_darkest wd_ini_RX4 wd_code_yX4_darkest rfl rfl rfl hd_X4_darkest ⟨Nat.le_of_ble_eq_true rfl, Nat.le_of_ble_eq_true rfl⟩) ⟨in_blind, va_recv hK (pa_l (pa_r hPs)) (ci := 4) (q0 := 0) rfl rfl, k_pre hK (pa_l (pa_r hPs)) (da_l (da_r hDs)) hN⟩ rfl rfl hl.1 rfl (lv_room (Nat.le_of_ble_eq_true rfl)) dL_law_764 ⟨Nat.le_of_ble_eq_true rfl, Nat.le_of_ble_eq_true rfl⟩) hPs hDs hS hA (fun r1 u1 H locs hw1 hP hD hS => ?_)
  have hw1 : r1 = sh_X4_darkest N (xs (i + 1).toNatClampNeg) (xs (i + 2).toNatClampNeg) (xs (i + 3).toNatClampNeg) := hw1
  have hP : va_P D vwCl ((DW cI cC cQ d0 n0 na s0 sa h1 h2 mm ma t0 p0 pA tk N S oo zz M0 M1 M2 M3 rs de pc pg sg ln po dd lt pl f1s s2s tms) ++ (MO cI z0 za sv pa pn sn kp pd l2 so p2 wr l5 fr sc tm hd st)) H := hP
  have hD : va_D (fun q : Nat => s.heap.size ≤ q) ((DW cI cC cQ d0 n0 na s0 sa h1 h2 mm ma t0 p0 pA tk N S oo zz M0 M1 M2 M3 rs de pc pg sg ln po dd lt pl f1s s2s tms) ++ (MO cI z0 za sv pa pn sn kp pd l2 so p2 wr l5 fr sc tm hd st)) := hD
  refine lv_aload_n hx hb dL_law_767 rfl (lv_at hl 1 rfl) ?_
  refine lv_aload_n hx hb dL_law_768 rfl (lv_at hl 3 rfl) ?_
  refine lv_iload_n hx hb dL_law_769 rfl (lv_at hl 0 rfl) ?_
  refine lv_iconst (v := 1) hx hb dL_law_770 (by decide) ?_
  refine lv_iadd hx hb dL_law_771 ?_
  refine va_sld hx hb hX hbl hbA hS hi.1 dL_law_772 ?_
  refine lv_aload_n hx hb dL_law_773 rfl (lv_at hl 3 rfl) ?_
  refine lv_iload_n hx hb dL_law_774 rfl (lv_at hl 0 rfl) ?_
  refine lv_iconst (v := 2) hx hb dL_law_775 (by decide) ?_
  refine lv_iadd hx hb dL_law_776 ?_
  refine va_sld hx hb hX hbl hbA hS hi.2.1 dL_law_777 ?_
  refine lv_aload_n hx hb dL_law_778 rfl (lv_at hl 3 rfl) ?_
  refine lv_iload_n hx hb dL_law_779 rfl (lv_at hl 0 rfl) ?_
  refine lv_iconst (v := 3) hx hb dL_law_780 (by decide) ?_
  refine lv_iadd hx hb dL_law_781 ?_
  refine va_sld hx hb hX hbl hbA hS hi.2.2.1 dL_law_782 ?_
  have hPs : va_P D vwCl ((DW cI cC cQ d0 n0 na s0 sa h1 h2 mm ma t0 p0 pA tk N S oo zz M0 M1 M2 M3 rs de pc pg sg ln po dd lt pl f1s s2s tms) ++ ((MO cI z0 za sv pa pn sn kp pd l2 so p2 wr l5 fr sc tm hd st) ++ ([] : va_W))) H := hP
  have hDs : va_D (fun q : Nat => s.heap.size ≤ q) ((DW cI cC cQ d0 n0 na s0 sa h1 h2 mm ma t0 p0 pA tk N S oo zz M0 M1 M2 M3 rs de pc pg sg ln po dd lt pl f1s s2s tms) ++ ((MO cI z0 za sv pa pn sn kp pd l2 so p2 wr l5 fr sc tm hd st) ++ ([] : va_W))) := hD
  refine k_behi (X := (DW cI cC cQ d0 n0 na s0 sa h1 h2 mm ma t0 p0 pA tk N S oo zz M0 M1 M2 M3 rs de pc pg sg ln po dd lt pl f1s s2s tms)) (Y := ([] : va_W)) (va_runV (As := [.int (xs (i + 1).toNatClampNeg), .int (xs (i + 2).toNatClampNeg), .int (xs (i + 3).toNatClampNeg)]) (rest := [.int r1]) ⟨hx, hb, hml, hown, hts⟩ (c_X5_darkest l D cI cC cQ H.size z0 za sv pa pn sn kp pd l2 so p2 wr l5 fr sc tm hd st (xs (i + 1).toNatClampNeg) (xs (i + 2).toNatClampNeg) (xs (i + 3).toNatClampNeg) (hrel.1.2.1)) (kcwV hts wd_ml_RL_103 wd_im_yX5_darkest wd_sel_yX5_darkest wd_ini_RX5 wd_code_yX5_darkest rfl rfl rfl hd_X5_darkest ⟨Nat.le_of_ble_eq_true rfl, Nat.le_of_ble_eq_true rfl⟩) ⟨in_blind, va_recv hK (pa_l (pa_r hPs)) (ci := 5) (q0 := 0) rfl rfl, k_pre hK (pa_l (pa_r hPs)) (da_l (da_r hDs)) hN⟩ rfl rfl hl.1 rfl (lv_room (Nat.le_of_ble_eq_true rfl)) dL_law_783 ⟨Nat.le_of_ble_eq_true rfl, Nat.le_of_ble_eq_true rfl⟩) hPs hDs hS hA (fun r2 u2 H locs hw2 hP hD hS => ?_)
  have hw2 : (r2, u2) = sh_X5_darkest sv hd st (xs (i + 1).toNatClampNeg) (xs (i + 2).toNatClampNeg) (xs (i + 3).toNatClampNeg) := hw2
  have hP : va_P D vwCl ((DW cI cC cQ d0 n0 na s0 sa h1 h2 mm ma t0 p0 pA tk N S oo zz M0 M1 M2 M3 rs de pc pg sg ln po dd lt pl f1s s2s tms) ++ (MO cI z0 za sv pa pn sn kp pd l2 so p2 wr l5 fr sc tm u2.1 u2.2)) H := hP
  have hD : va_D (fun q : Nat => s.heap.size ≤ q) ((DW cI cC cQ d0 n0 na s0 sa h1 h2 mm ma t0 p0 pA tk N S oo zz M0 M1 M2 M3 rs de pc pg sg ln po dd lt pl f1s s2s tms) ++ (MO cI z0 za sv pa pn sn kp pd l2 so p2 wr l5 fr sc tm u2.1 u2.2)) := hD
  have E1 : r1 = r2 := hw1.trans ((e_darkest hrel.1.1 hrel.1.2.1).trans (congrArg Prod.fst hw2).symm)
  refine lv_icmp_eq (tgt := 830) hx hb dL_law_786 (by decide) (fun _ => ?_) (fun c9 => absurd E1 c9)
  exact go tk N S oo zz M0 M1 M2 M3 rs de pc pg sg ln po dd lt pl f1s s2s tms sv pa pn sn kp pd l2 so p2 wr l5 fr sc tm u2.1 u2.2 _ _ _ (hrel.mono (by omega)) hP hD hS hl
set_option maxHeartbeats 40000000 in
set_option maxRecDepth 100000 in
theorem law_21 {p : Program} {l : Launch} {e : Env} {s : State} {m : MethodId} {below : List Frame} {meth : Method} {c : Code} {b L : Nat} {xs : Nat → Int32} {D : va_G} {cI cC cQ : ClassId} {d0 n0 : Nat} {na : Nat → Nat} {s0 : Nat} {sa : Nat → Nat} {h1 h2 : Nat} {mm : Nat → Nat} {ma : Nat → Nat → Nat} {t0 p0 : Nat} {pA : Nat → Nat} {z0 : Nat} {za : Nat → Nat} {B : Int} {i : Int32} (F : FxL p s m meth c b L xs D cI cC cQ) (hi : vp_in (i + 1) L ∧ vp_in (i + 2) L ∧ vp_in (i + 3) L ∧ vp_in (i + 4) L) (hB : B ≤ 400000000) (go : GoL p l e s m below meth c b D cI cC cQ d0 n0 na s0 sa h1 h2 mm ma t0 p0 pA z0 za 830 (B + 10000) i) : GoL p l e s m below meth c b D cI cC cQ d0 n0 na s0 sa h1 h2 mm ma t0 p0 pA z0 za 791 B i := by
  intro tk N S oo zz M0 M1 M2 M3 rs de pc pg sg ln po dd lt pl f1s s2s tms sv pa pn sn kp pd l2 so p2 wr l5 fr sc tm hd st H locs ls hrel hP hD hS hl
  obtain ⟨hx, hb, hr, hlocks, hml, hown, hts, hX, hbl, hN, hK, hZ⟩ := F
  have hA : ∀ q : Nat, s.heap.size ≤ q → (fun q : Nat => s.heap.size ≤ q) q := fun _ h => h
  have hbA : ¬ (fun q : Nat => s.heap.size ≤ q) b := Nat.not_le.mpr hbl
  refine lv_aload_n hx hb dL_law_791 rfl (lv_at hl 2 rfl) ?_
  have hPs : va_P D vwCl (([] : va_W) ++ ((DW cI cC cQ d0 n0 na s0 sa h1 h2 mm ma t0 p0 pA tk N S oo zz M0 M1 M2 M3 rs de pc pg sg ln po dd lt pl f1s s2s tms) ++ (MO cI z0 za sv pa pn sn kp pd l2 so p2 wr l5 fr sc tm hd st))) H := hP
  have hDs : va_D (fun q : Nat => s.heap.size ≤ q) (([] : va_W) ++ ((DW cI cC cQ d0 n0 na s0 sa h1 h2 mm ma t0 p0 pA tk N S oo zz M0 M1 M2 M3 rs de pc pg sg ln po dd lt pl f1s s2s tms) ++ (MO cI z0 za sv pa pn sn kp pd l2 so p2 wr l5 fr sc tm hd st))) := hD
  refine k_behi (X := ([] : va_W)) (Y := (MO cI z0 za sv pa pn sn kp pd l2 so p2 wr l5 fr sc tm hd st)) (va_runV (As := []) (rest := []) ⟨hx, hb, hml, hown, hts⟩ (c_X4_undo l D cI cC cQ H.size d0 n0 na s0 sa h1 h2 mm ma t0 p0 pA tk N S oo zz M0 M1 M2 M3 rs de pc pg sg ln po dd lt pl f1s s2s tms  (hrel.2.1.1) (hrel.2.1.2.1)) (kcwV hts wd_ml_RL_104 wd_im_yX4_undo wd_sel_yX4_undo wd_ini_RX4 wd_code_yX4_undo rfl rfl rfl hd_X4_undo ⟨Nat.le_of_ble_eq_true rfl, Nat.le_of_ble_eq_true rfl⟩) ⟨in_blind, va_recv hK (pa_l (pa_r hPs)) (ci := 4) (q0 := 0) rfl rfl, k_pre hK (pa_l (pa_r hPs)) (da_l (da_r hDs)) hN⟩ rfl rfl hl.1 rfl (lv_room (Nat.le_of_ble_eq_true rfl)) dL_law_792 ⟨Nat.le_of_ble_eq_true rfl, Nat.le_of_ble_eq_true rfl⟩) hPs hDs hS hA (fun r1 u1 H locs hw1 hP hD hS => ?_)
  have hw1 : (r1, u1) = sh_X4_undo N oo zz M0 M1 M2 M3 := hw1
  have hP : va_P D vwCl ((DW cI cC cQ d0 n0 na s0 sa h1 h2 mm ma t0 p0 pA tk u1.1 S oo u1.2 M0 M1 M2 M3 rs de pc pg sg ln po dd lt pl f1s s2s tms) ++ (MO cI z0 za sv pa pn sn kp pd l2 so p2 wr l5 fr sc tm hd st)) H := hP
  have hD : va_D (fun q : Nat => s.heap.size ≤ q) ((DW cI cC cQ d0 n0 na s0 sa h1 h2 mm ma t0 p0 pA tk u1.1 S oo u1.2 M0 M1 M2 M3 rs de pc pg sg ln po dd lt pl f1s s2s tms) ++ (MO cI z0 za sv pa pn sn kp pd l2 so p2 wr l5 fr sc tm hd st)) := hD
  refine lv_aload_n hx hb dL_law_795 rfl (lv_at hl 1 rfl) ?_
  have hPs : va_P D vwCl ((DW cI cC cQ d0 n0 na s0 sa h1 h2 mm ma t0 p0 pA tk u1.1 S oo u1.2 M0 M1 M2 M3 rs de pc pg sg ln po dd lt pl f1s s2s tms) ++ ((MO cI z0 za sv pa pn sn kp pd l2 so p2 wr l5 fr sc tm hd st) ++ ([] : va_W))) H := hP
  have hDs : va_D (fun q : Nat => s.heap.size ≤ q) ((DW cI cC cQ d0 n0 na s0 sa h1 h2 mm ma t0 p0 pA tk u1.1 S oo u1.2 M0 M1 M2 M3 rs de pc pg sg ln po dd lt pl f1s s2s tms) ++ ((MO cI z0 za sv pa pn sn kp pd l2 so p2 wr l5 fr sc tm hd st) ++ ([] : va_W))) := hD
  refine k_behi (X := (DW cI cC cQ d0 n0 na s0 sa h1 h2 mm ma t0 p0 pA tk u1.1 S oo u1.2 M0 M1 M2 M3 rs de pc pg sg ln po dd lt pl f1s s2s tms)) (Y := ([] : va_W)) (va_runV (As := []) (rest := [.int r1]) ⟨hx, hb, hml, hown, hts⟩ (c_X5_undo l D cI cC cQ H.size z0 za sv pa pn sn kp pd l2 so p2 wr l5 fr sc tm hd st  ((hrel.2.1.2.2.1 ▸ hrel.2.1.2.1))) (kcwV hts wd_ml_RL_107 wd_im_yX5_undo wd_sel_yX5_undo wd_ini_RX5 wd_code_yX5_undo rfl rfl rfl hd_X5_undo ⟨Nat.le_of_ble_eq_true rfl, Nat.le_of_ble_eq_true rfl⟩) ⟨in_blind, va_recv hK (pa_l (pa_r hPs)) (ci := 5) (q0 := 0) rfl rfl, k_pre hK (pa_l (pa_r hPs)) (da_l (da_r hDs)) hN⟩ rfl rfl hl.1 rfl (lv_room (Nat.le_of_ble_eq_true rfl)) dL_law_796 ⟨Nat.le_of_ble_eq_true rfl, Nat.le_of_ble_eq_true rfl⟩) hPs hDs hS hA (fun r2 u2 H locs hw2 hP hD hS => ?_)
  have hw2 : (r2, u2) = sh_X5_undo sv pa pn := hw2
  have hP : va_P D vwCl ((DW cI cC cQ d0 n0 na s0 sa h1 h2 mm ma t0 p0 pA tk u1.1 S oo u1.2 M0 M1 M2 M3 rs de pc pg sg ln po dd lt pl f1s s2s tms) ++ (MO cI z0 za u2.1 pa u2.2 sn kp pd l2 so p2 wr l5 fr sc tm hd st)) H := hP
  have hD : va_D (fun q : Nat => s.heap.size ≤ q) ((DW cI cC cQ d0 n0 na s0 sa h1 h2 mm ma t0 p0 pA tk u1.1 S oo u1.2 M0 M1 M2 M3 rs de pc pg sg ln po dd lt pl f1s s2s tms) ++ (MO cI z0 za u2.1 pa u2.2 sn kp pd l2 so p2 wr l5 fr sc tm hd st)) := hD
  have E := e_undo hrel (R := (r1, u1)) hw1 (T := (r2, u2)) hw2
  have E1 : r1 = r2 := E.1
  have E2 : Rel (B + 10000) tk u1.1 S oo u1.2 M0 M1 M2 M3 rs de pc pg sg ln u2.1 pa u2.2 sn kp pd l2 so := E.2
  refine lv_icmp_eq (tgt := 830) hx hb dL_law_799 (by decide) (fun _ => ?_) (fun c9 => absurd E1 c9)
  exact go tk u1.1 S oo u1.2 M0 M1 M2 M3 rs de pc pg sg ln po dd lt pl f1s s2s tms u2.1 pa u2.2 sn kp pd l2 so p2 wr l5 fr sc tm hd st _ _ _ (E2) hP hD hS hl
set_option maxHeartbeats 40000000 in
set_option maxRecDepth 100000 in
theorem law_22 {p : Program} {l : Launch} {e : Env} {s : State} {m : MethodId} {below : List Frame} {meth : Method} {c : Code} {b L : Nat} {xs : Nat → Int32} {D : va_G} {cI cC cQ : ClassId} {d0 n0 : Nat} {na : Nat → Nat} {s0 : Nat} {sa : Nat → Nat} {h1 h2 : Nat} {mm : Nat → Nat} {ma : Nat → Nat → Nat} {t0 p0 : Nat} {pA : Nat → Nat} {z0 : Nat} {za : Nat → Nat} {B : Int} {i : Int32} (F : FxL p s m meth c b L xs D cI cC cQ) (hi : vp_in (i + 1) L ∧ vp_in (i + 2) L ∧ vp_in (i + 3) L ∧ vp_in (i + 4) L) (hB : B ≤ 400000000) (go : GoL p l e s m below meth c b D cI cC cQ d0 n0 na s0 sa h1 h2 mm ma t0 p0 pA z0 za 830 (B + 10000) i) : GoL p l e s m below meth c b D cI cC cQ d0 n0 na s0 sa h1 h2 mm ma t0 p0 pA z0 za 804 B i := by
  intro tk N S oo zz M0 M1 M2 M3 rs de pc pg sg ln po dd lt pl f1s s2s tms sv pa pn sn kp pd l2 so p2 wr l5 fr sc tm hd st H locs ls hrel hP hD hS hl
  obtain ⟨hx, hb, hr, hlocks, hml, hown, hts, hX, hbl, hN, hK, hZ⟩ := F
  have hA : ∀ q : Nat, s.heap.size ≤ q → (fun q : Nat => s.heap.size ≤ q) q := fun _ h => h
  have hbA : ¬ (fun q : Nat => s.heap.size ≤ q) b := Nat.not_le.mpr hbl
  refine lv_aload_n hx hb dL_law_804 rfl (lv_at hl 2 rfl) ?_
  have hPs : va_P D vwCl (([] : va_W) ++ ((DW cI cC cQ d0 n0 na s0 sa h1 h2 mm ma t0 p0 pA tk N S oo zz M0 M1 M2 M3 rs de pc pg sg ln po dd lt pl f1s s2s tms) ++ (MO cI z0 za sv pa pn sn kp pd l2 so p2 wr l5 fr sc tm hd st))) H := hP
  have hDs : va_D (fun q : Nat => s.heap.size ≤ q) (([] : va_W) ++ ((DW cI cC cQ d0 n0 na s0 sa h1 h2 mm ma t0 p0 pA tk N S oo zz M0 M1 M2 M3 rs de pc pg sg ln po dd lt pl f1s s2s tms) ++ (MO cI z0 za sv pa pn sn kp pd l2 so p2 wr l5 fr sc tm hd st))) := hD
  refine k_behi (X := ([] : va_W)) (Y := (MO cI z0 za sv pa pn sn kp pd l2 so p2 wr l5 fr sc tm hd st)) (va_runV (As := []) (rest := []) ⟨hx, hb, hml, hown, hts⟩ (c_X4_save l D cI cC cQ H.size d0 n0 na s0 sa h1 h2 mm ma t0 p0 pA tk N S oo zz M0 M1 M2 M3 rs de pc pg sg ln po dd lt pl f1s s2s tms  ) (kcwV hts wd_ml_RL_108 wd_im_yX4_save wd_sel_yX4_save wd_ini_RX4 wd_code_yX4_save rfl rfl rfl hd_X4_save ⟨Nat.le_of_ble_eq_true rfl, Nat.le_of_ble_eq_true rfl⟩) ⟨in_blind, va_recv hK (pa_l (pa_r hPs)) (ci := 4) (q0 := 0) rfl rfl, k_pre hK (pa_l (pa_r hPs)) (da_l (da_r hDs)) hN⟩ rfl rfl hl.1 rfl (lv_room (Nat.le_of_ble_eq_true rfl)) dL_law_805 ⟨Nat.le_of_ble_eq_true rfl, Nat.le_of_ble_eq_true rfl⟩) hPs hDs hS hA (fun r1 u1 H locs hw1 hP hD hS => ?_)
  have hw1 : (r1, u1) = sh_X4_save N S := hw1
  have hP : va_P D vwCl ((DW cI cC cQ d0 n0 na s0 sa h1 h2 mm ma t0 p0 pA u1.1 N u1.2 oo zz M0 M1 M2 M3 rs de pc pg sg ln po dd lt pl f1s s2s tms) ++ (MO cI z0 za sv pa pn sn kp pd l2 so p2 wr l5 fr sc tm hd st)) H := hP
  have hD : va_D (fun q : Nat => s.heap.size ≤ q) ((DW cI cC cQ d0 n0 na s0 sa h1 h2 mm ma t0 p0 pA u1.1 N u1.2 oo zz M0 M1 M2 M3 rs de pc pg sg ln po dd lt pl f1s s2s tms) ++ (MO cI z0 za sv pa pn sn kp pd l2 so p2 wr l5 fr sc tm hd st)) := hD
  refine lv_aload_n hx hb dL_law_808 rfl (lv_at hl 1 rfl) ?_
  have hPs : va_P D vwCl ((DW cI cC cQ d0 n0 na s0 sa h1 h2 mm ma t0 p0 pA u1.1 N u1.2 oo zz M0 M1 M2 M3 rs de pc pg sg ln po dd lt pl f1s s2s tms) ++ ((MO cI z0 za sv pa pn sn kp pd l2 so p2 wr l5 fr sc tm hd st) ++ ([] : va_W))) H := hP
  have hDs : va_D (fun q : Nat => s.heap.size ≤ q) ((DW cI cC cQ d0 n0 na s0 sa h1 h2 mm ma t0 p0 pA u1.1 N u1.2 oo zz M0 M1 M2 M3 rs de pc pg sg ln po dd lt pl f1s s2s tms) ++ ((MO cI z0 za sv pa pn sn kp pd l2 so p2 wr l5 fr sc tm hd st) ++ ([] : va_W))) := hD
  refine k_behi (X := (DW cI cC cQ d0 n0 na s0 sa h1 h2 mm ma t0 p0 pA u1.1 N u1.2 oo zz M0 M1 M2 M3 rs de pc pg sg ln po dd lt pl f1s s2s tms)) (Y := ([] : va_W)) (va_runV (As := []) (rest := [.int r1]) ⟨hx, hb, hml, hown, hts⟩ (c_X5_save l D cI cC cQ H.size z0 za sv pa pn sn kp pd l2 so p2 wr l5 fr sc tm hd st  ) (kcwV hts wd_ml_RL_111 wd_im_yX5_save wd_sel_yX5_save wd_ini_RX5 wd_code_yX5_save rfl rfl rfl hd_X5_save ⟨Nat.le_of_ble_eq_true rfl, Nat.le_of_ble_eq_true rfl⟩) ⟨in_blind, va_recv hK (pa_l (pa_r hPs)) (ci := 5) (q0 := 0) rfl rfl, k_pre hK (pa_l (pa_r hPs)) (da_l (da_r hDs)) hN⟩ rfl rfl hl.1 rfl (lv_room (Nat.le_of_ble_eq_true rfl)) dL_law_809 ⟨Nat.le_of_ble_eq_true rfl, Nat.le_of_ble_eq_true rfl⟩) hPs hDs hS hA (fun r2 u2 H locs hw2 hP hD hS => ?_)
  have hw2 : (r2, u2) = sh_X5_save sv sn := hw2
  have hP : va_P D vwCl ((DW cI cC cQ d0 n0 na s0 sa h1 h2 mm ma t0 p0 pA u1.1 N u1.2 oo zz M0 M1 M2 M3 rs de pc pg sg ln po dd lt pl f1s s2s tms) ++ (MO cI z0 za sv pa pn u2.1 u2.2 pd l2 so p2 wr l5 fr sc tm hd st)) H := hP
  have hD : va_D (fun q : Nat => s.heap.size ≤ q) ((DW cI cC cQ d0 n0 na s0 sa h1 h2 mm ma t0 p0 pA u1.1 N u1.2 oo zz M0 M1 M2 M3 rs de pc pg sg ln po dd lt pl f1s s2s tms) ++ (MO cI z0 za sv pa pn u2.1 u2.2 pd l2 so p2 wr l5 fr sc tm hd st)) := hD
  have E := e_save hrel (R := (r1, u1)) hw1 (T := (r2, u2)) hw2
  have E1 : r1 = r2 := E.1
  have E2 : Rel (B + 10000) u1.1 N u1.2 oo zz M0 M1 M2 M3 rs de pc pg sg ln sv pa pn u2.1 u2.2 pd l2 so := E.2
  refine lv_icmp_eq (tgt := 830) hx hb dL_law_812 (by decide) (fun _ => ?_) (fun c9 => absurd E1 c9)
  exact go u1.1 N u1.2 oo zz M0 M1 M2 M3 rs de pc pg sg ln po dd lt pl f1s s2s tms sv pa pn u2.1 u2.2 pd l2 so p2 wr l5 fr sc tm hd st _ _ _ (E2) hP hD hS hl
set_option maxHeartbeats 40000000 in
set_option maxRecDepth 100000 in
theorem law_23 {p : Program} {l : Launch} {e : Env} {s : State} {m : MethodId} {below : List Frame} {meth : Method} {c : Code} {b L : Nat} {xs : Nat → Int32} {D : va_G} {cI cC cQ : ClassId} {d0 n0 : Nat} {na : Nat → Nat} {s0 : Nat} {sa : Nat → Nat} {h1 h2 : Nat} {mm : Nat → Nat} {ma : Nat → Nat → Nat} {t0 p0 : Nat} {pA : Nat → Nat} {z0 : Nat} {za : Nat → Nat} {B : Int} {i : Int32} (F : FxL p s m meth c b L xs D cI cC cQ) (hi : vp_in (i + 1) L ∧ vp_in (i + 2) L ∧ vp_in (i + 3) L ∧ vp_in (i + 4) L) (hB : B ≤ 400000000) (go : GoL p l e s m below meth c b D cI cC cQ d0 n0 na s0 sa h1 h2 mm ma t0 p0 pA z0 za 830 (B + 10000) i) : GoL p l e s m below meth c b D cI cC cQ d0 n0 na s0 sa h1 h2 mm ma t0 p0 pA z0 za 817 B i := by
  intro tk N S oo zz M0 M1 M2 M3 rs de pc pg sg ln po dd lt pl f1s s2s tms sv pa pn sn kp pd l2 so p2 wr l5 fr sc tm hd st H locs ls hrel hP hD hS hl
  obtain ⟨hx, hb, hr, hlocks, hml, hown, hts, hX, hbl, hN, hK, hZ⟩ := F
  have hA : ∀ q : Nat, s.heap.size ≤ q → (fun q : Nat => s.heap.size ≤ q) q := fun _ h => h
  have hbA : ¬ (fun q : Nat => s.heap.size ≤ q) b := Nat.not_le.mpr hbl
  refine lv_aload_n hx hb dL_law_817 rfl (lv_at hl 2 rfl) ?_
  have hPs : va_P D vwCl (([] : va_W) ++ ((DW cI cC cQ d0 n0 na s0 sa h1 h2 mm ma t0 p0 pA tk N S oo zz M0 M1 M2 M3 rs de pc pg sg ln po dd lt pl f1s s2s tms) ++ (MO cI z0 za sv pa pn sn kp pd l2 so p2 wr l5 fr sc tm hd st))) H := hP
  have hDs : va_D (fun q : Nat => s.heap.size ≤ q) (([] : va_W) ++ ((DW cI cC cQ d0 n0 na s0 sa h1 h2 mm ma t0 p0 pA tk N S oo zz M0 M1 M2 M3 rs de pc pg sg ln po dd lt pl f1s s2s tms) ++ (MO cI z0 za sv pa pn sn kp pd l2 so p2 wr l5 fr sc tm hd st))) := hD
  refine k_behi (X := ([] : va_W)) (Y := (MO cI z0 za sv pa pn sn kp pd l2 so p2 wr l5 fr sc tm hd st)) (va_runV (As := []) (rest := []) ⟨hx, hb, hml, hown, hts⟩ (c_X4_restore l D cI cC cQ H.size d0 n0 na s0 sa h1 h2 mm ma t0 p0 pA tk N S oo zz M0 M1 M2 M3 rs de pc pg sg ln po dd lt pl f1s s2s tms  (hrel.2.1.1) (hrel.2.1.2.1)) (kcwV hts wd_ml_RL_112 wd_im_yX4_restore wd_sel_yX4_restore wd_ini_RX4 wd_code_yX4_restore rfl rfl rfl hd_X4_restore ⟨Nat.le_of_ble_eq_true rfl, Nat.le_of_ble_eq_true rfl⟩) ⟨in_blind, va_recv hK (pa_l (pa_r hPs)) (ci := 4) (q0 := 0) rfl rfl, k_pre hK (pa_l (pa_r hPs)) (da_l (da_r hDs)) hN⟩ rfl rfl hl.1 rfl (lv_room (Nat.le_of_ble_eq_true rfl)) dL_law_818 ⟨Nat.le_of_ble_eq_true rfl, Nat.le_of_ble_eq_true rfl⟩) hPs hDs hS hA (fun r1 u1 H locs hw1 hP hD hS => ?_)
  have hw1 : (r1, u1) = sh_X4_restore tk N S oo zz M0 M1 M2 M3 := hw1
  have hP : va_P D vwCl ((DW cI cC cQ d0 n0 na s0 sa h1 h2 mm ma t0 p0 pA tk u1.1 S u1.2.1 u1.2.2.1 u1.2.2.2.1 u1.2.2.2.2.1 u1.2.2.2.2.2.1 u1.2.2.2.2.2.2 rs de pc pg sg ln po dd lt pl f1s s2s tms) ++ (MO cI z0 za sv pa pn sn kp pd l2 so p2 wr l5 fr sc tm hd st)) H := hP
  have hD : va_D (fun q : Nat => s.heap.size ≤ q) ((DW cI cC cQ d0 n0 na s0 sa h1 h2 mm ma t0 p0 pA tk u1.1 S u1.2.1 u1.2.2.1 u1.2.2.2.1 u1.2.2.2.2.1 u1.2.2.2.2.2.1 u1.2.2.2.2.2.2 rs de pc pg sg ln po dd lt pl f1s s2s tms) ++ (MO cI z0 za sv pa pn sn kp pd l2 so p2 wr l5 fr sc tm hd st)) := hD
  refine lv_aload_n hx hb dL_law_821 rfl (lv_at hl 1 rfl) ?_
  have hPs : va_P D vwCl ((DW cI cC cQ d0 n0 na s0 sa h1 h2 mm ma t0 p0 pA tk u1.1 S u1.2.1 u1.2.2.1 u1.2.2.2.1 u1.2.2.2.2.1 u1.2.2.2.2.2.1 u1.2.2.2.2.2.2 rs de pc pg sg ln po dd lt pl f1s s2s tms) ++ ((MO cI z0 za sv pa pn sn kp pd l2 so p2 wr l5 fr sc tm hd st) ++ ([] : va_W))) H := hP
  have hDs : va_D (fun q : Nat => s.heap.size ≤ q) ((DW cI cC cQ d0 n0 na s0 sa h1 h2 mm ma t0 p0 pA tk u1.1 S u1.2.1 u1.2.2.1 u1.2.2.2.1 u1.2.2.2.2.1 u1.2.2.2.2.2.1 u1.2.2.2.2.2.2 rs de pc pg sg ln po dd lt pl f1s s2s tms) ++ ((MO cI z0 za sv pa pn sn kp pd l2 so p2 wr l5 fr sc tm hd st) ++ ([] : va_W))) := hD
  refine k_behi (X := (DW cI cC cQ d0 n0 na s0 sa h1 h2 mm ma t0 p0 pA tk u1.1 S u1.2.1 u1.2.2.1 u1.2.2.2.1 u1.2.2.2.2.1 u1.2.2.2.2.2.1 u1.2.2.2.2.2.2 rs de pc pg sg ln po dd lt pl f1s s2s tms)) (Y := ([] : va_W)) (va_runV (As := []) (rest := [.int r1]) ⟨hx, hb, hml, hown, hts⟩ (c_X5_restore l D cI cC cQ H.size z0 za sv pa pn sn kp pd l2 so p2 wr l5 fr sc tm hd st  ((hrel.2.1.2.2.1 ▸ hrel.2.1.2.1))) (kcwV hts wd_ml_RL_115 wd_im_yX5_restore wd_sel_yX5_restore wd_ini_RX5 wd_code_yX5_restore rfl rfl rfl hd_X5_restore ⟨Nat.le_of_ble_eq_true rfl, Nat.le_of_ble_eq_true rfl⟩) ⟨in_blind, va_recv hK (pa_l (pa_r hPs)) (ci := 5) (q0 := 0) rfl rfl, k_pre hK (pa_l (pa_r hPs)) (da_l (da_r hDs)) hN⟩ rfl rfl hl.1 rfl (lv_room (Nat.le_of_ble_eq_true rfl)) dL_law_822 ⟨Nat.le_of_ble_eq_true rfl, Nat.le_of_ble_eq_true rfl⟩) hPs hDs hS hA (fun r2 u2 H locs hw2 hP hD hS => ?_)
  have hw2 : (r2, u2) = sh_X5_restore sv pa pn sn kp := hw2
  have hP : va_P D vwCl ((DW cI cC cQ d0 n0 na s0 sa h1 h2 mm ma t0 p0 pA tk u1.1 S u1.2.1 u1.2.2.1 u1.2.2.2.1 u1.2.2.2.2.1 u1.2.2.2.2.2.1 u1.2.2.2.2.2.2 rs de pc pg sg ln po dd lt pl f1s s2s tms) ++ (MO cI z0 za u2.1 u2.2.1 u2.2.2 sn kp pd l2 so p2 wr l5 fr sc tm hd st)) H := hP
  have hD : va_D (fun q : Nat => s.heap.size ≤ q) ((DW cI cC cQ d0 n0 na s0 sa h1 h2 mm ma t0 p0 pA tk u1.1 S u1.2.1 u1.2.2.1 u1.2.2.2.1 u1.2.2.2.2.1 u1.2.2.2.2.2.1 u1.2.2.2.2.2.2 rs de pc pg sg ln po dd lt pl f1s s2s tms) ++ (MO cI z0 za u2.1 u2.2.1 u2.2.2 sn kp pd l2 so p2 wr l5 fr sc tm hd st)) := hD
  have E := e_restore hrel (R := (r1, u1)) hw1 (T := (r2, u2)) hw2
  have E1 : r1 = r2 := E.1
  have E2 : Rel (B + 10000) tk u1.1 S u1.2.1 u1.2.2.1 u1.2.2.2.1 u1.2.2.2.2.1 u1.2.2.2.2.2.1 u1.2.2.2.2.2.2 rs de pc pg sg ln u2.1 u2.2.1 u2.2.2 sn kp pd l2 so := E.2
  refine lv_icmp_eq (tgt := 830) hx hb dL_law_825 (by decide) (fun _ => ?_) (fun c9 => absurd E1 c9)
  exact go tk u1.1 S u1.2.1 u1.2.2.1 u1.2.2.2.1 u1.2.2.2.2.1 u1.2.2.2.2.2.1 u1.2.2.2.2.2.2 rs de pc pg sg ln po dd lt pl f1s s2s tms u2.1 u2.2.1 u2.2.2 sn kp pd l2 so p2 wr l5 fr sc tm hd st _ _ _ (E2) hP hD hS hl
