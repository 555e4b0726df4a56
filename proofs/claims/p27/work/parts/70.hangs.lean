theorem k_endP {D : va_G} {cl : List vw_C} {X C : va_W} {H : Heap} (h : va_P D cl (X ++ C) H) : va_P D cl (X ++ (C ++ ([] : va_W))) H := by rw [List.append_nil]; exact h
theorem k_endD {A : Nat → Prop} {X C : va_W} (h : va_D A (X ++ C)) : va_D A (X ++ (C ++ ([] : va_W))) := by rw [List.append_nil]; exact h
theorem k_unendP {D : va_G} {cl : List vw_C} {X C : va_W} {H : Heap} (h : va_P D cl (X ++ (C ++ ([] : va_W))) H) : va_P D cl (X ++ C) H := by rw [List.append_nil] at h; exact h
theorem k_unendD {A : Nat → Prop} {X C : va_W} (h : va_D A (X ++ (C ++ ([] : va_W)))) : va_D A (X ++ C) := by rw [List.append_nil] at h; exact h
abbrev rm_L_hangs : Room := { frames := 5, cells := 0, slots := 0, locals := 106 }
theorem hd_L_hangs : hdT yL_hangs 1 := by decide +kernel
set_option maxHeartbeats 40000000 in
set_option maxRecDepth 100000 in
theorem c_L_hangs (l : Launch) (D : va_G) (cI cC cQ : ClassId) (sz : Nat) (d0 : Nat) (n0 : Nat) (na : Nat → Nat) (s0 : Nat) (sa : Nat → Nat) (h1 : Nat) (h2 : Nat) (mm : Nat → Nat) (ma : Nat → Nat → Nat) (t0 : Nat) (p0 : Nat) (pa : Nat → Nat) (tk : Int32) (N : TMa) (S : TMa) (oo : Int32) (zz : Int32) (M0 : TMa) (M1 : TMa) (M2 : TMa) (M3 : TMa) (rs : Int32) (de : Int32) (pc : Int32) (pg : Int32) (sg : Nat → Int32) (ln : Int32) (po : Int32) (dd : Int32) (lt : Nat → Int32) (pl : Nat → Int32) (f1s : Nat → Int32) (s2s : Nat → Int32) (tms : Nat → Int32)  (g : okN N) (hoo : vp_in oo 4) (hzz : vp_in zz 5) : Met l yL_hangs (wsO yL_hangs cL_hangs 14 (some .boolean)) rm_L_hangs (va_Pc [.ref d0] (inW D (TYS cI cC cQ) (DW cI cC cQ d0 n0 na s0 sa h1 h2 mm ma t0 p0 pa tk N S oo zz M0 M1 M2 M3 rs de pc pg sg ln po dd lt pl f1s s2s tms) sz)) (va_Qi (fun (r : Int32) (_ : Unit) => r = 1) (fun (u : Unit) => atW D (TYS cI cC cQ) (va_A (DW cI cC cQ d0 n0 na s0 sa h1 h2 mm ma t0 p0 pa tk N S oo zz M0 M1 M2 M3 rs de pc pg sg ln po dd lt pl f1s s2s tms) sz) (DW cI cC cQ d0 n0 na s0 sa h1 h2 mm ma t0 p0 pa tk N S oo zz M0 M1 M2 M3 rs de pc pg sg ln po dd lt pl f1s s2s tms)) (va_A (DW cI cC cQ d0 n0 na s0 sa h1 h2 mm ma t0 p0 pa tk N S oo zz M0 M1 M2 M3 rs de pc pg sg ln po dd lt pl f1s s2s tms) sz)) 0 0 (va_A (DW cI cC cQ d0 n0 na s0 sa h1 h2 mm ma t0 p0 pa tk N S oo zz M0 M1 M2 M3 rs de pc pg sg ln po dd lt pl f1s s2s tms) sz) := by
  refine k_meti .boolean rfl (by decide) (Nat.le_of_ble_eq_true rfl) ?_
  intro p e s m args below meth c A ls Q H locs hargs hret hx hb hts hown hml hname hN hA hS hP hK hD hl
  have hl : lv_has ls 14 [(0, .ref d0)] := hl
  refine lv_iconst (v := 0) hx hb dL_hangs_0 (by decide) ?_
  refine lv_istore_n (lv' := [(1, .int 0), (0, .ref d0)]) hx hb dL_hangs_1 rfl hl (by decide) rfl (fun ls hl => ?_)
  refine lv_iconst (v := 0) hx hb dL_hangs_2 (by decide) ?_
  refine lv_istore_n (lv' := [(2, .int 0), (1, .int 0), (0, .ref d0)]) hx hb dL_hangs_3 rfl hl (by decide) rfl (fun ls hl => ?_)
  refine lv_iconst (v := 0) hx hb dL_hangs_4 (by decide) ?_
  refine lv_istore_n (lv' := [(3, .int 0), (2, .int 0), (1, .int 0), (0, .ref d0)]) hx hb dL_hangs_5 rfl hl (by decide) rfl (fun ls hl => ?_)
  refine lv_iconst (v := 0) hx hb dL_hangs_6 (by decide) ?_
  refine lv_istore (lv' := [(4, .int 0), (3, .int 0), (2, .int 0), (1, .int 0), (0, .ref d0)]) hx hb dL_hangs_7 hl (by decide) rfl (fun ls hl => ?_)
  refine lv_aload_n hx hb dL_hangs_9 rfl (lv_at hl 4 rfl) ?_
  refine lv_bipush (v := 8) hx hb dL_hangs_10 (by decide) ?_
  have hPs := k_self hP
  have hDs := k_selfD hD
  refine k_behi (X := []) (Y := []) (va_runV (As := [.int 8]) (rest := []) ⟨hx, hb, hml, hown, hts⟩ (c_X4_count l D cI cC cQ H.size d0 n0 na s0 sa h1 h2 mm ma t0 p0 pa tk N S oo zz M0 M1 M2 M3 rs de pc pg sg ln po dd lt pl f1s s2s tms 8) (kcwV hts wd_ml_RL_53 wd_im_yX4_count wd_sel_yX4_count wd_ini_RX4 wd_code_yX4_count rfl rfl rfl hd_X4_count ⟨Nat.le_of_ble_eq_true rfl, Nat.le_of_ble_eq_true rfl⟩) ⟨in_blind, va_recv hK (pa_l (pa_r hPs)) (ci := 4) (q0 := 0) rfl rfl, k_pre hK (pa_l (pa_r hPs)) (da_l (da_r hDs)) hN⟩ rfl rfl hl.1 rfl (lv_room (Nat.le_of_ble_eq_true rfl)) dL_hangs_12 ⟨Nat.le_of_ble_eq_true rfl, Nat.le_of_ble_eq_true rfl⟩) hPs hDs hS hA (fun r1 u2 H locs hw3 hP hD hS => ?_)
  have hP := k_unP hP
  have hD := k_unD hD
  have hP : va_P D vwCl (DW cI cC cQ d0 n0 na s0 sa h1 h2 mm ma t0 p0 pa tk N S oo zz M0 M1 M2 M3 rs de pc pg sg ln po dd lt pl f1s s2s tms) H := hP
  have hD : va_D A (DW cI cC cQ d0 n0 na s0 sa h1 h2 mm ma t0 p0 pa tk N S oo zz M0 M1 M2 M3 rs de pc pg sg ln po dd lt pl f1s s2s tms) := hD
  have hw3 : r1 = (sh_X4_count N zz ln 8) := hw3
  subst hw3
  refine lv_if_le (tgt := 94) hx hb dL_hangs_15 (by decide) (fun c9 => absurd c9 (hg_15 g)) (fun _ => ?_)
  refine lv_aload_n hx hb dL_hangs_18 rfl (lv_at hl 4 rfl) ?_
  refine lv_bipush (v := 8) hx hb dL_hangs_19 (by decide) ?_
  have hPs := k_self hP
  have hDs := k_selfD hD
  refine k_behi (X := []) (Y := []) (va_runV (As := [.int 8]) (rest := []) ⟨hx, hb, hml, hown, hts⟩ (c_X4_count l D cI cC cQ H.size d0 n0 na s0 sa h1 h2 mm ma t0 p0 pa tk N S oo zz M0 M1 M2 M3 rs de pc pg sg ln po dd lt pl f1s s2s tms 8) (kcwV hts wd_ml_RL_53 wd_im_yX4_count wd_sel_yX4_count wd_ini_RX4 wd_code_yX4_count rfl rfl rfl hd_X4_count ⟨Nat.le_of_ble_eq_true rfl, Nat.le_of_ble_eq_true rfl⟩) ⟨in_blind, va_recv hK (pa_l (pa_r hPs)) (ci := 4) (q0 := 0) rfl rfl, k_pre hK (pa_l (pa_r hPs)) (da_l (da_r hDs)) hN⟩ rfl rfl hl.1 rfl (lv_room (Nat.le_of_ble_eq_true rfl)) dL_hangs_21 ⟨Nat.le_of_ble_eq_true rfl, Nat.le_of_ble_eq_true rfl⟩) hPs hDs hS hA (fun r4 u5 H locs hw6 hP hD hS => ?_)
  have hP := k_unP hP
  have hD := k_unD hD
  have hP : va_P D vwCl (DW cI cC cQ d0 n0 na s0 sa h1 h2 mm ma t0 p0 pa tk N S oo zz M0 M1 M2 M3 rs de pc pg sg ln po dd lt pl f1s s2s tms) H := hP
  have hD : va_D A (DW cI cC cQ d0 n0 na s0 sa h1 h2 mm ma t0 p0 pa tk N S oo zz M0 M1 M2 M3 rs de pc pg sg ln po dd lt pl f1s s2s tms) := hD
  have hw6 : r4 = (sh_X4_count N zz ln 8) := hw6
  subst hw6
  refine lv_bipush (v := 6) hx hb dL_hangs_24 (by decide) ?_
  refine lv_icmp_ge (tgt := 94) hx hb dL_hangs_26 (by decide) (fun c9 => absurd c9 (hg_26 g)) (fun _ => ?_)
  refine lv_aload_n hx hb dL_hangs_29 rfl (lv_at hl 4 rfl) ?_
  refine lv_bipush (v := 9) hx hb dL_hangs_30 (by decide) ?_
  have hPs := k_self hP
  have hDs := k_selfD hD
  refine k_behi (X := []) (Y := []) (va_runV (As := [.int 9]) (rest := []) ⟨hx, hb, hml, hown, hts⟩ (c_X4_count l D cI cC cQ H.size d0 n0 na s0 sa h1 h2 mm ma t0 p0 pa tk N S oo zz M0 M1 M2 M3 rs de pc pg sg ln po dd lt pl f1s s2s tms 9) (kcwV hts wd_ml_RL_53 wd_im_yX4_count wd_sel_yX4_count wd_ini_RX4 wd_code_yX4_count rfl rfl rfl hd_X4_count ⟨Nat.le_of_ble_eq_true rfl, Nat.le_of_ble_eq_true rfl⟩) ⟨in_blind, va_recv hK (pa_l (pa_r hPs)) (ci := 4) (q0 := 0) rfl rfl, k_pre hK (pa_l (pa_r hPs)) (da_l (da_r hDs)) hN⟩ rfl rfl hl.1 rfl (lv_room (Nat.le_of_ble_eq_true rfl)) dL_hangs_32 ⟨Nat.le_of_ble_eq_true rfl, Nat.le_of_ble_eq_true rfl⟩) hPs hDs hS hA (fun r7 u8 H locs hw9 hP hD hS => ?_)
  have hP := k_unP hP
  have hD := k_unD hD
  have hP : va_P D vwCl (DW cI cC cQ d0 n0 na s0 sa h1 h2 mm ma t0 p0 pa tk N S oo zz M0 M1 M2 M3 rs de pc pg sg ln po dd lt pl f1s s2s tms) H := hP
  have hD : va_D A (DW cI cC cQ d0 n0 na s0 sa h1 h2 mm ma t0 p0 pa tk N S oo zz M0 M1 M2 M3 rs de pc pg sg ln po dd lt pl f1s s2s tms) := hD
  have hw9 : r7 = (sh_X4_count N zz ln 9) := hw9
  subst hw9
  refine lv_iconst (v := 1) hx hb dL_hangs_35 (by decide) ?_
  refine lv_icmp_le (tgt := 94) hx hb dL_hangs_36 (by decide) (fun c9 => absurd c9 (hg_36 g)) (fun _ => ?_)
  refine lv_aload_n hx hb dL_hangs_39 rfl (lv_at hl 4 rfl) ?_
  refine lv_bipush (v := 9) hx hb dL_hangs_40 (by decide) ?_
  have hPs := k_self hP
  have hDs := k_selfD hD
  refine k_behi (X := []) (Y := []) (va_runV (As := [.int 9]) (rest := []) ⟨hx, hb, hml, hown, hts⟩ (c_X4_count l D cI cC cQ H.size d0 n0 na s0 sa h1 h2 mm ma t0 p0 pa tk N S oo zz M0 M1 M2 M3 rs de pc pg sg ln po dd lt pl f1s s2s tms 9) (kcwV hts wd_ml_RL_53 wd_im_yX4_count wd_sel_yX4_count wd_ini_RX4 wd_code_yX4_count rfl rfl rfl hd_X4_count ⟨Nat.le_of_ble_eq_true rfl, Nat.le_of_ble_eq_true rfl⟩) ⟨in_blind, va_recv hK (pa_l (pa_r hPs)) (ci := 4) (q0 := 0) rfl rfl, k_pre hK (pa_l (pa_r hPs)) (da_l (da_r hDs)) hN⟩ rfl rfl hl.1 rfl (lv_room (Nat.le_of_ble_eq_true rfl)) dL_hangs_42 ⟨Nat.le_of_ble_eq_true rfl, Nat.le_of_ble_eq_true rfl⟩) hPs hDs hS hA (fun r10 u11 H locs hw12 hP hD hS => ?_)
  have hP := k_unP hP
  have hD := k_unD hD
  have hP : va_P D vwCl (DW cI cC cQ d0 n0 na s0 sa h1 h2 mm ma t0 p0 pa tk N S oo zz M0 M1 M2 M3 rs de pc pg sg ln po dd lt pl f1s s2s tms) H := hP
  have hD : va_D A (DW cI cC cQ d0 n0 na s0 sa h1 h2 mm ma t0 p0 pa tk N S oo zz M0 M1 M2 M3 rs de pc pg sg ln po dd lt pl f1s s2s tms) := hD
  have hw12 : r10 = (sh_X4_count N zz ln 9) := hw12
  subst hw12
  refine lv_bipush (v := 51) hx hb dL_hangs_45 (by decide) ?_
  refine lv_icmp_ge (tgt := 94) hx hb dL_hangs_47 (by decide) (fun c9 => absurd c9 (hg_47 g)) (fun _ => ?_)
  refine lv_aload_n hx hb dL_hangs_50 rfl (lv_at hl 4 rfl) ?_
  refine lv_bipush (v := 10) hx hb dL_hangs_51 (by decide) ?_
  have hPs := k_self hP
  have hDs := k_selfD hD
  refine k_behi (X := []) (Y := []) (va_runV (As := [.int 10]) (rest := []) ⟨hx, hb, hml, hown, hts⟩ (c_X4_count l D cI cC cQ H.size d0 n0 na s0 sa h1 h2 mm ma t0 p0 pa tk N S oo zz M0 M1 M2 M3 rs de pc pg sg ln po dd lt pl f1s s2s tms 10) (kcwV hts wd_ml_RL_53 wd_im_yX4_count wd_sel_yX4_count wd_ini_RX4 wd_code_yX4_count rfl rfl rfl hd_X4_count ⟨Nat.le_of_ble_eq_true rfl, Nat.le_of_ble_eq_true rfl⟩) ⟨in_blind, va_recv hK (pa_l (pa_r hPs)) (ci := 4) (q0 := 0) rfl rfl, k_pre hK (pa_l (pa_r hPs)) (da_l (da_r hDs)) hN⟩ rfl rfl hl.1 rfl (lv_room (Nat.le_of_ble_eq_true rfl)) dL_hangs_53 ⟨Nat.le_of_ble_eq_true rfl, Nat.le_of_ble_eq_true rfl⟩) hPs hDs hS hA (fun r13 u14 H locs hw15 hP hD hS => ?_)
  have hP := k_unP hP
  have hD := k_unD hD
  have hP : va_P D vwCl (DW cI cC cQ d0 n0 na s0 sa h1 h2 mm ma t0 p0 pa tk N S oo zz M0 M1 M2 M3 rs de pc pg sg ln po dd lt pl f1s s2s tms) H := hP
  have hD : va_D A (DW cI cC cQ d0 n0 na s0 sa h1 h2 mm ma t0 p0 pa tk N S oo zz M0 M1 M2 M3 rs de pc pg sg ln po dd lt pl f1s s2s tms) := hD
  have hw15 : r13 = (sh_X4_count N zz ln 10) := hw15
  subst hw15
  refine lv_if_lt (tgt := 94) hx hb dL_hangs_56 (by decide) (fun c9 => absurd c9 (hg_56 g)) (fun _ => ?_)
  refine lv_aload_n hx hb dL_hangs_59 rfl (lv_at hl 4 rfl) ?_
  refine lv_bipush (v := 10) hx hb dL_hangs_60 (by decide) ?_
  have hPs := k_self hP
  have hDs := k_selfD hD
  refine k_behi (X := []) (Y := []) (va_runV (As := [.int 10]) (rest := []) ⟨hx, hb, hml, hown, hts⟩ (c_X4_count l D cI cC cQ H.size d0 n0 na s0 sa h1 h2 mm ma t0 p0 pa tk N S oo zz M0 M1 M2 M3 rs de pc pg sg ln po dd lt pl f1s s2s tms 10) (kcwV hts wd_ml_RL_53 wd_im_yX4_count wd_sel_yX4_count wd_ini_RX4 wd_code_yX4_count rfl rfl rfl hd_X4_count ⟨Nat.le_of_ble_eq_true rfl, Nat.le_of_ble_eq_true rfl⟩) ⟨in_blind, va_recv hK (pa_l (pa_r hPs)) (ci := 4) (q0 := 0) rfl rfl, k_pre hK (pa_l (pa_r hPs)) (da_l (da_r hDs)) hN⟩ rfl rfl hl.1 rfl (lv_room (Nat.le_of_ble_eq_true rfl)) dL_hangs_62 ⟨Nat.le_of_ble_eq_true rfl, Nat.le_of_ble_eq_true rfl⟩) hPs hDs hS hA (fun r16 u17 H locs hw18 hP hD hS => ?_)
  have hP := k_unP hP
  have hD := k_unD hD
  have hP : va_P D vwCl (DW cI cC cQ d0 n0 na s0 sa h1 h2 mm ma t0 p0 pa tk N S oo zz M0 M1 M2 M3 rs de pc pg sg ln po dd lt pl f1s s2s tms) H := hP
  have hD : va_D A (DW cI cC cQ d0 n0 na s0 sa h1 h2 mm ma t0 p0 pa tk N S oo zz M0 M1 M2 M3 rs de pc pg sg ln po dd lt pl f1s s2s tms) := hD
  have hw18 : r16 = (sh_X4_count N zz ln 10) := hw18
  subst hw18
  refine lv_iconst (v := 2) hx hb dL_hangs_65 (by decide) ?_
  refine lv_icmp_ge (tgt := 94) hx hb dL_hangs_66 (by decide) (fun c9 => absurd c9 (hg_66 g)) (fun _ => ?_)
  refine lv_aload_n hx hb dL_hangs_69 rfl (lv_at hl 4 rfl) ?_
  refine lv_bipush (v := 11) hx hb dL_hangs_70 (by decide) ?_
  have hPs := k_self hP
  have hDs := k_selfD hD
  refine k_behi (X := []) (Y := []) (va_runV (As := [.int 11]) (rest := []) ⟨hx, hb, hml, hown, hts⟩ (c_X4_count l D cI cC cQ H.size d0 n0 na s0 sa h1 h2 mm ma t0 p0 pa tk N S oo zz M0 M1 M2 M3 rs de pc pg sg ln po dd lt pl f1s s2s tms 11) (kcwV hts wd_ml_RL_53 wd_im_yX4_count wd_sel_yX4_count wd_ini_RX4 wd_code_yX4_count rfl rfl rfl hd_X4_count ⟨Nat.le_of_ble_eq_true rfl, Nat.le_of_ble_eq_true rfl⟩) ⟨in_blind, va_recv hK (pa_l (pa_r hPs)) (ci := 4) (q0 := 0) rfl rfl, k_pre hK (pa_l (pa_r hPs)) (da_l (da_r hDs)) hN⟩ rfl rfl hl.1 rfl (lv_room (Nat.le_of_ble_eq_true rfl)) dL_hangs_72 ⟨Nat.le_of_ble_eq_true rfl, Nat.le_of_ble_eq_true rfl⟩) hPs hDs hS hA (fun r19 u20 H locs hw21 hP hD hS => ?_)
  have hP := k_unP hP
  have hD := k_unD hD
  have hP : va_P D vwCl (DW cI cC cQ d0 n0 na s0 sa h1 h2 mm ma t0 p0 pa tk N S oo zz M0 M1 M2 M3 rs de pc pg sg ln po dd lt pl f1s s2s tms) H := hP
  have hD : va_D A (DW cI cC cQ d0 n0 na s0 sa h1 h2 mm ma t0 p0 pa tk N S oo zz M0 M1 M2 M3 rs de pc pg sg ln po dd lt pl f1s s2s tms) := hD
  have hw21 : r19 = (sh_X4_count N zz ln 11) := hw21
  subst hw21
  refine lv_if_le (tgt := 94) hx hb dL_hangs_75 (by decide) (fun c9 => absurd c9 (hg_75 g)) (fun _ => ?_)
  refine lv_aload_n hx hb dL_hangs_78 rfl (lv_at hl 4 rfl) ?_
  refine lv_bipush (v := 11) hx hb dL_hangs_79 (by decide) ?_
  have hPs := k_self hP
  have hDs := k_selfD hD
  refine k_behi (X := []) (Y := []) (va_runV (As := [.int 11]) (rest := []) ⟨hx, hb, hml, hown, hts⟩ (c_X4_count l D cI cC cQ H.size d0 n0 na s0 sa h1 h2 mm ma t0 p0 pa tk N S oo zz M0 M1 M2 M3 rs de pc pg sg ln po dd lt pl f1s s2s tms 11) (kcwV hts wd_ml_RL_53 wd_im_yX4_count wd_sel_yX4_count wd_ini_RX4 wd_code_yX4_count rfl rfl rfl hd_X4_count ⟨Nat.le_of_ble_eq_true rfl, Nat.le_of_ble_eq_true rfl⟩) ⟨in_blind, va_recv hK (pa_l (pa_r hPs)) (ci := 4) (q0 := 0) rfl rfl, k_pre hK (pa_l (pa_r hPs)) (da_l (da_r hDs)) hN⟩ rfl rfl hl.1 rfl (lv_room (Nat.le_of_ble_eq_true rfl)) dL_hangs_81 ⟨Nat.le_of_ble_eq_true rfl, Nat.le_of_ble_eq_true rfl⟩) hPs hDs hS hA (fun r22 u23 H locs hw24 hP hD hS => ?_)
  have hP := k_unP hP
  have hD := k_unD hD
  have hP : va_P D vwCl (DW cI cC cQ d0 n0 na s0 sa h1 h2 mm ma t0 p0 pa tk N S oo zz M0 M1 M2 M3 rs de pc pg sg ln po dd lt pl f1s s2s tms) H := hP
  have hD : va_D A (DW cI cC cQ d0 n0 na s0 sa h1 h2 mm ma t0 p0 pa tk N S oo zz M0 M1 M2 M3 rs de pc pg sg ln po dd lt pl f1s s2s tms) := hD
  have hw24 : r22 = (sh_X4_count N zz ln 11) := hw24
  subst hw24
  refine lv_sipush (v := 501) hx hb dL_hangs_84 (by decide) ?_
  refine lv_icmp_ge (tgt := 94) hx hb dL_hangs_87 (by decide) (fun c9 => absurd c9 (hg_87 g)) (fun _ => ?_)
  refine lv_iconst (v := 1) hx hb dL_hangs_90 (by decide) ?_
  refine lv_goto (tgt := 95) hx hb dL_hangs_91 (by decide) ?_
  refine lv_istore (lv' := [(5, .int 1), (4, .int 0), (3, .int 0), (2, .int 0), (1, .int 0), (0, .ref d0)]) hx hb dL_hangs_95 hl (by decide) rfl (fun ls hl => ?_)
  refine lv_iconst (v := 0) hx hb dL_hangs_97 (by decide) ?_
  refine lv_istore (lv' := [(6, .int 0), (5, .int 1), (4, .int 0), (3, .int 0), (2, .int 0), (1, .int 0), (0, .ref d0)]) hx hb dL_hangs_98 hl (by decide) rfl (fun ls hl => ?_)
  have L100 : ∀ (fu : Nat) (al : Int32) (le : Int32) (bo : Int32) (nn : Int32) (k6 : Int32) (H : Heap) (locs : List Loc) (ls : Array Slot), ((4 : Int32).toInt - (k6 : Int32).toInt).toNat < fu → (hgI N k6 al le bo nn) → va_P D vwCl (DW cI cC cQ d0 n0 na s0 sa h1 h2 mm ma t0 p0 pa tk N S oo zz M0 M1 M2 M3 rs de pc pg sg ln po dd lt pl f1s s2s tms) H → va_D A (DW cI cC cQ d0 n0 na s0 sa h1 h2 mm ma t0 p0 pa tk N S oo zz M0 M1 M2 M3 rs de pc pg sg ln po dd lt pl f1s s2s tms) → va_S A s.heap H locs → lv_has ls 14 [(6, .int k6), (5, .int 1), (4, .int nn), (3, .int bo), (2, .int le), (1, .int al), (0, .ref d0)] → W p l e rm_L_hangs s m args below meth c H locs 0 0 Q (F0 m 100 ls []) := by
    intro fu
    induction fu with
    | zero => intro al le bo nn k6 H locs ls hmu; exact absurd hmu (Nat.not_lt_zero _)
    | succ fu ih =>
      intro al le bo nn k6 H locs ls hmu hI hP hD hS hl
      refine lv_iload hx hb dL_hangs_100 (lv_at hl 0 rfl) ?_
      refine lv_iconst (v := 4) hx hb dL_hangs_102 (by decide) ?_
      refine lv_icmp_ge (tgt := 641) hx hb dL_hangs_103 (by decide) (fun c25 => ?_) (fun c25 => ?_)
      · skip
        refine lv_iconst (v := 0) hx hb dL_hangs_641 (by decide) ?_
        refine lv_istore (lv' := [(6, .int 0), (5, .int 1), (4, .int nn), (3, .int bo), (2, .int le), (1, .int al), (0, .ref d0)]) hx hb dL_hangs_642 hl (by decide) rfl (fun ls hl => ?_)
        refine lv_iconst (v := 0) hx hb dL_hangs_644 (by decide) ?_
        refine lv_istore (lv' := [(7, .int 0), (6, .int 0), (5, .int 1), (4, .int nn), (3, .int bo), (2, .int le), (1, .int al), (0, .ref d0)]) hx hb dL_hangs_645 hl (by decide) rfl (fun ls hl => ?_)
        refine lv_iconst (v := 0) hx hb dL_hangs_647 (by decide) ?_
        refine lv_istore (lv' := [(8, .int 0), (7, .int 0), (6, .int 0), (5, .int 1), (4, .int nn), (3, .int bo), (2, .int le), (1, .int al), (0, .ref d0)]) hx hb dL_hangs_648 hl (by decide) rfl (fun ls hl => ?_)
        refine lv_iload hx hb dL_hangs_650 (lv_at hl 0 rfl) ?_
        refine lv_iconst (v := 2) hx hb dL_hangs_652 (by decide) ?_
        refine lv_icmp_ge (tgt := 865) hx hb dL_hangs_653 (by decide) (fun c9 => absurd c9 (by decide)) (fun _ => ?_)
        refine lv_iload hx hb dL_hangs_656 (lv_at hl 3 rfl) ?_
        refine lv_if_eq (tgt := 865) hx hb dL_hangs_658 (by decide) (fun c9 => absurd c9 (by decide)) (fun _ => ?_)
        refine lv_aload_n hx hb dL_hangs_661 rfl (lv_at hl 8 rfl) ?_
        refine lv_iload hx hb dL_hangs_662 (lv_at hl 0 rfl) ?_
        refine lv_iconst (v := 0) hx hb dL_hangs_664 (by decide) ?_
        have hPs := k_self hP
        have hDs := k_selfD hD
        refine k_behi (X := []) (Y := []) (va_runV (As := [.int 0, .int 0]) (rest := []) ⟨hx, hb, hml, hown, hts⟩ (c_X4_printer l D cI cC cQ H.size d0 n0 na s0 sa h1 h2 mm ma t0 p0 pa tk N S oo zz M0 M1 M2 M3 rs de pc pg sg ln po dd lt pl f1s s2s tms 0 0) (kcwV hts wd_ml_RL_60 wd_im_yX4_printer wd_sel_yX4_printer wd_ini_RX4 wd_code_yX4_printer rfl rfl rfl hd_X4_printer ⟨Nat.le_of_ble_eq_true rfl, Nat.le_of_ble_eq_true rfl⟩) ⟨in_blind, va_recv hK (pa_l (pa_r hPs)) (ci := 4) (q0 := 0) rfl rfl, k_pre hK (pa_l (pa_r hPs)) (da_l (da_r hDs)) hN⟩ rfl rfl hl.1 rfl (lv_room (Nat.le_of_ble_eq_true rfl)) dL_hangs_665 ⟨Nat.le_of_ble_eq_true rfl, Nat.le_of_ble_eq_true rfl⟩) hPs hDs hS hA (fun r26 u27 H locs hw28 hP hD hS => ?_)
        have hP := k_unP hP
        have hD := k_unD hD
        have hP : va_P D vwCl (DW cI cC cQ d0 n0 na s0 sa h1 h2 mm ma t0 p0 pa tk N S oo zz M0 M1 M2 M3 rs de pc pg sg ln po dd lt pl f1s s2s tms) H := hP
        have hD : va_D A (DW cI cC cQ d0 n0 na s0 sa h1 h2 mm ma t0 p0 pa tk N S oo zz M0 M1 M2 M3 rs de pc pg sg ln po dd lt pl f1s s2s tms) := hD
        have hw28 : r26 = (sh_X4_printer N 0 0) := hw28
        subst hw28
        refine lv_istore (lv' := [(9, .int (sh_X4_printer N 0 0)), (8, .int 0), (7, .int 0), (6, .int 0), (5, .int 1), (4, .int nn), (3, .int bo), (2, .int le), (1, .int al), (0, .ref d0)]) hx hb dL_hangs_668 hl (by decide) rfl (fun ls hl => ?_)
        refine lv_iload hx hb dL_hangs_670 (lv_at hl 3 rfl) ?_
        refine lv_aload_n hx hb dL_hangs_672 rfl (lv_at hl 9 rfl) ?_
        refine lv_iload hx hb dL_hangs_673 (lv_at hl 1 rfl) ?_
        refine lv_iconst (v := 1) hx hb dL_hangs_675 (by decide) ?_
        have hPs := k_self hP
        have hDs := k_selfD hD
        refine k_behi (X := []) (Y := []) (va_runV (As := [.int 0, .int 1]) (rest := [.int 0]) ⟨hx, hb, hml, hown, hts⟩ (c_X4_printer l D cI cC cQ H.size d0 n0 na s0 sa h1 h2 mm ma t0 p0 pa tk N S oo zz M0 M1 M2 M3 rs de pc pg sg ln po dd lt pl f1s s2s tms 0 1) (kcwV hts wd_ml_RL_60 wd_im_yX4_printer wd_sel_yX4_printer wd_ini_RX4 wd_code_yX4_printer rfl rfl rfl hd_X4_printer ⟨Nat.le_of_ble_eq_true rfl, Nat.le_of_ble_eq_true rfl⟩) ⟨in_blind, va_recv hK (pa_l (pa_r hPs)) (ci := 4) (q0 := 0) rfl rfl, k_pre hK (pa_l (pa_r hPs)) (da_l (da_r hDs)) hN⟩ rfl rfl hl.1 rfl (lv_room (Nat.le_of_ble_eq_true rfl)) dL_hangs_676 ⟨Nat.le_of_ble_eq_true rfl, Nat.le_of_ble_eq_true rfl⟩) hPs hDs hS hA (fun r29 u30 H locs hw31 hP hD hS => ?_)
        have hP := k_unP hP
        have hD := k_unD hD
        have hP : va_P D vwCl (DW cI cC cQ d0 n0 na s0 sa h1 h2 mm ma t0 p0 pa tk N S oo zz M0 M1 M2 M3 rs de pc pg sg ln po dd lt pl f1s s2s tms) H := hP
        have hD : va_D A (DW cI cC cQ d0 n0 na s0 sa h1 h2 mm ma t0 p0 pa tk N S oo zz M0 M1 M2 M3 rs de pc pg sg ln po dd lt pl f1s s2s tms) := hD
        have hw31 : r29 = (sh_X4_printer N 0 1) := hw31
        subst hw31
        refine lv_aload_n hx hb dL_hangs_679 rfl (lv_at hl 9 rfl) ?_
        refine lv_iload hx hb dL_hangs_680 (lv_at hl 1 rfl) ?_
        refine lv_iconst (v := 2) hx hb dL_hangs_682 (by decide) ?_
        have hPs := k_self hP
        have hDs := k_selfD hD
        refine k_behi (X := []) (Y := []) (va_runV (As := [.int 0, .int 2]) (rest := [.int (sh_X4_printer N 0 1), .int 0]) ⟨hx, hb, hml, hown, hts⟩ (c_X4_printer l D cI cC cQ H.size d0 n0 na s0 sa h1 h2 mm ma t0 p0 pa tk N S oo zz M0 M1 M2 M3 rs de pc pg sg ln po dd lt pl f1s s2s tms 0 2) (kcwV hts wd_ml_RL_60 wd_im_yX4_printer wd_sel_yX4_printer wd_ini_RX4 wd_code_yX4_printer rfl rfl rfl hd_X4_printer ⟨Nat.le_of_ble_eq_true rfl, Nat.le_of_ble_eq_true rfl⟩) ⟨in_blind, va_recv hK (pa_l (pa_r hPs)) (ci := 4) (q0 := 0) rfl rfl, k_pre hK (pa_l (pa_r hPs)) (da_l (da_r hDs)) hN⟩ rfl rfl hl.1 rfl (lv_room (Nat.le_of_ble_eq_true rfl)) dL_hangs_683 ⟨Nat.le_of_ble_eq_true rfl, Nat.le_of_ble_eq_true rfl⟩) hPs hDs hS hA (fun r32 u33 H locs hw34 hP hD hS => ?_)
        have hP := k_unP hP
        have hD := k_unD hD
        have hP : va_P D vwCl (DW cI cC cQ d0 n0 na s0 sa h1 h2 mm ma t0 p0 pa tk N S oo zz M0 M1 M2 M3 rs de pc pg sg ln po dd lt pl f1s s2s tms) H := hP
        have hD : va_D A (DW cI cC cQ d0 n0 na s0 sa h1 h2 mm ma t0 p0 pa tk N S oo zz M0 M1 M2 M3 rs de pc pg sg ln po dd lt pl f1s s2s tms) := hD
        have hw34 : r32 = (sh_X4_printer N 0 2) := hw34
        subst hw34
        refine lv_iadd hx hb dL_hangs_686 ?_
        refine lv_iadd hx hb dL_hangs_687 ?_
        refine lv_istore (lv' := [(6, .int (0 + ((sh_X4_printer N 0 1) + (sh_X4_printer N 0 2)))), (9, .int (sh_X4_printer N 0 0)), (8, .int 0), (7, .int 0), (5, .int 1), (4, .int nn), (3, .int bo), (2, .int le), (1, .int al), (0, .ref d0)]) hx hb dL_hangs_688 hl (by decide) rfl (fun ls hl => ?_)
        refine lv_iload hx hb dL_hangs_690 (lv_at hl 3 rfl) ?_
        refine lv_aload_n hx hb dL_hangs_692 rfl (lv_at hl 9 rfl) ?_
        refine lv_iload hx hb dL_hangs_693 (lv_at hl 2 rfl) ?_
        refine lv_iconst (v := 1) hx hb dL_hangs_695 (by decide) ?_
        have hPs := k_self hP
        have hDs := k_selfD hD
        refine k_behi (X := []) (Y := []) (va_runV (As := [.int 0, .int 1]) (rest := [.int 0]) ⟨hx, hb, hml, hown, hts⟩ (c_X4_printer l D cI cC cQ H.size d0 n0 na s0 sa h1 h2 mm ma t0 p0 pa tk N S oo zz M0 M1 M2 M3 rs de pc pg sg ln po dd lt pl f1s s2s tms 0 1) (kcwV hts wd_ml_RL_60 wd_im_yX4_printer wd_sel_yX4_printer wd_ini_RX4 wd_code_yX4_printer rfl rfl rfl hd_X4_printer ⟨Nat.le_of_ble_eq_true rfl, Nat.le_of_ble_eq_true rfl⟩) ⟨in_blind, va_recv hK (pa_l (pa_r hPs)) (ci := 4) (q0 := 0) rfl rfl, k_pre hK (pa_l (pa_r hPs)) (da_l (da_r hDs)) hN⟩ rfl rfl hl.1 rfl (lv_room (Nat.le_of_ble_eq_true rfl)) dL_hangs_696 ⟨Nat.le_of_ble_eq_true rfl, Nat.le_of_ble_eq_true rfl⟩) hPs hDs hS hA (fun r35 u36 H locs hw37 hP hD hS => ?_)
        have hP := k_unP hP
        have hD := k_unD hD
        have hP : va_P D vwCl (DW cI cC cQ d0 n0 na s0 sa h1 h2 mm ma t0 p0 pa tk N S oo zz M0 M1 M2 M3 rs de pc pg sg ln po dd lt pl f1s s2s tms) H := hP
        have hD : va_D A (DW cI cC cQ d0 n0 na s0 sa h1 h2 mm ma t0 p0 pa tk N S oo zz M0 M1 M2 M3 rs de pc pg sg ln po dd lt pl f1s s2s tms) := hD
        have hw37 : r35 = (sh_X4_printer N 0 1) := hw37
        subst hw37
        refine lv_iadd hx hb dL_hangs_699 ?_
        refine lv_istore (lv' := [(7, .int (0 + (sh_X4_printer N 0 1))), (6, .int (0 + ((sh_X4_printer N 0 1) + (sh_X4_printer N 0 2)))), (9, .int (sh_X4_printer N 0 0)), (8, .int 0), (5, .int 1), (4, .int nn), (3, .int bo), (2, .int le), (1, .int al), (0, .ref d0)]) hx hb dL_hangs_700 hl (by decide) rfl (fun ls hl => ?_)
        refine lv_iload hx hb dL_hangs_702 (lv_at hl 2 rfl) ?_
        refine lv_bipush (v := (-4)) hx hb dL_hangs_704 (by decide) ?_
        have K : ∀  (H : Heap) (locs : List Loc) (ls : Array Slot), va_P D vwCl (DW cI cC cQ d0 n0 na s0 sa h1 h2 mm ma t0 p0 pa tk N S oo zz M0 M1 M2 M3 rs de pc pg sg ln po dd lt pl f1s s2s tms) H → va_D A (DW cI cC cQ d0 n0 na s0 sa h1 h2 mm ma t0 p0 pa tk N S oo zz M0 M1 M2 M3 rs de pc pg sg ln po dd lt pl f1s s2s tms) → va_S A s.heap H locs → lv_has ls 14 [(0, .ref d0), (1, .int al), (2, .int le), (3, .int bo), (4, .int nn), (5, .int 1), (6, .int (0 + ((sh_X4_printer N 0 1) + (sh_X4_printer N 0 2)))), (7, .int (0 + (sh_X4_printer N 0 1))), (8, .int 0), (9, .int (sh_X4_printer N 0 0))] → W p l e rm_L_hangs s m args below meth c H locs 0 0 Q (F0 m 732 ls []) := by
          intro  H locs ls  hP hD hS hl
          refine lv_iload hx hb dL_hangs_732 (lv_at hl 9 rfl) ?_
          refine lv_bipush (v := (-4)) hx hb dL_hangs_734 (by decide) ?_
          have K : ∀ (v45 : Int32) (H : Heap) (locs : List Loc) (ls : Array Slot), v45 = (if (sh_X4_printer N 0 0) = (-4) then 1 else 0) → va_P D vwCl (DW cI cC cQ d0 n0 na s0 sa h1 h2 mm ma t0 p0 pa tk N S oo zz M0 M1 M2 M3 rs de pc pg sg ln po dd lt pl f1s s2s tms) H → va_D A (DW cI cC cQ d0 n0 na s0 sa h1 h2 mm ma t0 p0 pa tk N S oo zz M0 M1 M2 M3 rs de pc pg sg ln po dd lt pl f1s s2s tms) → va_S A s.heap H locs → lv_has ls 14 [(0, .ref d0), (1, .int al), (2, .int le), (3, .int bo), (4, .int nn), (5, .int 1), (6, .int (0 + ((sh_X4_printer N 0 1) + (sh_X4_printer N 0 2)))), (7, .int (0 + (sh_X4_printer N 0 1))), (8, .int 0), (9, .int (sh_X4_printer N 0 0))] → W p l e rm_L_hangs s m args below meth c H locs 0 0 Q (F0 m 744 ls [.int v45]) := by
            intro v45 H locs ls hv44 hP hD hS hl
            refine lv_aload_n hx hb dL_hangs_744 rfl (lv_at hl 0 rfl) ?_
            refine lv_iload hx hb dL_hangs_745 (lv_at hl 8 rfl) ?_
            have hPs := k_self hP
            have hDs := k_selfD hD
            refine k_behi (X := []) (Y := []) (va_runV (As := [.int 0]) (rest := [.int v45]) ⟨hx, hb, hml, hown, hts⟩ (c_X4_whyNot l D cI cC cQ H.size d0 n0 na s0 sa h1 h2 mm ma t0 p0 pa tk N S oo zz M0 M1 M2 M3 rs de pc pg sg ln po dd lt pl f1s s2s tms 0) (kcwV hts wd_ml_RL_78 wd_im_yX4_whyNot wd_sel_yX4_whyNot wd_ini_RX4 wd_code_yX4_whyNot rfl rfl rfl hd_X4_whyNot ⟨Nat.le_of_ble_eq_true rfl, Nat.le_of_ble_eq_true rfl⟩) ⟨in_blind, va_recv hK (pa_l (pa_r hPs)) (ci := 4) (q0 := 0) rfl rfl, k_pre hK (pa_l (pa_r hPs)) (da_l (da_r hDs)) hN⟩ rfl rfl hl.1 rfl (lv_room (Nat.le_of_ble_eq_true rfl)) dL_hangs_747 ⟨Nat.le_of_ble_eq_true rfl, Nat.le_of_ble_eq_true rfl⟩) hPs hDs hS hA (fun r46 u47 H locs hw48 hP hD hS => ?_)
            have hP := k_unP hP
            have hD := k_unD hD
            have hP : va_P D vwCl (DW cI cC cQ d0 n0 na s0 sa h1 h2 mm ma t0 p0 pa tk N S oo zz M0 M1 M2 M3 rs de pc pg sg ln po dd lt pl f1s s2s tms) H := hP
            have hD : va_D A (DW cI cC cQ d0 n0 na s0 sa h1 h2 mm ma t0 p0 pa tk N S oo zz M0 M1 M2 M3 rs de pc pg sg ln po dd lt pl f1s s2s tms) := hD
            have hw48 : r46 = (sh_X4_whyNot N 0) := hw48
            subst hw48
            refine lv_iconst (v := 1) hx hb dL_hangs_750 (by decide) ?_
            have K : ∀ (v51 : Int32) (H : Heap) (locs : List Loc) (ls : Array Slot), v51 = (if (sh_X4_whyNot N 0) = 1 then 1 else 0) → va_P D vwCl (DW cI cC cQ d0 n0 na s0 sa h1 h2 mm ma t0 p0 pa tk N S oo zz M0 M1 M2 M3 rs de pc pg sg ln po dd lt pl f1s s2s tms) H → va_D A (DW cI cC cQ d0 n0 na s0 sa h1 h2 mm ma t0 p0 pa tk N S oo zz M0 M1 M2 M3 rs de pc pg sg ln po dd lt pl f1s s2s tms) → va_S A s.heap H locs → lv_has ls 14 [(0, .ref d0), (1, .int al), (2, .int le), (3, .int bo), (4, .int nn), (5, .int 1), (6, .int (0 + ((sh_X4_printer N 0 1) + (sh_X4_printer N 0 2)))), (7, .int (0 + (sh_X4_printer N 0 1))), (8, .int 0), (9, .int (sh_X4_printer N 0 0))] → W p l e rm_L_hangs s m args below meth c H locs 0 0 Q (F0 m 759 ls [.int v51, .int v45]) := by
              intro v51 H locs ls hv50 hP hD hS hl
              refine lv_icmp_ne (tgt := 856) hx hb dL_hangs_759 (by decide) (fun c9 => absurd (hg_759 g (k_in (by decide)) hv44 hv50) c9) (fun _ => ?_)
              refine lv_aload_n hx hb dL_hangs_762 rfl (lv_at hl 0 rfl) ?_
              refine lv_iload hx hb dL_hangs_763 (lv_at hl 8 rfl) ?_
              refine lv_iconst (v := 5) hx hb dL_hangs_765 (by decide) ?_
              have hPs := k_self hP
              have hDs := k_selfD hD
              refine k_behi (X := []) (Y := []) (va_runV (As := [.int 0, .int 5]) (rest := []) ⟨hx, hb, hml, hown, hts⟩ (c_X4_printer l D cI cC cQ H.size d0 n0 na s0 sa h1 h2 mm ma t0 p0 pa tk N S oo zz M0 M1 M2 M3 rs de pc pg sg ln po dd lt pl f1s s2s tms 0 5) (kcwV hts wd_ml_RL_60 wd_im_yX4_printer wd_sel_yX4_printer wd_ini_RX4 wd_code_yX4_printer rfl rfl rfl hd_X4_printer ⟨Nat.le_of_ble_eq_true rfl, Nat.le_of_ble_eq_true rfl⟩) ⟨in_blind, va_recv hK (pa_l (pa_r hPs)) (ci := 4) (q0 := 0) rfl rfl, k_pre hK (pa_l (pa_r hPs)) (da_l (da_r hDs)) hN⟩ rfl rfl hl.1 rfl (lv_room (Nat.le_of_ble_eq_true rfl)) dL_hangs_766 ⟨Nat.le_of_ble_eq_true rfl, Nat.le_of_ble_eq_true rfl⟩) hPs hDs hS hA (fun r52 u53 H locs hw54 hP hD hS => ?_)
              have hP := k_unP hP
              have hD := k_unD hD
              have hP : va_P D vwCl (DW cI cC cQ d0 n0 na s0 sa h1 h2 mm ma t0 p0 pa tk N S oo zz M0 M1 M2 M3 rs de pc pg sg ln po dd lt pl f1s s2s tms) H := hP
              have hD : va_D A (DW cI cC cQ d0 n0 na s0 sa h1 h2 mm ma t0 p0 pa tk N S oo zz M0 M1 M2 M3 rs de pc pg sg ln po dd lt pl f1s s2s tms) := hD
              have hw54 : r52 = (sh_X4_printer N 0 5) := hw54
              subst hw54
              refine lv_bipush (v := (-4)) hx hb dL_hangs_769 (by decide) ?_
              have K : ∀ (v57 : Int32) (H : Heap) (locs : List Loc) (ls : Array Slot), v57 = (if (sh_X4_printer N 0 5) = (-4) then 1 else 0) → va_P D vwCl (DW cI cC cQ d0 n0 na s0 sa h1 h2 mm ma t0 p0 pa tk N S oo zz M0 M1 M2 M3 rs de pc pg sg ln po dd lt pl f1s s2s tms) H → va_D A (DW cI cC cQ d0 n0 na s0 sa h1 h2 mm ma t0 p0 pa tk N S oo zz M0 M1 M2 M3 rs de pc pg sg ln po dd lt pl f1s s2s tms) → va_S A s.heap H locs → lv_has ls 14 [(0, .ref d0), (1, .int al), (2, .int le), (3, .int bo), (4, .int nn), (5, .int 1), (6, .int (0 + ((sh_X4_printer N 0 1) + (sh_X4_printer N 0 2)))), (7, .int (0 + (sh_X4_printer N 0 1))), (8, .int 0), (9, .int (sh_X4_printer N 0 0))] → W p l e rm_L_hangs s m args below meth c H locs 0 0 Q (F0 m 779 ls [.int v57]) := by
                intro v57 H locs ls hv56 hP hD hS hl
                refine lv_aload_n hx hb dL_hangs_779 rfl (lv_at hl 0 rfl) ?_
                refine lv_iload hx hb dL_hangs_780 (lv_at hl 8 rfl) ?_
                refine lv_iconst (v := 1) hx hb dL_hangs_782 (by decide) ?_
                have hPs := k_self hP
                have hDs := k_selfD hD
                refine k_behi (X := []) (Y := []) (va_runV (As := [.int 0, .int 1]) (rest := [.int v57]) ⟨hx, hb, hml, hown, hts⟩ (c_X4_printer l D cI cC cQ H.size d0 n0 na s0 sa h1 h2 mm ma t0 p0 pa tk N S oo zz M0 M1 M2 M3 rs de pc pg sg ln po dd lt pl f1s s2s tms 0 1) (kcwV hts wd_ml_RL_60 wd_im_yX4_printer wd_sel_yX4_printer wd_ini_RX4 wd_code_yX4_printer rfl rfl rfl hd_X4_printer ⟨Nat.le_of_ble_eq_true rfl, Nat.le_of_ble_eq_true rfl⟩) ⟨in_blind, va_recv hK (pa_l (pa_r hPs)) (ci := 4) (q0 := 0) rfl rfl, k_pre hK (pa_l (pa_r hPs)) (da_l (da_r hDs)) hN⟩ rfl rfl hl.1 rfl (lv_room (Nat.le_of_ble_eq_true rfl)) dL_hangs_783 ⟨Nat.le_of_ble_eq_true rfl, Nat.le_of_ble_eq_true rfl⟩) hPs hDs hS hA (fun r58 u59 H locs hw60 hP hD hS => ?_)
                have hP := k_unP hP
                have hD := k_unD hD
                have hP : va_P D vwCl (DW cI cC cQ d0 n0 na s0 sa h1 h2 mm ma t0 p0 pa tk N S oo zz M0 M1 M2 M3 rs de pc pg sg ln po dd lt pl f1s s2s tms) H := hP
                have hD : va_D A (DW cI cC cQ d0 n0 na s0 sa h1 h2 mm ma t0 p0 pa tk N S oo zz M0 M1 M2 M3 rs de pc pg sg ln po dd lt pl f1s s2s tms) := hD
                have hw60 : r58 = (sh_X4_printer N 0 1) := hw60
                subst hw60
                refine lv_aload_n hx hb dL_hangs_786 rfl (lv_at hl 0 rfl) ?_
                refine lv_iload hx hb dL_hangs_787 (lv_at hl 8 rfl) ?_
                refine lv_iconst (v := 2) hx hb dL_hangs_789 (by decide) ?_
                have hPs := k_self hP
                have hDs := k_selfD hD
                refine k_behi (X := []) (Y := []) (va_runV (As := [.int 0, .int 2]) (rest := [.int (sh_X4_printer N 0 1), .int v57]) ⟨hx, hb, hml, hown, hts⟩ (c_X4_printer l D cI cC cQ H.size d0 n0 na s0 sa h1 h2 mm ma t0 p0 pa tk N S oo zz M0 M1 M2 M3 rs de pc pg sg ln po dd lt pl f1s s2s tms 0 2) (kcwV hts wd_ml_RL_60 wd_im_yX4_printer wd_sel_yX4_printer wd_ini_RX4 wd_code_yX4_printer rfl rfl rfl hd_X4_printer ⟨Nat.le_of_ble_eq_true rfl, Nat.le_of_ble_eq_true rfl⟩) ⟨in_blind, va_recv hK (pa_l (pa_r hPs)) (ci := 4) (q0 := 0) rfl rfl, k_pre hK (pa_l (pa_r hPs)) (da_l (da_r hDs)) hN⟩ rfl rfl hl.1 rfl (lv_room (Nat.le_of_ble_eq_true rfl)) dL_hangs_790 ⟨Nat.le_of_ble_eq_true rfl, Nat.le_of_ble_eq_true rfl⟩) hPs hDs hS hA (fun r61 u62 H locs hw63 hP hD hS => ?_)
                have hP := k_unP hP
                have hD := k_unD hD
                have hP : va_P D vwCl (DW cI cC cQ d0 n0 na s0 sa h1 h2 mm ma t0 p0 pa tk N S oo zz M0 M1 M2 M3 rs de pc pg sg ln po dd lt pl f1s s2s tms) H := hP
                have hD : va_D A (DW cI cC cQ d0 n0 na s0 sa h1 h2 mm ma t0 p0 pa tk N S oo zz M0 M1 M2 M3 rs de pc pg sg ln po dd lt pl f1s s2s tms) := hD
                have hw63 : r61 = (sh_X4_printer N 0 2) := hw63
                subst hw63
                refine lv_iadd hx hb dL_hangs_793 ?_
                have K : ∀ (v66 : Int32) (H : Heap) (locs : List Loc) (ls : Array Slot), v66 = (if ((sh_X4_printer N 0 1) + (sh_X4_printer N 0 2)) = 0 then 1 else 0) → va_P D vwCl (DW cI cC cQ d0 n0 na s0 sa h1 h2 mm ma t0 p0 pa tk N S oo zz M0 M1 M2 M3 rs de pc pg sg ln po dd lt pl f1s s2s tms) H → va_D A (DW cI cC cQ d0 n0 na s0 sa h1 h2 mm ma t0 p0 pa tk N S oo zz M0 M1 M2 M3 rs de pc pg sg ln po dd lt pl f1s s2s tms) → va_S A s.heap H locs → lv_has ls 14 [(0, .ref d0), (1, .int al), (2, .int le), (3, .int bo), (4, .int nn), (5, .int 1), (6, .int (0 + ((sh_X4_printer N 0 1) + (sh_X4_printer N 0 2)))), (7, .int (0 + (sh_X4_printer N 0 1))), (8, .int 0), (9, .int (sh_X4_printer N 0 0))] → W p l e rm_L_hangs s m args below meth c H locs 0 0 Q (F0 m 802 ls [.int v66, .int v57]) := by
                  intro v66 H locs ls hv65 hP hD hS hl
                  refine lv_icmp_ne (tgt := 856) hx hb dL_hangs_802 (by decide) (fun c9 => absurd (hg_802 g (k_in (by decide)) hv56 hv65) c9) (fun _ => ?_)
                  refine lv_aload_n hx hb dL_hangs_805 rfl (lv_at hl 0 rfl) ?_
                  refine lv_iload hx hb dL_hangs_806 (lv_at hl 8 rfl) ?_
                  refine lv_iconst (v := 5) hx hb dL_hangs_808 (by decide) ?_
                  have hPs := k_self hP
                  have hDs := k_selfD hD
                  refine k_behi (X := []) (Y := []) (va_runV (As := [.int 0, .int 5]) (rest := []) ⟨hx, hb, hml, hown, hts⟩ (c_X4_printer l D cI cC cQ H.size d0 n0 na s0 sa h1 h2 mm ma t0 p0 pa tk N S oo zz M0 M1 M2 M3 rs de pc pg sg ln po dd lt pl f1s s2s tms 0 5) (kcwV hts wd_ml_RL_60 wd_im_yX4_printer wd_sel_yX4_printer wd_ini_RX4 wd_code_yX4_printer rfl rfl rfl hd_X4_printer ⟨Nat.le_of_ble_eq_true rfl, Nat.le_of_ble_eq_true rfl⟩) ⟨in_blind, va_recv hK (pa_l (pa_r hPs)) (ci := 4) (q0 := 0) rfl rfl, k_pre hK (pa_l (pa_r hPs)) (da_l (da_r hDs)) hN⟩ rfl rfl hl.1 rfl (lv_room (Nat.le_of_ble_eq_true rfl)) dL_hangs_809 ⟨Nat.le_of_ble_eq_true rfl, Nat.le_of_ble_eq_true rfl⟩) hPs hDs hS hA (fun r67 u68 H locs hw69 hP hD hS => ?_)
                  have hP := k_unP hP
                  have hD := k_unD hD
                  have hP : va_P D vwCl (DW cI cC cQ d0 n0 na s0 sa h1 h2 mm ma t0 p0 pa tk N S oo zz M0 M1 M2 M3 rs de pc pg sg ln po dd lt pl f1s s2s tms) H := hP
                  have hD : va_D A (DW cI cC cQ d0 n0 na s0 sa h1 h2 mm ma t0 p0 pa tk N S oo zz M0 M1 M2 M3 rs de pc pg sg ln po dd lt pl f1s s2s tms) := hD
                  have hw69 : r67 = (sh_X4_printer N 0 5) := hw69
                  subst hw69
                  refine lv_bipush (v := 100) hx hb dL_hangs_812 (by decide) ?_
                  refine lv_icmp_gt (tgt := 856) hx hb dL_hangs_814 (by decide) (fun c9 => absurd c9 (hg_814 g (k_in (by decide)))) (fun _ => ?_)
                  refine lv_aload_n hx hb dL_hangs_817 rfl (lv_at hl 0 rfl) ?_
                  refine lv_iload hx hb dL_hangs_818 (lv_at hl 8 rfl) ?_
                  refine lv_iconst (v := 4) hx hb dL_hangs_820 (by decide) ?_
                  have hPs := k_self hP
                  have hDs := k_selfD hD
                  refine k_behi (X := []) (Y := []) (va_runV (As := [.int 0, .int 4]) (rest := []) ⟨hx, hb, hml, hown, hts⟩ (c_X4_printer l D cI cC cQ H.size d0 n0 na s0 sa h1 h2 mm ma t0 p0 pa tk N S oo zz M0 M1 M2 M3 rs de pc pg sg ln po dd lt pl f1s s2s tms 0 4) (kcwV hts wd_ml_RL_60 wd_im_yX4_printer wd_sel_yX4_printer wd_ini_RX4 wd_code_yX4_printer rfl rfl rfl hd_X4_printer ⟨Nat.le_of_ble_eq_true rfl, Nat.le_of_ble_eq_true rfl⟩) ⟨in_blind, va_recv hK (pa_l (pa_r hPs)) (ci := 4) (q0 := 0) rfl rfl, k_pre hK (pa_l (pa_r hPs)) (da_l (da_r hDs)) hN⟩ rfl rfl hl.1 rfl (lv_room (Nat.le_of_ble_eq_true rfl)) dL_hangs_821 ⟨Nat.le_of_ble_eq_true rfl, Nat.le_of_ble_eq_true rfl⟩) hPs hDs hS hA (fun r70 u71 H locs hw72 hP hD hS => ?_)
                  have hP := k_unP hP
                  have hD := k_unD hD
                  have hP : va_P D vwCl (DW cI cC cQ d0 n0 na s0 sa h1 h2 mm ma t0 p0 pa tk N S oo zz M0 M1 M2 M3 rs de pc pg sg ln po dd lt pl f1s s2s tms) H := hP
                  have hD : va_D A (DW cI cC cQ d0 n0 na s0 sa h1 h2 mm ma t0 p0 pa tk N S oo zz M0 M1 M2 M3 rs de pc pg sg ln po dd lt pl f1s s2s tms) := hD
                  have hw72 : r70 = (sh_X4_printer N 0 4) := hw72
                  subst hw72
                  refine lv_aload_n hx hb dL_hangs_824 rfl (lv_at hl 0 rfl) ?_
                  refine lv_iload hx hb dL_hangs_825 (lv_at hl 8 rfl) ?_
                  refine lv_iconst (v := 1) hx hb dL_hangs_827 (by decide) ?_
                  have hPs := k_self hP
                  have hDs := k_selfD hD
                  refine k_behi (X := []) (Y := []) (va_runV (As := [.int 0, .int 1]) (rest := [.int (sh_X4_printer N 0 4)]) ⟨hx, hb, hml, hown, hts⟩ (c_X4_printer l D cI cC cQ H.size d0 n0 na s0 sa h1 h2 mm ma t0 p0 pa tk N S oo zz M0 M1 M2 M3 rs de pc pg sg ln po dd lt pl f1s s2s tms 0 1) (kcwV hts wd_ml_RL_60 wd_im_yX4_printer wd_sel_yX4_printer wd_ini_RX4 wd_code_yX4_printer rfl rfl rfl hd_X4_printer ⟨Nat.le_of_ble_eq_true rfl, Nat.le_of_ble_eq_true rfl⟩) ⟨in_blind, va_recv hK (pa_l (pa_r hPs)) (ci := 4) (q0 := 0) rfl rfl, k_pre hK (pa_l (pa_r hPs)) (da_l (da_r hDs)) hN⟩ rfl rfl hl.1 rfl (lv_room (Nat.le_of_ble_eq_true rfl)) dL_hangs_828 ⟨Nat.le_of_ble_eq_true rfl, Nat.le_of_ble_eq_true rfl⟩) hPs hDs hS hA (fun r73 u74 H locs hw75 hP hD hS => ?_)
                  have hP := k_unP hP
                  have hD := k_unD hD
                  have hP : va_P D vwCl (DW cI cC cQ d0 n0 na s0 sa h1 h2 mm ma t0 p0 pa tk N S oo zz M0 M1 M2 M3 rs de pc pg sg ln po dd lt pl f1s s2s tms) H := hP
                  have hD : va_D A (DW cI cC cQ d0 n0 na s0 sa h1 h2 mm ma t0 p0 pa tk N S oo zz M0 M1 M2 M3 rs de pc pg sg ln po dd lt pl f1s s2s tms) := hD
                  have hw75 : r73 = (sh_X4_printer N 0 1) := hw75
                  subst hw75
                  refine lv_aload_n hx hb dL_hangs_831 rfl (lv_at hl 0 rfl) ?_
                  refine lv_iload hx hb dL_hangs_832 (lv_at hl 8 rfl) ?_
                  refine lv_iconst (v := 2) hx hb dL_hangs_834 (by decide) ?_
                  have hPs := k_self hP
                  have hDs := k_selfD hD
                  refine k_behi (X := []) (Y := []) (va_runV (As := [.int 0, .int 2]) (rest := [.int (sh_X4_printer N 0 1), .int (sh_X4_printer N 0 4)]) ⟨hx, hb, hml, hown, hts⟩ (c_X4_printer l D cI cC cQ H.size d0 n0 na s0 sa h1 h2 mm ma t0 p0 pa tk N S oo zz M0 M1 M2 M3 rs de pc pg sg ln po dd lt pl f1s s2s tms 0 2) (kcwV hts wd_ml_RL_60 wd_im_yX4_printer wd_sel_yX4_printer wd_ini_RX4 wd_code_yX4_printer rfl rfl rfl hd_X4_printer ⟨Nat.le_of_ble_eq_true rfl, Nat.le_of_ble_eq_true rfl⟩) ⟨in_blind, va_recv hK (pa_l (pa_r hPs)) (ci := 4) (q0 := 0) rfl rfl, k_pre hK (pa_l (pa_r hPs)) (da_l (da_r hDs)) hN⟩ rfl rfl hl.1 rfl (lv_room (Nat.le_of_ble_eq_true rfl)) dL_hangs_835 ⟨Nat.le_of_ble_eq_true rfl, Nat.le_of_ble_eq_true rfl⟩) hPs hDs hS hA (fun r76 u77 H locs hw78 hP hD hS => ?_)
                  have hP := k_unP hP
                  have hD := k_unD hD
                  have hP : va_P D vwCl (DW cI cC cQ d0 n0 na s0 sa h1 h2 mm ma t0 p0 pa tk N S oo zz M0 M1 M2 M3 rs de pc pg sg ln po dd lt pl f1s s2s tms) H := hP
                  have hD : va_D A (DW cI cC cQ d0 n0 na s0 sa h1 h2 mm ma t0 p0 pa tk N S oo zz M0 M1 M2 M3 rs de pc pg sg ln po dd lt pl f1s s2s tms) := hD
                  have hw78 : r76 = (sh_X4_printer N 0 2) := hw78
                  subst hw78
                  refine lv_iadd hx hb dL_hangs_838 ?_
                  refine lv_icmp_lt (tgt := 856) hx hb dL_hangs_839 (by decide) (fun c9 => absurd c9 (hg_839 g (k_in (by decide)))) (fun _ => ?_)
                  refine lv_aload_n hx hb dL_hangs_842 rfl (lv_at hl 0 rfl) ?_
                  refine lv_iload hx hb dL_hangs_843 (lv_at hl 8 rfl) ?_
                  refine lv_iconst (v := 3) hx hb dL_hangs_845 (by decide) ?_
                  have hPs := k_self hP
                  have hDs := k_selfD hD
                  refine k_behi (X := []) (Y := []) (va_runV (As := [.int 0, .int 3]) (rest := []) ⟨hx, hb, hml, hown, hts⟩ (c_X4_printer l D cI cC cQ H.size d0 n0 na s0 sa h1 h2 mm ma t0 p0 pa tk N S oo zz M0 M1 M2 M3 rs de pc pg sg ln po dd lt pl f1s s2s tms 0 3) (kcwV hts wd_ml_RL_60 wd_im_yX4_printer wd_sel_yX4_printer wd_ini_RX4 wd_code_yX4_printer rfl rfl rfl hd_X4_printer ⟨Nat.le_of_ble_eq_true rfl, Nat.le_of_ble_eq_true rfl⟩) ⟨in_blind, va_recv hK (pa_l (pa_r hPs)) (ci := 4) (q0 := 0) rfl rfl, k_pre hK (pa_l (pa_r hPs)) (da_l (da_r hDs)) hN⟩ rfl rfl hl.1 rfl (lv_room (Nat.le_of_ble_eq_true rfl)) dL_hangs_846 ⟨Nat.le_of_ble_eq_true rfl, Nat.le_of_ble_eq_true rfl⟩) hPs hDs hS hA (fun r79 u80 H locs hw81 hP hD hS => ?_)
                  have hP := k_unP hP
                  have hD := k_unD hD
                  have hP : va_P D vwCl (DW cI cC cQ d0 n0 na s0 sa h1 h2 mm ma t0 p0 pa tk N S oo zz M0 M1 M2 M3 rs de pc pg sg ln po dd lt pl f1s s2s tms) H := hP
                  have hD : va_D A (DW cI cC cQ d0 n0 na s0 sa h1 h2 mm ma t0 p0 pa tk N S oo zz M0 M1 M2 M3 rs de pc pg sg ln po dd lt pl f1s s2s tms) := hD
                  have hw81 : r79 = (sh_X4_printer N 0 3) := hw81
                  subst hw81
                  refine lv_if_lt (tgt := 856) hx hb dL_hangs_849 (by decide) (fun c9 => absurd c9 (hg_849 g (k_in (by decide)))) (fun _ => ?_)
                  refine lv_iconst (v := 1) hx hb dL_hangs_852 (by decide) ?_
                  refine lv_goto (tgt := 857) hx hb dL_hangs_853 (by decide) ?_
                  refine lv_istore (lv' := [(5, .int 1), (0, .ref d0), (1, .int al), (2, .int le), (3, .int bo), (4, .int nn), (6, .int (0 + ((sh_X4_printer N 0 1) + (sh_X4_printer N 0 2)))), (7, .int (0 + (sh_X4_printer N 0 1))), (8, .int 0), (9, .int (sh_X4_printer N 0 0))]) hx hb dL_hangs_857 hl (by decide) rfl (fun ls hl => ?_)
                  refine lv_iinc (v := 1) (lv' := [(8, .int 1), (5, .int 1), (0, .ref d0), (1, .int al), (2, .int le), (3, .int bo), (4, .int nn), (6, .int (0 + ((sh_X4_printer N 0 1) + (sh_X4_printer N 0 2)))), (7, .int (0 + (sh_X4_printer N 0 1))), (9, .int (sh_X4_printer N 0 0))]) hx hb dL_hangs_859 hl (k := 8) rfl (by decide) (by decide) rfl (fun ls hl => ?_)
                  refine lv_goto (tgt := 650) hx hb dL_hangs_862 (by decide) ?_
                  refine lv_iload hx hb dL_hangs_650 (lv_at hl 0 rfl) ?_
                  refine lv_iconst (v := 2) hx hb dL_hangs_652 (by decide) ?_
                  refine lv_icmp_ge (tgt := 865) hx hb dL_hangs_653 (by decide) (fun c9 => absurd c9 (by decide)) (fun _ => ?_)
                  refine lv_iload hx hb dL_hangs_656 (lv_at hl 1 rfl) ?_
                  refine lv_if_eq (tgt := 865) hx hb dL_hangs_658 (by decide) (fun c9 => absurd c9 (by decide)) (fun _ => ?_)
                  refine lv_aload_n hx hb dL_hangs_661 rfl (lv_at hl 2 rfl) ?_
                  refine lv_iload hx hb dL_hangs_662 (lv_at hl 0 rfl) ?_
                  refine lv_iconst (v := 0) hx hb dL_hangs_664 (by decide) ?_
                  have hPs := k_self hP
                  have hDs := k_selfD hD
                  refine k_behi (X := []) (Y := []) (va_runV (As := [.int 1, .int 0]) (rest := []) ⟨hx, hb, hml, hown, hts⟩ (c_X4_printer l D cI cC cQ H.size d0 n0 na s0 sa h1 h2 mm ma t0 p0 pa tk N S oo zz M0 M1 M2 M3 rs de pc pg sg ln po dd lt pl f1s s2s tms 1 0) (kcwV hts wd_ml_RL_60 wd_im_yX4_printer wd_sel_yX4_printer wd_ini_RX4 wd_code_yX4_printer rfl rfl rfl hd_X4_printer ⟨Nat.le_of_ble_eq_true rfl, Nat.le_of_ble_eq_true rfl⟩) ⟨in_blind, va_recv hK (pa_l (pa_r hPs)) (ci := 4) (q0 := 0) rfl rfl, k_pre hK (pa_l (pa_r hPs)) (da_l (da_r hDs)) hN⟩ rfl rfl hl.1 rfl (lv_room (Nat.le_of_ble_eq_true rfl)) dL_hangs_665 ⟨Nat.le_of_ble_eq_true rfl, Nat.le_of_ble_eq_true rfl⟩) hPs hDs hS hA (fun r82 u83 H locs hw84 hP hD hS => ?_)
                  have hP := k_unP hP
                  have hD := k_unD hD
                  have hP : va_P D vwCl (DW cI cC cQ d0 n0 na s0 sa h1 h2 mm ma t0 p0 pa tk N S oo zz M0 M1 M2 M3 rs de pc pg sg ln po dd lt pl f1s s2s tms) H := hP
                  have hD : va_D A (DW cI cC cQ d0 n0 na s0 sa h1 h2 mm ma t0 p0 pa tk N S oo zz M0 M1 M2 M3 rs de pc pg sg ln po dd lt pl f1s s2s tms) := hD
                  have hw84 : r82 = (sh_X4_printer N 1 0) := hw84
                  subst hw84
                  refine lv_istore (lv' := [(9, .int (sh_X4_printer N 1 0)), (8, .int 1), (5, .int 1), (0, .ref d0), (1, .int al), (2, .int le), (3, .int bo), (4, .int nn), (6, .int (0 + ((sh_X4_printer N 0 1) + (sh_X4_printer N 0 2)))), (7, .int (0 + (sh_X4_printer N 0 1)))]) hx hb dL_hangs_668 hl (by decide) rfl (fun ls hl => ?_)
                  refine lv_iload hx hb dL_hangs_670 (lv_at hl 8 rfl) ?_
                  refine lv_aload_n hx hb dL_hangs_672 rfl (lv_at hl 3 rfl) ?_
                  refine lv_iload hx hb dL_hangs_673 (lv_at hl 1 rfl) ?_
                  refine lv_iconst (v := 1) hx hb dL_hangs_675 (by decide) ?_
                  have hPs := k_self hP
                  have hDs := k_selfD hD
                  refine k_behi (X := []) (Y := []) (va_runV (As := [.int 1, .int 1]) (rest := [.int (0 + ((sh_X4_printer N 0 1) + (sh_X4_printer N 0 2)))]) ⟨hx, hb, hml, hown, hts⟩ (c_X4_printer l D cI cC cQ H.size d0 n0 na s0 sa h1 h2 mm ma t0 p0 pa tk N S oo zz M0 M1 M2 M3 rs de pc pg sg ln po dd lt pl f1s s2s tms 1 1) (kcwV hts wd_ml_RL_60 wd_im_yX4_printer wd_sel_yX4_printer wd_ini_RX4 wd_code_yX4_printer rfl rfl rfl hd_X4_printer ⟨Nat.le_of_ble_eq_true rfl, Nat.le_of_ble_eq_true rfl⟩) ⟨in_blind, va_recv hK (pa_l (pa_r hPs)) (ci := 4) (q0 := 0) rfl rfl, k_pre hK (pa_l (pa_r hPs)) (da_l (da_r hDs)) hN⟩ rfl rfl hl.1 rfl (lv_room (Nat.le_of_ble_eq_true rfl)) dL_hangs_676 ⟨Nat.le_of_ble_eq_true rfl, Nat.le_of_ble_eq_true rfl⟩) hPs hDs hS hA (fun r85 u86 H locs hw87 hP hD hS => ?_)
                  have hP := k_unP hP
                  have hD := k_unD hD
                  have hP : va_P D vwCl (DW cI cC cQ d0 n0 na s0 sa h1 h2 mm ma t0 p0 pa tk N S oo zz M0 M1 M2 M3 rs de pc pg sg ln po dd lt pl f1s s2s tms) H := hP
                  have hD : va_D A (DW cI cC cQ d0 n0 na s0 sa h1 h2 mm ma t0 p0 pa tk N S oo zz M0 M1 M2 M3 rs de pc pg sg ln po dd lt pl f1s s2s tms) := hD
                  have hw87 : r85 = (sh_X4_printer N 1 1) := hw87
                  subst hw87
                  refine lv_aload_n hx hb dL_hangs_679 rfl (lv_at hl 3 rfl) ?_
                  refine lv_iload hx hb dL_hangs_680 (lv_at hl 1 rfl) ?_
                  refine lv_iconst (v := 2) hx hb dL_hangs_682 (by decide) ?_
                  have hPs := k_self hP
                  have hDs := k_selfD hD
                  refine k_behi (X := []) (Y := []) (va_runV (As := [.int 1, .int 2]) (rest := [.int (sh_X4_printer N 1 1), .int (0 + ((sh_X4_printer N 0 1) + (sh_X4_printer N 0 2)))]) ⟨hx, hb, hml, hown, hts⟩ (c_X4_printer l D cI cC cQ H.size d0 n0 na s0 sa h1 h2 mm ma t0 p0 pa tk N S oo zz M0 M1 M2 M3 rs de pc pg sg ln po dd lt pl f1s s2s tms 1 2) (kcwV hts wd_ml_RL_60 wd_im_yX4_printer wd_sel_yX4_printer wd_ini_RX4 wd_code_yX4_printer rfl rfl rfl hd_X4_printer ⟨Nat.le_of_ble_eq_true rfl, Nat.le_of_ble_eq_true rfl⟩) ⟨in_blind, va_recv hK (pa_l (pa_r hPs)) (ci := 4) (q0 := 0) rfl rfl, k_pre hK (pa_l (pa_r hPs)) (da_l (da_r hDs)) hN⟩ rfl rfl hl.1 rfl (lv_room (Nat.le_of_ble_eq_true rfl)) dL_hangs_683 ⟨Nat.le_of_ble_eq_true rfl, Nat.le_of_ble_eq_true rfl⟩) hPs hDs hS hA (fun r88 u89 H locs hw90 hP hD hS => ?_)
                  have hP := k_unP hP
                  have hD := k_unD hD
                  have hP : va_P D vwCl (DW cI cC cQ d0 n0 na s0 sa h1 h2 mm ma t0 p0 pa tk N S oo zz M0 M1 M2 M3 rs de pc pg sg ln po dd lt pl f1s s2s tms) H := hP
                  have hD : va_D A (DW cI cC cQ d0 n0 na s0 sa h1 h2 mm ma t0 p0 pa tk N S oo zz M0 M1 M2 M3 rs de pc pg sg ln po dd lt pl f1s s2s tms) := hD
                  have hw90 : r88 = (sh_X4_printer N 1 2) := hw90
                  subst hw90
                  refine lv_iadd hx hb dL_hangs_686 ?_
                  refine lv_iadd hx hb dL_hangs_687 ?_
                  refine lv_istore (lv' := [(6, .int ((0 + ((sh_X4_printer N 0 1) + (sh_X4_printer N 0 2))) + ((sh_X4_printer N 1 1) + (sh_X4_printer N 1 2)))), (9, .int (sh_X4_printer N 1 0)), (8, .int 1), (5, .int 1), (0, .ref d0), (1, .int al), (2, .int le), (3, .int bo), (4, .int nn), (7, .int (0 + (sh_X4_printer N 0 1)))]) hx hb dL_hangs_688 hl (by decide) rfl (fun ls hl => ?_)
                  refine lv_iload hx hb dL_hangs_690 (lv_at hl 9 rfl) ?_
                  refine lv_aload_n hx hb dL_hangs_692 rfl (lv_at hl 4 rfl) ?_
                  refine lv_iload hx hb dL_hangs_693 (lv_at hl 2 rfl) ?_
                  refine lv_iconst (v := 1) hx hb dL_hangs_695 (by decide) ?_
                  have hPs := k_self hP
                  have hDs := k_selfD hD
                  refine k_behi (X := []) (Y := []) (va_runV (As := [.int 1, .int 1]) (rest := [.int (0 + (sh_X4_printer N 0 1))]) ⟨hx, hb, hml, hown, hts⟩ (c_X4_printer l D cI cC cQ H.size d0 n0 na s0 sa h1 h2 mm ma t0 p0 pa tk N S oo zz M0 M1 M2 M3 rs de pc pg sg ln po dd lt pl f1s s2s tms 1 1) (kcwV hts wd_ml_RL_60 wd_im_yX4_printer wd_sel_yX4_printer wd_ini_RX4 wd_code_yX4_printer rfl rfl rfl hd_X4_printer ⟨Nat.le_of_ble_eq_true rfl, Nat.le_of_ble_eq_true rfl⟩) ⟨in_blind, va_recv hK (pa_l (pa_r hPs)) (ci := 4) (q0 := 0) rfl rfl, k_pre hK (pa_l (pa_r hPs)) (da_l (da_r hDs)) hN⟩ rfl rfl hl.1 rfl (lv_room (Nat.le_of_ble_eq_true rfl)) dL_hangs_696 ⟨Nat.le_of_ble_eq_true rfl, Nat.le_of_ble_eq_true rfl⟩) hPs hDs hS hA (fun r91 u92 H locs hw93 hP hD hS => ?_)
                  have hP := k_unP hP
                  have hD := k_unD hD
                  have hP : va_P D vwCl (DW cI cC cQ d0 n0 na s0 sa h1 h2 mm ma t0 p0 pa tk N S oo zz M0 M1 M2 M3 rs de pc pg sg ln po dd lt pl f1s s2s tms) H := hP
                  have hD : va_D A (DW cI cC cQ d0 n0 na s0 sa h1 h2 mm ma t0 p0 pa tk N S oo zz M0 M1 M2 M3 rs de pc pg sg ln po dd lt pl f1s s2s tms) := hD
                  have hw93 : r91 = (sh_X4_printer N 1 1) := hw93
                  subst hw93
                  refine lv_iadd hx hb dL_hangs_699 ?_
                  refine lv_istore (lv' := [(7, .int ((0 + (sh_X4_printer N 0 1)) + (sh_X4_printer N 1 1))), (6, .int ((0 + ((sh_X4_printer N 0 1) + (sh_X4_printer N 0 2))) + ((sh_X4_printer N 1 1) + (sh_X4_printer N 1 2)))), (9, .int (sh_X4_printer N 1 0)), (8, .int 1), (5, .int 1), (0, .ref d0), (1, .int al), (2, .int le), (3, .int bo), (4, .int nn)]) hx hb dL_hangs_700 hl (by decide) rfl (fun ls hl => ?_)
                  refine lv_iload hx hb dL_hangs_702 (lv_at hl 2 rfl) ?_
                  refine lv_bipush (v := (-4)) hx hb dL_hangs_704 (by decide) ?_
                  have K : ∀  (H : Heap) (locs : List Loc) (ls : Array Slot), va_P D vwCl (DW cI cC cQ d0 n0 na s0 sa h1 h2 mm ma t0 p0 pa tk N S oo zz M0 M1 M2 M3 rs de pc pg sg ln po dd lt pl f1s s2s tms) H → va_D A (DW cI cC cQ d0 n0 na s0 sa h1 h2 mm ma t0 p0 pa tk N S oo zz M0 M1 M2 M3 rs de pc pg sg ln po dd lt pl f1s s2s tms) → va_S A s.heap H locs → lv_has ls 14 [(0, .ref d0), (1, .int al), (2, .int le), (3, .int bo), (4, .int nn), (5, .int 1), (6, .int ((0 + ((sh_X4_printer N 0 1) + (sh_X4_printer N 0 2))) + ((sh_X4_printer N 1 1) + (sh_X4_printer N 1 2)))), (7, .int ((0 + (sh_X4_printer N 0 1)) + (sh_X4_printer N 1 1))), (8, .int 1), (9, .int (sh_X4_printer N 1 0))] → W p l e rm_L_hangs s m args below meth c H locs 0 0 Q (F0 m 732 ls []) := by
                    intro  H locs ls  hP hD hS hl
                    refine lv_iload hx hb dL_hangs_732 (lv_at hl 9 rfl) ?_
                    refine lv_bipush (v := (-4)) hx hb dL_hangs_734 (by decide) ?_
                    have K : ∀ (v101 : Int32) (H : Heap) (locs : List Loc) (ls : Array Slot), v101 = (if (sh_X4_printer N 1 0) = (-4) then 1 else 0) → va_P D vwCl (DW cI cC cQ d0 n0 na s0 sa h1 h2 mm ma t0 p0 pa tk N S oo zz M0 M1 M2 M3 rs de pc pg sg ln po dd lt pl f1s s2s tms) H → va_D A (DW cI cC cQ d0 n0 na s0 sa h1 h2 mm ma t0 p0 pa tk N S oo zz M0 M1 M2 M3 rs de pc pg sg ln po dd lt pl f1s s2s tms) → va_S A s.heap H locs → lv_has ls 14 [(0, .ref d0), (1, .int al), (2, .int le), (3, .int bo), (4, .int nn), (5, .int 1), (6, .int ((0 + ((sh_X4_printer N 0 1) + (sh_X4_printer N 0 2))) + ((sh_X4_printer N 1 1) + (sh_X4_printer N 1 2)))), (7, .int ((0 + (sh_X4_printer N 0 1)) + (sh_X4_printer N 1 1))), (8, .int 1), (9, .int (sh_X4_printer N 1 0))] → W p l e rm_L_hangs s m args below meth c H locs 0 0 Q (F0 m 744 ls [.int v101]) := by
                      intro v101 H locs ls hv100 hP hD hS hl
                      refine lv_aload_n hx hb dL_hangs_744 rfl (lv_at hl 0 rfl) ?_
                      refine lv_iload hx hb dL_hangs_745 (lv_at hl 8 rfl) ?_
                      have hPs := k_self hP
                      have hDs := k_selfD hD
                      refine k_behi (X := []) (Y := []) (va_runV (As := [.int 1]) (rest := [.int v101]) ⟨hx, hb, hml, hown, hts⟩ (c_X4_whyNot l D cI cC cQ H.size d0 n0 na s0 sa h1 h2 mm ma t0 p0 pa tk N S oo zz M0 M1 M2 M3 rs de pc pg sg ln po dd lt pl f1s s2s tms 1) (kcwV hts wd_ml_RL_78 wd_im_yX4_whyNot wd_sel_yX4_whyNot wd_ini_RX4 wd_code_yX4_whyNot rfl rfl rfl hd_X4_whyNot ⟨Nat.le_of_ble_eq_true rfl, Nat.le_of_ble_eq_true rfl⟩) ⟨in_blind, va_recv hK (pa_l (pa_r hPs)) (ci := 4) (q0 := 0) rfl rfl, k_pre hK (pa_l (pa_r hPs)) (da_l (da_r hDs)) hN⟩ rfl rfl hl.1 rfl (lv_room (Nat.le_of_ble_eq_true rfl)) dL_hangs_747 ⟨Nat.le_of_ble_eq_true rfl, Nat.le_of_ble_eq_true rfl⟩) hPs hDs hS hA (fun r102 u103 H locs hw104 hP hD hS => ?_)
                      have hP := k_unP hP
                      have hD := k_unD hD
                      have hP : va_P D vwCl (DW cI cC cQ d0 n0 na s0 sa h1 h2 mm ma t0 p0 pa tk N S oo zz M0 M1 M2 M3 rs de pc pg sg ln po dd lt pl f1s s2s tms) H := hP
                      have hD : va_D A (DW cI cC cQ d0 n0 na s0 sa h1 h2 mm ma t0 p0 pa tk N S oo zz M0 M1 M2 M3 rs de pc pg sg ln po dd lt pl f1s s2s tms) := hD
                      have hw104 : r102 = (sh_X4_whyNot N 1) := hw104
                      subst hw104
                      refine lv_iconst (v := 1) hx hb dL_hangs_750 (by decide) ?_
                      have K : ∀ (v107 : Int32) (H : Heap) (locs : List Loc) (ls : Array Slot), v107 = (if (sh_X4_whyNot N 1) = 1 then 1 else 0) → va_P D vwCl (DW cI cC cQ d0 n0 na s0 sa h1 h2 mm ma t0 p0 pa tk N S oo zz M0 M1 M2 M3 rs de pc pg sg ln po dd lt pl f1s s2s tms) H → va_D A (DW cI cC cQ d0 n0 na s0 sa h1 h2 mm ma t0 p0 pa tk N S oo zz M0 M1 M2 M3 rs de pc pg sg ln po dd lt pl f1s s2s tms) → va_S A s.heap H locs → lv_has ls 14 [(0, .ref d0), (1, .int al), (2, .int le), (3, .int bo), (4, .int nn), (5, .int 1), (6, .int ((0 + ((sh_X4_printer N 0 1) + (sh_X4_printer N 0 2))) + ((sh_X4_printer N 1 1) + (sh_X4_printer N 1 2)))), (7, .int ((0 + (sh_X4_printer N 0 1)) + (sh_X4_printer N 1 1))), (8, .int 1), (9, .int (sh_X4_printer N 1 0))] → W p l e rm_L_hangs s m args below meth c H locs 0 0 Q (F0 m 759 ls [.int v107, .int v101]) := by
                        intro v107 H locs ls hv106 hP hD hS hl
                        refine lv_icmp_ne (tgt := 856) hx hb dL_hangs_759 (by decide) (fun c9 => absurd (hg_759 g (k_in (by decide)) hv100 hv106) c9) (fun _ => ?_)
                        refine lv_aload_n hx hb dL_hangs_762 rfl (lv_at hl 0 rfl) ?_
                        refine lv_iload hx hb dL_hangs_763 (lv_at hl 8 rfl) ?_
                        refine lv_iconst (v := 5) hx hb dL_hangs_765 (by decide) ?_
                        have hPs := k_self hP
                        have hDs := k_selfD hD
                        refine k_behi (X := []) (Y := []) (va_runV (As := [.int 1, .int 5]) (rest := []) ⟨hx, hb, hml, hown, hts⟩ (c_X4_printer l D cI cC cQ H.size d0 n0 na s0 sa h1 h2 mm ma t0 p0 pa tk N S oo zz M0 M1 M2 M3 rs de pc pg sg ln po dd lt pl f1s s2s tms 1 5) (kcwV hts wd_ml_RL_60 wd_im_yX4_printer wd_sel_yX4_printer wd_ini_RX4 wd_code_yX4_printer rfl rfl rfl hd_X4_printer ⟨Nat.le_of_ble_eq_true rfl, Nat.le_of_ble_eq_true rfl⟩) ⟨in_blind, va_recv hK (pa_l (pa_r hPs)) (ci := 4) (q0 := 0) rfl rfl, k_pre hK (pa_l (pa_r hPs)) (da_l (da_r hDs)) hN⟩ rfl rfl hl.1 rfl (lv_room (Nat.le_of_ble_eq_true rfl)) dL_hangs_766 ⟨Nat.le_of_ble_eq_true rfl, Nat.le_of_ble_eq_true rfl⟩) hPs hDs hS hA (fun r108 u109 H locs hw110 hP hD hS => ?_)
                        have hP := k_unP hP
                        have hD := k_unD hD
                        have hP : va_P D vwCl (DW cI cC cQ d0 n0 na s0 sa h1 h2 mm ma t0 p0 pa tk N S oo zz M0 M1 M2 M3 rs de pc pg sg ln po dd lt pl f1s s2s tms) H := hP
                        have hD : va_D A (DW cI cC cQ d0 n0 na s0 sa h1 h2 mm ma t0 p0 pa tk N S oo zz M0 M1 M2 M3 rs de pc pg sg ln po dd lt pl f1s s2s tms) := hD
                        have hw110 : r108 = (sh_X4_printer N 1 5) := hw110
                        subst hw110
                        refine lv_bipush (v := (-4)) hx hb dL_hangs_769 (by decide) ?_
                        have K : ∀ (v113 : Int32) (H : Heap) (locs : List Loc) (ls : Array Slot), v113 = (if (sh_X4_printer N 1 5) = (-4) then 1 else 0) → va_P D vwCl (DW cI cC cQ d0 n0 na s0 sa h1 h2 mm ma t0 p0 pa tk N S oo zz M0 M1 M2 M3 rs de pc pg sg ln po dd lt pl f1s s2s tms) H → va_D A (DW cI cC cQ d0 n0 na s0 sa h1 h2 mm ma t0 p0 pa tk N S oo zz M0 M1 M2 M3 rs de pc pg sg ln po dd lt pl f1s s2s tms) → va_S A s.heap H locs → lv_has ls 14 [(0, .ref d0), (1, .int al), (2, .int le), (3, .int bo), (4, .int nn), (5, .int 1), (6, .int ((0 + ((sh_X4_printer N 0 1) + (sh_X4_printer N 0 2))) + ((sh_X4_printer N 1 1) + (sh_X4_printer N 1 2)))), (7, .int ((0 + (sh_X4_printer N 0 1)) + (sh_X4_printer N 1 1))), (8, .int 1), (9, .int (sh_X4_printer N 1 0))] → W p l e rm_L_hangs s m args below meth c H locs 0 0 Q (F0 m 779 ls [.int v113]) := by
                          intro v113 H locs ls hv112 hP hD hS hl
                          refine lv_aload_n hx hb dL_hangs_779 rfl (lv_at hl 0 rfl) ?_
                          refine lv_iload hx hb dL_hangs_780 (lv_at hl 8 rfl) ?_
                          refine lv_iconst (v := 1) hx hb dL_hangs_782 (by decide) ?_
                          have hPs := k_self hP
                          have hDs := k_selfD hD
                          refine k_behi (X := []) (Y := []) (va_runV (As := [.int 1, .int 1]) (rest := [.int v113]) ⟨hx, hb, hml, hown, hts⟩ (c_X4_printer l D cI cC cQ H.size d0 n0 na s0 sa h1 h2 mm ma t0 p0 pa tk N S oo zz M0 M1 M2 M3 rs de pc pg sg ln po dd lt pl f1s s2s tms 1 1) (kcwV hts wd_ml_RL_60 wd_im_yX4_printer wd_sel_yX4_printer wd_ini_RX4 wd_code_yX4_printer rfl rfl rfl hd_X4_printer ⟨Nat.le_of_ble_eq_true rfl, Nat.le_of_ble_eq_true rfl⟩) ⟨in_blind, va_recv hK (pa_l (pa_r hPs)) (ci := 4) (q0 := 0) rfl rfl, k_pre hK (pa_l (pa_r hPs)) (da_l (da_r hDs)) hN⟩ rfl rfl hl.1 rfl (lv_room (Nat.le_of_ble_eq_true rfl)) dL_hangs_783 ⟨Nat.le_of_ble_eq_true rfl, Nat.le_of_ble_eq_true rfl⟩) hPs hDs hS hA (fun r114 u115 H locs hw116 hP hD hS => ?_)
                          have hP := k_unP hP
                          have hD := k_unD hD
                          have hP : va_P D vwCl (DW cI cC cQ d0 n0 na s0 sa h1 h2 mm ma t0 p0 pa tk N S oo zz M0 M1 M2 M3 rs de pc pg sg ln po dd lt pl f1s s2s tms) H := hP
                          have hD : va_D A (DW cI cC cQ d0 n0 na s0 sa h1 h2 mm ma t0 p0 pa tk N S oo zz M0 M1 M2 M3 rs de pc pg sg ln po dd lt pl f1s s2s tms) := hD
                          have hw116 : r114 = (sh_X4_printer N 1 1) := hw116
                          subst hw116
                          refine lv_aload_n hx hb dL_hangs_786 rfl (lv_at hl 0 rfl) ?_
                          refine lv_iload hx hb dL_hangs_787 (lv_at hl 8 rfl) ?_
                          refine lv_iconst (v := 2) hx hb dL_hangs_789 (by decide) ?_
                          have hPs := k_self hP
                          have hDs := k_selfD hD
                          refine k_behi (X := []) (Y := []) (va_runV (As := [.int 1, .int 2]) (rest := [.int (sh_X4_printer N 1 1), .int v113]) ⟨hx, hb, hml, hown, hts⟩ (c_X4_printer l D cI cC cQ H.size d0 n0 na s0 sa h1 h2 mm ma t0 p0 pa tk N S oo zz M0 M1 M2 M3 rs de pc pg sg ln po dd lt pl f1s s2s tms 1 2) (kcwV hts wd_ml_RL_60 wd_im_yX4_printer wd_sel_yX4_printer wd_ini_RX4 wd_code_yX4_printer rfl rfl rfl hd_X4_printer ⟨Nat.le_of_ble_eq_true rfl, Nat.le_of_ble_eq_true rfl⟩) ⟨in_blind, va_recv hK (pa_l (pa_r hPs)) (ci := 4) (q0 := 0) rfl rfl, k_pre hK (pa_l (pa_r hPs)) (da_l (da_r hDs)) hN⟩ rfl rfl hl.1 rfl (lv_room (Nat.le_of_ble_eq_true rfl)) dL_hangs_790 ⟨Nat.le_of_ble_eq_true rfl, Nat.le_of_ble_eq_true rfl⟩) hPs hDs hS hA (fun r117 u118 H locs hw119 hP hD hS => ?_)
                          have hP := k_unP hP
                          have hD := k_unD hD
                          have hP : va_P D vwCl (DW cI cC cQ d0 n0 na s0 sa h1 h2 mm ma t0 p0 pa tk N S oo zz M0 M1 M2 M3 rs de pc pg sg ln po dd lt pl f1s s2s tms) H := hP
                          have hD : va_D A (DW cI cC cQ d0 n0 na s0 sa h1 h2 mm ma t0 p0 pa tk N S oo zz M0 M1 M2 M3 rs de pc pg sg ln po dd lt pl f1s s2s tms) := hD
                          have hw119 : r117 = (sh_X4_printer N 1 2) := hw119
                          subst hw119
                          refine lv_iadd hx hb dL_hangs_793 ?_
                          have K : ∀ (v122 : Int32) (H : Heap) (locs : List Loc) (ls : Array Slot), v122 = (if ((sh_X4_printer N 1 1) + (sh_X4_printer N 1 2)) = 0 then 1 else 0) → va_P D vwCl (DW cI cC cQ d0 n0 na s0 sa h1 h2 mm ma t0 p0 pa tk N S oo zz M0 M1 M2 M3 rs de pc pg sg ln po dd lt pl f1s s2s tms) H → va_D A (DW cI cC cQ d0 n0 na s0 sa h1 h2 mm ma t0 p0 pa tk N S oo zz M0 M1 M2 M3 rs de pc pg sg ln po dd lt pl f1s s2s tms) → va_S A s.heap H locs → lv_has ls 14 [(0, .ref d0), (1, .int al), (2, .int le), (3, .int bo), (4, .int nn), (5, .int 1), (6, .int ((0 + ((sh_X4_printer N 0 1) + (sh_X4_printer N 0 2))) + ((sh_X4_printer N 1 1) + (sh_X4_printer N 1 2)))), (7, .int ((0 + (sh_X4_printer N 0 1)) + (sh_X4_printer N 1 1))), (8, .int 1), (9, .int (sh_X4_printer N 1 0))] → W p l e rm_L_hangs s m args below meth c H locs 0 0 Q (F0 m 802 ls [.int v122, .int v113]) := by
                            intro v122 H locs ls hv121 hP hD hS hl
                            refine lv_icmp_ne (tgt := 856) hx hb dL_hangs_802 (by decide) (fun c9 => absurd (hg_802 g (k_in (by decide)) hv112 hv121) c9) (fun _ => ?_)
                            refine lv_aload_n hx hb dL_hangs_805 rfl (lv_at hl 0 rfl) ?_
                            refine lv_iload hx hb dL_hangs_806 (lv_at hl 8 rfl) ?_
                            refine lv_iconst (v := 5) hx hb dL_hangs_808 (by decide) ?_
                            have hPs := k_self hP
                            have hDs := k_selfD hD
                            refine k_behi (X := []) (Y := []) (va_runV (As := [.int 1, .int 5]) (rest := []) ⟨hx, hb, hml, hown, hts⟩ (c_X4_printer l D cI cC cQ H.size d0 n0 na s0 sa h1 h2 mm ma t0 p0 pa tk N S oo zz M0 M1 M2 M3 rs de pc pg sg ln po dd lt pl f1s s2s tms 1 5) (kcwV hts wd_ml_RL_60 wd_im_yX4_printer wd_sel_yX4_printer wd_ini_RX4 wd_code_yX4_printer rfl rfl rfl hd_X4_printer ⟨Nat.le_of_ble_eq_true rfl, Nat.le_of_ble_eq_true rfl⟩) ⟨in_blind, va_recv hK (pa_l (pa_r hPs)) (ci := 4) (q0 := 0) rfl rfl, k_pre hK (pa_l (pa_r hPs)) (da_l (da_r hDs)) hN⟩ rfl rfl hl.1 rfl (lv_room (Nat.le_of_ble_eq_true rfl)) dL_hangs_809 ⟨Nat.le_of_ble_eq_true rfl, Nat.le_of_ble_eq_true rfl⟩) hPs hDs hS hA (fun r123 u124 H locs hw125 hP hD hS => ?_)
                            have hP := k_unP hP
                            have hD := k_unD hD
                            have hP : va_P D vwCl (DW cI cC cQ d0 n0 na s0 sa h1 h2 mm ma t0 p0 pa tk N S oo zz M0 M1 M2 M3 rs de pc pg sg ln po dd lt pl f1s s2s tms) H := hP
                            have hD : va_D A (DW cI cC cQ d0 n0 na s0 sa h1 h2 mm ma t0 p0 pa tk N S oo zz M0 M1 M2 M3 rs de pc pg sg ln po dd lt pl f1s s2s tms) := hD
                            have hw125 : r123 = (sh_X4_printer N 1 5) := hw125
                            subst hw125
                            refine lv_bipush (v := 100) hx hb dL_hangs_812 (by decide) ?_
                            refine lv_icmp_gt (tgt := 856) hx hb dL_hangs_814 (by decide) (fun c9 => absurd c9 (hg_814 g (k_in (by decide)))) (fun _ => ?_)
                            refine lv_aload_n hx hb dL_hangs_817 rfl (lv_at hl 0 rfl) ?_
                            refine lv_iload hx hb dL_hangs_818 (lv_at hl 8 rfl) ?_
                            refine lv_iconst (v := 4) hx hb dL_hangs_820 (by decide) ?_
                            have hPs := k_self hP
                            have hDs := k_selfD hD
                            refine k_behi (X := []) (Y := []) (va_runV (As := [.int 1, .int 4]) (rest := []) ⟨hx, hb, hml, hown, hts⟩ (c_X4_printer l D cI cC cQ H.size d0 n0 na s0 sa h1 h2 mm ma t0 p0 pa tk N S oo zz M0 M1 M2 M3 rs de pc pg sg ln po dd lt pl f1s s2s tms 1 4) (kcwV hts wd_ml_RL_60 wd_im_yX4_printer wd_sel_yX4_printer wd_ini_RX4 wd_code_yX4_printer rfl rfl rfl hd_X4_printer ⟨Nat.le_of_ble_eq_true rfl, Nat.le_of_ble_eq_true rfl⟩) ⟨in_blind, va_recv hK (pa_l (pa_r hPs)) (ci := 4) (q0 := 0) rfl rfl, k_pre hK (pa_l (pa_r hPs)) (da_l (da_r hDs)) hN⟩ rfl rfl hl.1 rfl (lv_room (Nat.le_of_ble_eq_true rfl)) dL_hangs_821 ⟨Nat.le_of_ble_eq_true rfl, Nat.le_of_ble_eq_true rfl⟩) hPs hDs hS hA (fun r126 u127 H locs hw128 hP hD hS => ?_)
                            have hP := k_unP hP
                            have hD := k_unD hD
                            have hP : va_P D vwCl (DW cI cC cQ d0 n0 na s0 sa h1 h2 mm ma t0 p0 pa tk N S oo zz M0 M1 M2 M3 rs de pc pg sg ln po dd lt pl f1s s2s tms) H := hP
                            have hD : va_D A (DW cI cC cQ d0 n0 na s0 sa h1 h2 mm ma t0 p0 pa tk N S oo zz M0 M1 M2 M3 rs de pc pg sg ln po dd lt pl f1s s2s tms) := hD
                            have hw128 : r126 = (sh_X4_printer N 1 4) := hw128
                            subst hw128
                            refine lv_aload_n hx hb dL_hangs_824 rfl (lv_at hl 0 rfl) ?_
                            refine lv_iload hx hb dL_hangs_825 (lv_at hl 8 rfl) ?_
                            refine lv_iconst (v := 1) hx hb dL_hangs_827 (by decide) ?_
                            have hPs := k_self hP
                            have hDs := k_selfD hD
                            refine k_behi (X := []) (Y := []) (va_runV (As := [.int 1, .int 1]) (rest := [.int (sh_X4_printer N 1 4)]) ⟨hx, hb, hml, hown, hts⟩ (c_X4_printer l D cI cC cQ H.size d0 n0 na s0 sa h1 h2 mm ma t0 p0 pa tk N S oo zz M0 M1 M2 M3 rs de pc pg sg ln po dd lt pl f1s s2s tms 1 1) (kcwV hts wd_ml_RL_60 wd_im_yX4_printer wd_sel_yX4_printer wd_ini_RX4 wd_code_yX4_printer rfl rfl rfl hd_X4_printer ⟨Nat.le_of_ble_eq_true rfl, Nat.le_of_ble_eq_true rfl⟩) ⟨in_blind, va_recv hK (pa_l (pa_r hPs)) (ci := 4) (q0 := 0) rfl rfl, k_pre hK (pa_l (pa_r hPs)) (da_l (da_r hDs)) hN⟩ rfl rfl hl.1 rfl (lv_room (Nat.le_of_ble_eq_true rfl)) dL_hangs_828 ⟨Nat.le_of_ble_eq_true rfl, Nat.le_of_ble_eq_true rfl⟩) hPs hDs hS hA (fun r129 u130 H locs hw131 hP hD hS => ?_)
                            have hP := k_unP hP
                            have hD := k_unD hD
                            have hP : va_P D vwCl (DW cI cC cQ d0 n0 na s0 sa h1 h2 mm ma t0 p0 pa tk N S oo zz M0 M1 M2 M3 rs de pc pg sg ln po dd lt pl f1s s2s tms) H := hP
                            have hD : va_D A (DW cI cC cQ d0 n0 na s0 sa h1 h2 mm ma t0 p0 pa tk N S oo zz M0 M1 M2 M3 rs de pc pg sg ln po dd lt pl f1s s2s tms) := hD
                            have hw131 : r129 = (sh_X4_printer N 1 1) := hw131
                            subst hw131
                            refine lv_aload_n hx hb dL_hangs_831 rfl (lv_at hl 0 rfl) ?_
                            refine lv_iload hx hb dL_hangs_832 (lv_at hl 8 rfl) ?_
                            refine lv_iconst (v := 2) hx hb dL_hangs_834 (by decide) ?_
                            have hPs := k_self hP
                            have hDs := k_selfD hD
                            refine k_behi (X := []) (Y := []) (va_runV (As := [.int 1, .int 2]) (rest := [.int (sh_X4_printer N 1 1), .int (sh_X4_printer N 1 4)]) ⟨hx, hb, hml, hown, hts⟩ (c_X4_printer l D cI cC cQ H.size d0 n0 na s0 sa h1 h2 mm ma t0 p0 pa tk N S oo zz M0 M1 M2 M3 rs de pc pg sg ln po dd lt pl f1s s2s tms 1 2) (kcwV hts wd_ml_RL_60 wd_im_yX4_printer wd_sel_yX4_printer wd_ini_RX4 wd_code_yX4_printer rfl rfl rfl hd_X4_printer ⟨Nat.le_of_ble_eq_true rfl, Nat.le_of_ble_eq_true rfl⟩) ⟨in_blind, va_recv hK (pa_l (pa_r hPs)) (ci := 4) (q0 := 0) rfl rfl, k_pre hK (pa_l (pa_r hPs)) (da_l (da_r hDs)) hN⟩ rfl rfl hl.1 rfl (lv_room (Nat.le_of_ble_eq_true rfl)) dL_hangs_835 ⟨Nat.le_of_ble_eq_true rfl, Nat.le_of_ble_eq_true rfl⟩) hPs hDs hS hA (fun r132 u133 H locs hw134 hP hD hS => ?_)
                            have hP := k_unP hP
                            have hD := k_unD hD
                            have hP : va_P D vwCl (DW cI cC cQ d0 n0 na s0 sa h1 h2 mm ma t0 p0 pa tk N S oo zz M0 M1 M2 M3 rs de pc pg sg ln po dd lt pl f1s s2s tms) H := hP
                            have hD : va_D A (DW cI cC cQ d0 n0 na s0 sa h1 h2 mm ma t0 p0 pa tk N S oo zz M0 M1 M2 M3 rs de pc pg sg ln po dd lt pl f1s s2s tms) := hD
                            have hw134 : r132 = (sh_X4_printer N 1 2) := hw134
                            subst hw134
                            refine lv_iadd hx hb dL_hangs_838 ?_
                            refine lv_icmp_lt (tgt := 856) hx hb dL_hangs_839 (by decide) (fun c9 => absurd c9 (hg_839 g (k_in (by decide)))) (fun _ => ?_)
                            refine lv_aload_n hx hb dL_hangs_842 rfl (lv_at hl 0 rfl) ?_
                            refine lv_iload hx hb dL_hangs_843 (lv_at hl 8 rfl) ?_
                            refine lv_iconst (v := 3) hx hb dL_hangs_845 (by decide) ?_
                            have hPs := k_self hP
                            have hDs := k_selfD hD
                            refine k_behi (X := []) (Y := []) (va_runV (As := [.int 1, .int 3]) (rest := []) ⟨hx, hb, hml, hown, hts⟩ (c_X4_printer l D cI cC cQ H.size d0 n0 na s0 sa h1 h2 mm ma t0 p0 pa tk N S oo zz M0 M1 M2 M3 rs de pc pg sg ln po dd lt pl f1s s2s tms 1 3) (kcwV hts wd_ml_RL_60 wd_im_yX4_printer wd_sel_yX4_printer wd_ini_RX4 wd_code_yX4_printer rfl rfl rfl hd_X4_printer ⟨Nat.le_of_ble_eq_true rfl, Nat.le_of_ble_eq_true rfl⟩) ⟨in_blind, va_recv hK (pa_l (pa_r hPs)) (ci := 4) (q0 := 0) rfl rfl, k_pre hK (pa_l (pa_r hPs)) (da_l (da_r hDs)) hN⟩ rfl rfl hl.1 rfl (lv_room (Nat.le_of_ble_eq_true rfl)) dL_hangs_846 ⟨Nat.le_of_ble_eq_true rfl, Nat.le_of_ble_eq_true rfl⟩) hPs hDs hS hA (fun r135 u136 H locs hw137 hP hD hS => ?_)
                            have hP := k_unP hP
                            have hD := k_unD hD
                            have hP : va_P D vwCl (DW cI cC cQ d0 n0 na s0 sa h1 h2 mm ma t0 p0 pa tk N S oo zz M0 M1 M2 M3 rs de pc pg sg ln po dd lt pl f1s s2s tms) H := hP
                            have hD : va_D A (DW cI cC cQ d0 n0 na s0 sa h1 h2 mm ma t0 p0 pa tk N S oo zz M0 M1 M2 M3 rs de pc pg sg ln po dd lt pl f1s s2s tms) := hD
                            have hw137 : r135 = (sh_X4_printer N 1 3) := hw137
                            subst hw137
                            refine lv_if_lt (tgt := 856) hx hb dL_hangs_849 (by decide) (fun c9 => absurd c9 (hg_849 g (k_in (by decide)))) (fun _ => ?_)
                            refine lv_iconst (v := 1) hx hb dL_hangs_852 (by decide) ?_
                            refine lv_goto (tgt := 857) hx hb dL_hangs_853 (by decide) ?_
                            refine lv_istore (lv' := [(5, .int 1), (0, .ref d0), (1, .int al), (2, .int le), (3, .int bo), (4, .int nn), (6, .int ((0 + ((sh_X4_printer N 0 1) + (sh_X4_printer N 0 2))) + ((sh_X4_printer N 1 1) + (sh_X4_printer N 1 2)))), (7, .int ((0 + (sh_X4_printer N 0 1)) + (sh_X4_printer N 1 1))), (8, .int 1), (9, .int (sh_X4_printer N 1 0))]) hx hb dL_hangs_857 hl (by decide) rfl (fun ls hl => ?_)
                            refine lv_iinc (v := 2) (lv' := [(8, .int 2), (5, .int 1), (0, .ref d0), (1, .int al), (2, .int le), (3, .int bo), (4, .int nn), (6, .int ((0 + ((sh_X4_printer N 0 1) + (sh_X4_printer N 0 2))) + ((sh_X4_printer N 1 1) + (sh_X4_printer N 1 2)))), (7, .int ((0 + (sh_X4_printer N 0 1)) + (sh_X4_printer N 1 1))), (9, .int (sh_X4_printer N 1 0))]) hx hb dL_hangs_859 hl (k := 8) rfl (by decide) (by decide) rfl (fun ls hl => ?_)
                            refine lv_goto (tgt := 650) hx hb dL_hangs_862 (by decide) ?_
                            refine lv_iload hx hb dL_hangs_650 (lv_at hl 0 rfl) ?_
                            refine lv_iconst (v := 2) hx hb dL_hangs_652 (by decide) ?_
                            refine lv_icmp_ge (tgt := 865) hx hb dL_hangs_653 (by decide) (fun _ => ?_) (fun c9 => absurd c9 (by decide))
                            refine lv_iload hx hb dL_hangs_865 (lv_at hl 1 rfl) ?_
                            refine lv_if_eq (tgt := 880) hx hb dL_hangs_867 (by decide) (fun c9 => absurd c9 (by decide)) (fun _ => ?_)
                            refine lv_aload_n hx hb dL_hangs_870 rfl (lv_at hl 2 rfl) ?_
                            refine lv_bipush (v := 100) hx hb dL_hangs_871 (by decide) ?_
                            refine lv_iconst (v := 5) hx hb dL_hangs_873 (by decide) ?_
                            have hPs := k_self hP
                            have hDs := k_selfD hD
                            refine k_behi (X := []) (Y := []) (va_runV (As := [.int 100, .int 5]) (rest := []) ⟨hx, hb, hml, hown, hts⟩ (c_X4_bestFor l D cI cC cQ H.size d0 n0 na s0 sa h1 h2 mm ma t0 p0 pa tk N S oo zz M0 M1 M2 M3 rs de pc pg sg ln po dd lt pl f1s s2s tms 100 5) (kcwV hts wd_ml_RL_81 wd_im_yX4_bestFor wd_sel_yX4_bestFor wd_ini_RX4 wd_code_yX4_bestFor rfl rfl rfl hd_X4_bestFor ⟨Nat.le_of_ble_eq_true rfl, Nat.le_of_ble_eq_true rfl⟩) ⟨in_blind, va_recv hK (pa_l (pa_r hPs)) (ci := 4) (q0 := 0) rfl rfl, k_pre hK (pa_l (pa_r hPs)) (da_l (da_r hDs)) hN⟩ rfl rfl hl.1 rfl (lv_room (Nat.le_of_ble_eq_true rfl)) dL_hangs_874 ⟨Nat.le_of_ble_eq_true rfl, Nat.le_of_ble_eq_true rfl⟩) hPs hDs hS hA (fun r138 u139 H locs hw140 hP hD hS => ?_)
                            have hP := k_unP hP
                            have hD := k_unD hD
                            have hP : va_P D vwCl (DW cI cC cQ d0 n0 na s0 sa h1 h2 mm ma t0 p0 pa tk N S oo zz M0 M1 M2 M3 rs de pc pg sg ln po dd lt pl f1s s2s tms) H := hP
                            have hD : va_D A (DW cI cC cQ d0 n0 na s0 sa h1 h2 mm ma t0 p0 pa tk N S oo zz M0 M1 M2 M3 rs de pc pg sg ln po dd lt pl f1s s2s tms) := hD
                            have hw140 : r138 = (sh_X4_bestFor N 100 5) := hw140
                            subst hw140
                            refine lv_goto (tgt := 882) hx hb dL_hangs_877 (by decide) ?_
                            refine lv_istore (lv' := [(8, .int (sh_X4_bestFor N 100 5)), (5, .int 1), (0, .ref d0), (1, .int al), (2, .int le), (3, .int bo), (4, .int nn), (6, .int ((0 + ((sh_X4_printer N 0 1) + (sh_X4_printer N 0 2))) + ((sh_X4_printer N 1 1) + (sh_X4_printer N 1 2)))), (7, .int ((0 + (sh_X4_printer N 0 1)) + (sh_X4_printer N 1 1))), (9, .int (sh_X4_printer N 1 0))]) hx hb dL_hangs_882 hl (by decide) rfl (fun ls hl => ?_)
                            refine lv_iload hx hb dL_hangs_884 (lv_at hl 1 rfl) ?_
                            refine lv_if_eq (tgt := 913) hx hb dL_hangs_886 (by decide) (fun c9 => absurd c9 (by decide)) (fun _ => ?_)
                            refine lv_iload hx hb dL_hangs_889 (lv_at hl 0 rfl) ?_
                            refine lv_bipush (v := (-4)) hx hb dL_hangs_891 (by decide) ?_
                            refine lv_icmp_eq (tgt := 909) hx hb dL_hangs_893 (by decide) (fun c141 => ?_) (fun c141 => ?_)
                            · skip
                              refine lv_iconst (v := 1) hx hb dL_hangs_909 (by decide) ?_
                              refine lv_goto (tgt := 914) hx hb dL_hangs_910 (by decide) ?_
                              refine lv_istore (lv' := [(5, .int 1), (8, .int (sh_X4_bestFor N 100 5)), (0, .ref d0), (1, .int al), (2, .int le), (3, .int bo), (4, .int nn), (6, .int ((0 + ((sh_X4_printer N 0 1) + (sh_X4_printer N 0 2))) + ((sh_X4_printer N 1 1) + (sh_X4_printer N 1 2)))), (7, .int ((0 + (sh_X4_printer N 0 1)) + (sh_X4_printer N 1 1))), (9, .int (sh_X4_printer N 1 0))]) hx hb dL_hangs_914 hl (by decide) rfl (fun ls hl => ?_)
                              refine lv_iload hx hb dL_hangs_916 (lv_at hl 0 rfl) ?_
                              refine lv_if_eq (tgt := 1042) hx hb dL_hangs_918 (by decide) (fun c9 => absurd c9 (by decide)) (fun _ => ?_)
                              refine lv_iload_n hx hb dL_hangs_921 rfl (lv_at hl 3 rfl) ?_
                              refine lv_aload_n hx hb dL_hangs_922 rfl (lv_at hl 2 rfl) ?_
                              refine lv_iconst (v := 0) hx hb dL_hangs_923 (by decide) ?_
                              have hPs := k_self hP
                              have hDs := k_selfD hD
                              refine k_behi (X := []) (Y := []) (va_runV (As := [.int 0]) (rest := [.int al]) ⟨hx, hb, hml, hown, hts⟩ (c_X4_count l D cI cC cQ H.size d0 n0 na s0 sa h1 h2 mm ma t0 p0 pa tk N S oo zz M0 M1 M2 M3 rs de pc pg sg ln po dd lt pl f1s s2s tms 0) (kcwV hts wd_ml_RL_53 wd_im_yX4_count wd_sel_yX4_count wd_ini_RX4 wd_code_yX4_count rfl rfl rfl hd_X4_count ⟨Nat.le_of_ble_eq_true rfl, Nat.le_of_ble_eq_true rfl⟩) ⟨in_blind, va_recv hK (pa_l (pa_r hPs)) (ci := 4) (q0 := 0) rfl rfl, k_pre hK (pa_l (pa_r hPs)) (da_l (da_r hDs)) hN⟩ rfl rfl hl.1 rfl (lv_room (Nat.le_of_ble_eq_true rfl)) dL_hangs_924 ⟨Nat.le_of_ble_eq_true rfl, Nat.le_of_ble_eq_true rfl⟩) hPs hDs hS hA (fun r142 u143 H locs hw144 hP hD hS => ?_)
                              have hP := k_unP hP
                              have hD := k_unD hD
                              have hP : va_P D vwCl (DW cI cC cQ d0 n0 na s0 sa h1 h2 mm ma t0 p0 pa tk N S oo zz M0 M1 M2 M3 rs de pc pg sg ln po dd lt pl f1s s2s tms) H := hP
                              have hD : va_D A (DW cI cC cQ d0 n0 na s0 sa h1 h2 mm ma t0 p0 pa tk N S oo zz M0 M1 M2 M3 rs de pc pg sg ln po dd lt pl f1s s2s tms) := hD
                              have hw144 : r142 = (sh_X4_count N zz ln 0) := hw144
                              subst hw144
                              refine lv_icmp_ne (tgt := 1042) hx hb dL_hangs_927 (by decide) (fun c9 => absurd (hg_927 hI c25) c9) (fun _ => ?_)
                              refine lv_iload_n hx hb dL_hangs_930 rfl (lv_at hl 3 rfl) ?_
                              refine lv_aload_n hx hb dL_hangs_931 rfl (lv_at hl 2 rfl) ?_
                              refine lv_iconst (v := 1) hx hb dL_hangs_932 (by decide) ?_
                              have hPs := k_self hP
                              have hDs := k_selfD hD
                              refine k_behi (X := []) (Y := []) (va_runV (As := [.int 1]) (rest := [.int al]) ⟨hx, hb, hml, hown, hts⟩ (c_X4_count l D cI cC cQ H.size d0 n0 na s0 sa h1 h2 mm ma t0 p0 pa tk N S oo zz M0 M1 M2 M3 rs de pc pg sg ln po dd lt pl f1s s2s tms 1) (kcwV hts wd_ml_RL_53 wd_im_yX4_count wd_sel_yX4_count wd_ini_RX4 wd_code_yX4_count rfl rfl rfl hd_X4_count ⟨Nat.le_of_ble_eq_true rfl, Nat.le_of_ble_eq_true rfl⟩) ⟨in_blind, va_recv hK (pa_l (pa_r hPs)) (ci := 4) (q0 := 0) rfl rfl, k_pre hK (pa_l (pa_r hPs)) (da_l (da_r hDs)) hN⟩ rfl rfl hl.1 rfl (lv_room (Nat.le_of_ble_eq_true rfl)) dL_hangs_933 ⟨Nat.le_of_ble_eq_true rfl, Nat.le_of_ble_eq_true rfl⟩) hPs hDs hS hA (fun r145 u146 H locs hw147 hP hD hS => ?_)
                              have hP := k_unP hP
                              have hD := k_unD hD
                              have hP : va_P D vwCl (DW cI cC cQ d0 n0 na s0 sa h1 h2 mm ma t0 p0 pa tk N S oo zz M0 M1 M2 M3 rs de pc pg sg ln po dd lt pl f1s s2s tms) H := hP
                              have hD : va_D A (DW cI cC cQ d0 n0 na s0 sa h1 h2 mm ma t0 p0 pa tk N S oo zz M0 M1 M2 M3 rs de pc pg sg ln po dd lt pl f1s s2s tms) := hD
                              have hw147 : r145 = (sh_X4_count N zz ln 1) := hw147
                              subst hw147
                              refine lv_iadd hx hb dL_hangs_936 ?_
                              refine lv_aload_n hx hb dL_hangs_937 rfl (lv_at hl 2 rfl) ?_
                              refine lv_iconst (v := 2) hx hb dL_hangs_938 (by decide) ?_
                              have hPs := k_self hP
                              have hDs := k_selfD hD
                              refine k_behi (X := []) (Y := []) (va_runV (As := [.int 2]) (rest := [.int (al + (sh_X4_count N zz ln 1))]) ⟨hx, hb, hml, hown, hts⟩ (c_X4_count l D cI cC cQ H.size d0 n0 na s0 sa h1 h2 mm ma t0 p0 pa tk N S oo zz M0 M1 M2 M3 rs de pc pg sg ln po dd lt pl f1s s2s tms 2) (kcwV hts wd_ml_RL_53 wd_im_yX4_count wd_sel_yX4_count wd_ini_RX4 wd_code_yX4_count rfl rfl rfl hd_X4_count ⟨Nat.le_of_ble_eq_true rfl, Nat.le_of_ble_eq_true rfl⟩) ⟨in_blind, va_recv hK (pa_l (pa_r hPs)) (ci := 4) (q0 := 0) rfl rfl, k_pre hK (pa_l (pa_r hPs)) (da_l (da_r hDs)) hN⟩ rfl rfl hl.1 rfl (lv_room (Nat.le_of_ble_eq_true rfl)) dL_hangs_939 ⟨Nat.le_of_ble_eq_true rfl, Nat.le_of_ble_eq_true rfl⟩) hPs hDs hS hA (fun r148 u149 H locs hw150 hP hD hS => ?_)
                              have hP := k_unP hP
                              have hD := k_unD hD
                              have hP : va_P D vwCl (DW cI cC cQ d0 n0 na s0 sa h1 h2 mm ma t0 p0 pa tk N S oo zz M0 M1 M2 M3 rs de pc pg sg ln po dd lt pl f1s s2s tms) H := hP
                              have hD : va_D A (DW cI cC cQ d0 n0 na s0 sa h1 h2 mm ma t0 p0 pa tk N S oo zz M0 M1 M2 M3 rs de pc pg sg ln po dd lt pl f1s s2s tms) := hD
                              have hw150 : r148 = (sh_X4_count N zz ln 2) := hw150
                              subst hw150
                              refine lv_iadd hx hb dL_hangs_942 ?_
                              refine lv_sipush (v := 16000) hx hb dL_hangs_943 (by decide) ?_
                              refine lv_aload_n hx hb dL_hangs_946 rfl (lv_at hl 2 rfl) ?_
                              refine lv_iconst (v := 3) hx hb dL_hangs_947 (by decide) ?_
                              have hPs := k_self hP
                              have hDs := k_selfD hD
                              refine k_behi (X := []) (Y := []) (va_runV (As := [.int 3]) (rest := [.int 16000, .int ((al + (sh_X4_count N zz ln 1)) + (sh_X4_count N zz ln 2))]) ⟨hx, hb, hml, hown, hts⟩ (c_X4_count l D cI cC cQ H.size d0 n0 na s0 sa h1 h2 mm ma t0 p0 pa tk N S oo zz M0 M1 M2 M3 rs de pc pg sg ln po dd lt pl f1s s2s tms 3) (kcwV hts wd_ml_RL_53 wd_im_yX4_count wd_sel_yX4_count wd_ini_RX4 wd_code_yX4_count rfl rfl rfl hd_X4_count ⟨Nat.le_of_ble_eq_true rfl, Nat.le_of_ble_eq_true rfl⟩) ⟨in_blind, va_recv hK (pa_l (pa_r hPs)) (ci := 4) (q0 := 0) rfl rfl, k_pre hK (pa_l (pa_r hPs)) (da_l (da_r hDs)) hN⟩ rfl rfl hl.1 rfl (lv_room (Nat.le_of_ble_eq_true rfl)) dL_hangs_948 ⟨Nat.le_of_ble_eq_true rfl, Nat.le_of_ble_eq_true rfl⟩) hPs hDs hS hA (fun r151 u152 H locs hw153 hP hD hS => ?_)
                              have hP := k_unP hP
                              have hD := k_unD hD
                              have hP : va_P D vwCl (DW cI cC cQ d0 n0 na s0 sa h1 h2 mm ma t0 p0 pa tk N S oo zz M0 M1 M2 M3 rs de pc pg sg ln po dd lt pl f1s s2s tms) H := hP
                              have hD : va_D A (DW cI cC cQ d0 n0 na s0 sa h1 h2 mm ma t0 p0 pa tk N S oo zz M0 M1 M2 M3 rs de pc pg sg ln po dd lt pl f1s s2s tms) := hD
                              have hw153 : r151 = (sh_X4_count N zz ln 3) := hw153
                              subst hw153
                              refine lv_iadd hx hb dL_hangs_951 ?_
                              refine lv_icmp_ne (tgt := 1042) hx hb dL_hangs_952 (by decide) (fun c9 => absurd (hg_952 g hI c25) c9) (fun _ => ?_)
                              refine lv_iload_n hx hb dL_hangs_955 rfl (lv_at hl 4 rfl) ?_
                              refine lv_aload_n hx hb dL_hangs_956 rfl (lv_at hl 2 rfl) ?_
                              refine lv_bipush (v := 6) hx hb dL_hangs_957 (by decide) ?_
                              have hPs := k_self hP
                              have hDs := k_selfD hD
                              refine k_behi (X := []) (Y := []) (va_runV (As := [.int 6]) (rest := [.int le]) ⟨hx, hb, hml, hown, hts⟩ (c_X4_count l D cI cC cQ H.size d0 n0 na s0 sa h1 h2 mm ma t0 p0 pa tk N S oo zz M0 M1 M2 M3 rs de pc pg sg ln po dd lt pl f1s s2s tms 6) (kcwV hts wd_ml_RL_53 wd_im_yX4_count wd_sel_yX4_count wd_ini_RX4 wd_code_yX4_count rfl rfl rfl hd_X4_count ⟨Nat.le_of_ble_eq_true rfl, Nat.le_of_ble_eq_true rfl⟩) ⟨in_blind, va_recv hK (pa_l (pa_r hPs)) (ci := 4) (q0 := 0) rfl rfl, k_pre hK (pa_l (pa_r hPs)) (da_l (da_r hDs)) hN⟩ rfl rfl hl.1 rfl (lv_room (Nat.le_of_ble_eq_true rfl)) dL_hangs_959 ⟨Nat.le_of_ble_eq_true rfl, Nat.le_of_ble_eq_true rfl⟩) hPs hDs hS hA (fun r154 u155 H locs hw156 hP hD hS => ?_)
                              have hP := k_unP hP
                              have hD := k_unD hD
                              have hP : va_P D vwCl (DW cI cC cQ d0 n0 na s0 sa h1 h2 mm ma t0 p0 pa tk N S oo zz M0 M1 M2 M3 rs de pc pg sg ln po dd lt pl f1s s2s tms) H := hP
                              have hD : va_D A (DW cI cC cQ d0 n0 na s0 sa h1 h2 mm ma t0 p0 pa tk N S oo zz M0 M1 M2 M3 rs de pc pg sg ln po dd lt pl f1s s2s tms) := hD
                              have hw156 : r154 = (sh_X4_count N zz ln 6) := hw156
                              subst hw156
                              refine lv_icmp_ne (tgt := 1042) hx hb dL_hangs_962 (by decide) (fun c9 => absurd (hg_962 hI c25) c9) (fun _ => ?_)
                              refine lv_iload_n hx hb dL_hangs_965 rfl (lv_at hl 5 rfl) ?_
                              refine lv_aload_n hx hb dL_hangs_966 rfl (lv_at hl 2 rfl) ?_
                              refine lv_bipush (v := 7) hx hb dL_hangs_967 (by decide) ?_
                              have hPs := k_self hP
                              have hDs := k_selfD hD
                              refine k_behi (X := []) (Y := []) (va_runV (As := [.int 7]) (rest := [.int bo]) ⟨hx, hb, hml, hown, hts⟩ (c_X4_count l D cI cC cQ H.size d0 n0 na s0 sa h1 h2 mm ma t0 p0 pa tk N S oo zz M0 M1 M2 M3 rs de pc pg sg ln po dd lt pl f1s s2s tms 7) (kcwV hts wd_ml_RL_53 wd_im_yX4_count wd_sel_yX4_count wd_ini_RX4 wd_code_yX4_count rfl rfl rfl hd_X4_count ⟨Nat.le_of_ble_eq_true rfl, Nat.le_of_ble_eq_true rfl⟩) ⟨in_blind, va_recv hK (pa_l (pa_r hPs)) (ci := 4) (q0 := 0) rfl rfl, k_pre hK (pa_l (pa_r hPs)) (da_l (da_r hDs)) hN⟩ rfl rfl hl.1 rfl (lv_room (Nat.le_of_ble_eq_true rfl)) dL_hangs_969 ⟨Nat.le_of_ble_eq_true rfl, Nat.le_of_ble_eq_true rfl⟩) hPs hDs hS hA (fun r157 u158 H locs hw159 hP hD hS => ?_)
                              have hP := k_unP hP
                              have hD := k_unD hD
                              have hP : va_P D vwCl (DW cI cC cQ d0 n0 na s0 sa h1 h2 mm ma t0 p0 pa tk N S oo zz M0 M1 M2 M3 rs de pc pg sg ln po dd lt pl f1s s2s tms) H := hP
                              have hD : va_D A (DW cI cC cQ d0 n0 na s0 sa h1 h2 mm ma t0 p0 pa tk N S oo zz M0 M1 M2 M3 rs de pc pg sg ln po dd lt pl f1s s2s tms) := hD
                              have hw159 : r157 = (sh_X4_count N zz ln 7) := hw159
                              subst hw159
                              refine lv_icmp_ne (tgt := 1042) hx hb dL_hangs_972 (by decide) (fun c9 => absurd (hg_972 g hI c25) c9) (fun _ => ?_)
                              refine lv_iload hx hb dL_hangs_975 (lv_at hl 6 rfl) ?_
                              refine lv_aload_n hx hb dL_hangs_977 rfl (lv_at hl 2 rfl) ?_
                              refine lv_iconst (v := 5) hx hb dL_hangs_978 (by decide) ?_
                              have hPs := k_self hP
                              have hDs := k_selfD hD
                              refine k_behi (X := []) (Y := []) (va_runV (As := [.int 5]) (rest := [.int nn]) ⟨hx, hb, hml, hown, hts⟩ (c_X4_count l D cI cC cQ H.size d0 n0 na s0 sa h1 h2 mm ma t0 p0 pa tk N S oo zz M0 M1 M2 M3 rs de pc pg sg ln po dd lt pl f1s s2s tms 5) (kcwV hts wd_ml_RL_53 wd_im_yX4_count wd_sel_yX4_count wd_ini_RX4 wd_code_yX4_count rfl rfl rfl hd_X4_count ⟨Nat.le_of_ble_eq_true rfl, Nat.le_of_ble_eq_true rfl⟩) ⟨in_blind, va_recv hK (pa_l (pa_r hPs)) (ci := 4) (q0 := 0) rfl rfl, k_pre hK (pa_l (pa_r hPs)) (da_l (da_r hDs)) hN⟩ rfl rfl hl.1 rfl (lv_room (Nat.le_of_ble_eq_true rfl)) dL_hangs_979 ⟨Nat.le_of_ble_eq_true rfl, Nat.le_of_ble_eq_true rfl⟩) hPs hDs hS hA (fun r160 u161 H locs hw162 hP hD hS => ?_)
                              have hP := k_unP hP
                              have hD := k_unD hD
                              have hP : va_P D vwCl (DW cI cC cQ d0 n0 na s0 sa h1 h2 mm ma t0 p0 pa tk N S oo zz M0 M1 M2 M3 rs de pc pg sg ln po dd lt pl f1s s2s tms) H := hP
                              have hD : va_D A (DW cI cC cQ d0 n0 na s0 sa h1 h2 mm ma t0 p0 pa tk N S oo zz M0 M1 M2 M3 rs de pc pg sg ln po dd lt pl f1s s2s tms) := hD
                              have hw162 : r160 = (sh_X4_count N zz ln 5) := hw162
                              subst hw162
                              refine lv_icmp_ne (tgt := 1042) hx hb dL_hangs_982 (by decide) (fun c9 => absurd (hg_982 g hI c25) c9) (fun _ => ?_)
                              refine lv_iload hx hb dL_hangs_985 (lv_at hl 7 rfl) ?_
                              refine lv_aload_n hx hb dL_hangs_987 rfl (lv_at hl 2 rfl) ?_
                              refine lv_iconst (v := 4) hx hb dL_hangs_988 (by decide) ?_
                              have hPs := k_self hP
                              have hDs := k_selfD hD
                              refine k_behi (X := []) (Y := []) (va_runV (As := [.int 4]) (rest := [.int ((0 + ((sh_X4_printer N 0 1) + (sh_X4_printer N 0 2))) + ((sh_X4_printer N 1 1) + (sh_X4_printer N 1 2)))]) ⟨hx, hb, hml, hown, hts⟩ (c_X4_count l D cI cC cQ H.size d0 n0 na s0 sa h1 h2 mm ma t0 p0 pa tk N S oo zz M0 M1 M2 M3 rs de pc pg sg ln po dd lt pl f1s s2s tms 4) (kcwV hts wd_ml_RL_53 wd_im_yX4_count wd_sel_yX4_count wd_ini_RX4 wd_code_yX4_count rfl rfl rfl hd_X4_count ⟨Nat.le_of_ble_eq_true rfl, Nat.le_of_ble_eq_true rfl⟩) ⟨in_blind, va_recv hK (pa_l (pa_r hPs)) (ci := 4) (q0 := 0) rfl rfl, k_pre hK (pa_l (pa_r hPs)) (da_l (da_r hDs)) hN⟩ rfl rfl hl.1 rfl (lv_room (Nat.le_of_ble_eq_true rfl)) dL_hangs_989 ⟨Nat.le_of_ble_eq_true rfl, Nat.le_of_ble_eq_true rfl⟩) hPs hDs hS hA (fun r163 u164 H locs hw165 hP hD hS => ?_)
                              have hP := k_unP hP
                              have hD := k_unD hD
                              have hP : va_P D vwCl (DW cI cC cQ d0 n0 na s0 sa h1 h2 mm ma t0 p0 pa tk N S oo zz M0 M1 M2 M3 rs de pc pg sg ln po dd lt pl f1s s2s tms) H := hP
                              have hD : va_D A (DW cI cC cQ d0 n0 na s0 sa h1 h2 mm ma t0 p0 pa tk N S oo zz M0 M1 M2 M3 rs de pc pg sg ln po dd lt pl f1s s2s tms) := hD
                              have hw165 : r163 = (sh_X4_count N zz ln 4) := hw165
                              subst hw165
                              refine lv_icmp_ne (tgt := 1042) hx hb dL_hangs_992 (by decide) (fun c9 => absurd (hg_992) c9) (fun _ => ?_)
                              refine lv_aload_n hx hb dL_hangs_995 rfl (lv_at hl 2 rfl) ?_
                              have hPs := k_self hP
                              have hDs := k_selfD hD
                              refine k_behd (X := []) (Y := []) (va_runV (As := []) (rest := []) ⟨hx, hb, hml, hown, hts⟩ (c_X4_darkness l D cI cC cQ H.size d0 n0 na s0 sa h1 h2 mm ma t0 p0 pa tk N S oo zz M0 M1 M2 M3 rs de pc pg sg ln po dd lt pl f1s s2s tms ) (kcwV hts wd_ml_RL_84 wd_im_yX4_darkness wd_sel_yX4_darkness wd_ini_RX4 wd_code_yX4_darkness rfl rfl rfl hd_X4_darkness ⟨Nat.le_of_ble_eq_true rfl, Nat.le_of_ble_eq_true rfl⟩) ⟨in_blind, va_recv hK (pa_l (pa_r hPs)) (ci := 4) (q0 := 0) rfl rfl, k_pre hK (pa_l (pa_r hPs)) (da_l (da_r hDs)) hN⟩ rfl rfl hl.1 rfl (lv_room (Nat.le_of_ble_eq_true rfl)) dL_hangs_996 ⟨Nat.le_of_ble_eq_true rfl, Nat.le_of_ble_eq_true rfl⟩) hPs hDs hS hA (fun r166 u167 H locs hw168 hP hD hS => ?_)
                              have hP := k_unP hP
                              have hD := k_unD hD
                              have hP : va_P D vwCl (DW cI cC cQ d0 n0 na s0 sa h1 h2 mm ma t0 p0 pa tk N S oo zz M0 M1 M2 M3 rs de pc pg sg ln po dd lt pl f1s s2s tms) H := hP
                              have hD : va_D A (DW cI cC cQ d0 n0 na s0 sa h1 h2 mm ma t0 p0 pa tk N S oo zz M0 M1 M2 M3 rs de pc pg sg ln po dd lt pl f1s s2s tms) := hD
                              have hw168 : r166 = (sh_X4_darkness N) := hw168
                              subst hw168
                              refine lv_iload hx hb dL_hangs_999 (lv_at hl 7 rfl) ?_
                              refine lv_if_ne (tgt := 1008) hx hb dL_hangs_1001 (by decide) (fun c169 => ?_) (fun c169 => ?_)
                              · skip
                                refine lv_iload hx hb dL_hangs_1008 (lv_at hl 8 rfl) ?_
                                refine lv_i2d hx hb dL_hangs_1010 ?_
                                refine lv_iload hx hb dL_hangs_1011 (lv_at hl 7 rfl) ?_
                                refine lv_i2d hx hb dL_hangs_1013 ?_
                                refine lv_ddiv hx hb dL_hangs_1014 (div_num c169) ?_
                                refine lv_dcmp hx hb dL_hangs_1015 ?_
                                refine lv_if_ne (tgt := 1042) hx hb dL_hangs_1016 (by decide) (fun c9 => absurd (hg_1016b g c169) c9) (fun _ => ?_)
                                refine lv_aload_n hx hb dL_hangs_1019 rfl (lv_at hl 2 rfl) ?_
                                refine lv_bipush (v := 13) hx hb dL_hangs_1020 (by decide) ?_
                                have hPs := k_self hP
                                have hDs := k_selfD hD
                                refine k_behi (X := []) (Y := []) (va_runV (As := [.int 13]) (rest := []) ⟨hx, hb, hml, hown, hts⟩ (c_X4_count l D cI cC cQ H.size d0 n0 na s0 sa h1 h2 mm ma t0 p0 pa tk N S oo zz M0 M1 M2 M3 rs de pc pg sg ln po dd lt pl f1s s2s tms 13) (kcwV hts wd_ml_RL_53 wd_im_yX4_count wd_sel_yX4_count wd_ini_RX4 wd_code_yX4_count rfl rfl rfl hd_X4_count ⟨Nat.le_of_ble_eq_true rfl, Nat.le_of_ble_eq_true rfl⟩) ⟨in_blind, va_recv hK (pa_l (pa_r hPs)) (ci := 4) (q0 := 0) rfl rfl, k_pre hK (pa_l (pa_r hPs)) (da_l (da_r hDs)) hN⟩ rfl rfl hl.1 rfl (lv_room (Nat.le_of_ble_eq_true rfl)) dL_hangs_1022 ⟨Nat.le_of_ble_eq_true rfl, Nat.le_of_ble_eq_true rfl⟩) hPs hDs hS hA (fun r170 u171 H locs hw172 hP hD hS => ?_)
                                have hP := k_unP hP
                                have hD := k_unD hD
                                have hP : va_P D vwCl (DW cI cC cQ d0 n0 na s0 sa h1 h2 mm ma t0 p0 pa tk N S oo zz M0 M1 M2 M3 rs de pc pg sg ln po dd lt pl f1s s2s tms) H := hP
                                have hD : va_D A (DW cI cC cQ d0 n0 na s0 sa h1 h2 mm ma t0 p0 pa tk N S oo zz M0 M1 M2 M3 rs de pc pg sg ln po dd lt pl f1s s2s tms) := hD
                                have hw172 : r170 = (sh_X4_count N zz ln 13) := hw172
                                subst hw172
                                refine lv_if_lt (tgt := 1042) hx hb dL_hangs_1025 (by decide) (fun c9 => absurd c9 (hg_1025 hzz)) (fun _ => ?_)
                                refine lv_aload_n hx hb dL_hangs_1028 rfl (lv_at hl 2 rfl) ?_
                                refine lv_bipush (v := 13) hx hb dL_hangs_1029 (by decide) ?_
                                have hPs := k_self hP
                                have hDs := k_selfD hD
                                refine k_behi (X := []) (Y := []) (va_runV (As := [.int 13]) (rest := []) ⟨hx, hb, hml, hown, hts⟩ (c_X4_count l D cI cC cQ H.size d0 n0 na s0 sa h1 h2 mm ma t0 p0 pa tk N S oo zz M0 M1 M2 M3 rs de pc pg sg ln po dd lt pl f1s s2s tms 13) (kcwV hts wd_ml_RL_53 wd_im_yX4_count wd_sel_yX4_count wd_ini_RX4 wd_code_yX4_count rfl rfl rfl hd_X4_count ⟨Nat.le_of_ble_eq_true rfl, Nat.le_of_ble_eq_true rfl⟩) ⟨in_blind, va_recv hK (pa_l (pa_r hPs)) (ci := 4) (q0 := 0) rfl rfl, k_pre hK (pa_l (pa_r hPs)) (da_l (da_r hDs)) hN⟩ rfl rfl hl.1 rfl (lv_room (Nat.le_of_ble_eq_true rfl)) dL_hangs_1031 ⟨Nat.le_of_ble_eq_true rfl, Nat.le_of_ble_eq_true rfl⟩) hPs hDs hS hA (fun r173 u174 H locs hw175 hP hD hS => ?_)
                                have hP := k_unP hP
                                have hD := k_unD hD
                                have hP : va_P D vwCl (DW cI cC cQ d0 n0 na s0 sa h1 h2 mm ma t0 p0 pa tk N S oo zz M0 M1 M2 M3 rs de pc pg sg ln po dd lt pl f1s s2s tms) H := hP
                                have hD : va_D A (DW cI cC cQ d0 n0 na s0 sa h1 h2 mm ma t0 p0 pa tk N S oo zz M0 M1 M2 M3 rs de pc pg sg ln po dd lt pl f1s s2s tms) := hD
                                have hw175 : r173 = (sh_X4_count N zz ln 13) := hw175
                                subst hw175
                                refine lv_iconst (v := 5) hx hb dL_hangs_1034 (by decide) ?_
                                refine lv_icmp_ge (tgt := 1042) hx hb dL_hangs_1035 (by decide) (fun c9 => absurd c9 (hg_1035 hzz)) (fun _ => ?_)
                                refine lv_iconst (v := 1) hx hb dL_hangs_1038 (by decide) ?_
                                refine lv_goto (tgt := 1043) hx hb dL_hangs_1039 (by decide) ?_
                                exact hret _ _ _ _ (1) () dL_hangs_1043 rfl rfl hP hD hS
                              · skip
                                refine lv_dconst1 hx hb dL_hangs_1004 ?_
                                refine lv_goto (tgt := 1015) hx hb dL_hangs_1005 (by decide) ?_
                                refine lv_dcmp hx hb dL_hangs_1015 ?_
                                refine lv_if_ne (tgt := 1042) hx hb dL_hangs_1016 (by decide) (fun c9 => absurd (hg_1016a c169) c9) (fun _ => ?_)
                                refine lv_aload_n hx hb dL_hangs_1019 rfl (lv_at hl 2 rfl) ?_
                                refine lv_bipush (v := 13) hx hb dL_hangs_1020 (by decide) ?_
                                have hPs := k_self hP
                                have hDs := k_selfD hD
                                refine k_behi (X := []) (Y := []) (va_runV (As := [.int 13]) (rest := []) ⟨hx, hb, hml, hown, hts⟩ (c_X4_count l D cI cC cQ H.size d0 n0 na s0 sa h1 h2 mm ma t0 p0 pa tk N S oo zz M0 M1 M2 M3 rs de pc pg sg ln po dd lt pl f1s s2s tms 13) (kcwV hts wd_ml_RL_53 wd_im_yX4_count wd_sel_yX4_count wd_ini_RX4 wd_code_yX4_count rfl rfl rfl hd_X4_count ⟨Nat.le_of_ble_eq_true rfl, Nat.le_of_ble_eq_true rfl⟩) ⟨in_blind, va_recv hK (pa_l (pa_r hPs)) (ci := 4) (q0 := 0) rfl rfl, k_pre hK (pa_l (pa_r hPs)) (da_l (da_r hDs)) hN⟩ rfl rfl hl.1 rfl (lv_room (Nat.le_of_ble_eq_true rfl)) dL_hangs_1022 ⟨Nat.le_of_ble_eq_true rfl, Nat.le_of_ble_eq_true rfl⟩) hPs hDs hS hA (fun r176 u177 H locs hw178 hP hD hS => ?_)
                                have hP := k_unP hP
                                have hD := k_unD hD
                                have hP : va_P D vwCl (DW cI cC cQ d0 n0 na s0 sa h1 h2 mm ma t0 p0 pa tk N S oo zz M0 M1 M2 M3 rs de pc pg sg ln po dd lt pl f1s s2s tms) H := hP
                                have hD : va_D A (DW cI cC cQ d0 n0 na s0 sa h1 h2 mm ma t0 p0 pa tk N S oo zz M0 M1 M2 M3 rs de pc pg sg ln po dd lt pl f1s s2s tms) := hD
                                have hw178 : r176 = (sh_X4_count N zz ln 13) := hw178
                                subst hw178
                                refine lv_if_lt (tgt := 1042) hx hb dL_hangs_1025 (by decide) (fun c9 => absurd c9 (hg_1025 hzz)) (fun _ => ?_)
                                refine lv_aload_n hx hb dL_hangs_1028 rfl (lv_at hl 2 rfl) ?_
                                refine lv_bipush (v := 13) hx hb dL_hangs_1029 (by decide) ?_
                                have hPs := k_self hP
                                have hDs := k_selfD hD
                                refine k_behi (X := []) (Y := []) (va_runV (As := [.int 13]) (rest := []) ⟨hx, hb, hml, hown, hts⟩ (c_X4_count l D cI cC cQ H.size d0 n0 na s0 sa h1 h2 mm ma t0 p0 pa tk N S oo zz M0 M1 M2 M3 rs de pc pg sg ln po dd lt pl f1s s2s tms 13) (kcwV hts wd_ml_RL_53 wd_im_yX4_count wd_sel_yX4_count wd_ini_RX4 wd_code_yX4_count rfl rfl rfl hd_X4_count ⟨Nat.le_of_ble_eq_true rfl, Nat.le_of_ble_eq_true rfl⟩) ⟨in_blind, va_recv hK (pa_l (pa_r hPs)) (ci := 4) (q0 := 0) rfl rfl, k_pre hK (pa_l (pa_r hPs)) (da_l (da_r hDs)) hN⟩ rfl rfl hl.1 rfl (lv_room (Nat.le_of_ble_eq_true rfl)) dL_hangs_1031 ⟨Nat.le_of_ble_eq_true rfl, Nat.le_of_ble_eq_true rfl⟩) hPs hDs hS hA (fun r179 u180 H locs hw181 hP hD hS => ?_)
                                have hP := k_unP hP
                                have hD := k_unD hD
                                have hP : va_P D vwCl (DW cI cC cQ d0 n0 na s0 sa h1 h2 mm ma t0 p0 pa tk N S oo zz M0 M1 M2 M3 rs de pc pg sg ln po dd lt pl f1s s2s tms) H := hP
                                have hD : va_D A (DW cI cC cQ d0 n0 na s0 sa h1 h2 mm ma t0 p0 pa tk N S oo zz M0 M1 M2 M3 rs de pc pg sg ln po dd lt pl f1s s2s tms) := hD
                                have hw181 : r179 = (sh_X4_count N zz ln 13) := hw181
                                subst hw181
                                refine lv_iconst (v := 5) hx hb dL_hangs_1034 (by decide) ?_
                                refine lv_icmp_ge (tgt := 1042) hx hb dL_hangs_1035 (by decide) (fun c9 => absurd c9 (hg_1035 hzz)) (fun _ => ?_)
                                refine lv_iconst (v := 1) hx hb dL_hangs_1038 (by decide) ?_
                                refine lv_goto (tgt := 1043) hx hb dL_hangs_1039 (by decide) ?_
                                exact hret _ _ _ _ (1) () dL_hangs_1043 rfl rfl hP hD hS
                            · skip
                              refine lv_aload_n hx hb dL_hangs_896 rfl (lv_at hl 2 rfl) ?_
                              refine lv_iload hx hb dL_hangs_897 (lv_at hl 0 rfl) ?_
                              refine lv_bipush (v := 100) hx hb dL_hangs_899 (by decide) ?_
                              refine lv_iconst (v := 1) hx hb dL_hangs_901 (by decide) ?_
                              have hPs := k_self hP
                              have hDs := k_selfD hD
                              refine k_behi (X := []) (Y := []) (va_runV (As := [.int (sh_X4_bestFor N 100 5), .int 100, .int 1]) (rest := []) ⟨hx, hb, hml, hown, hts⟩ (c_X4_lasts l D cI cC cQ H.size d0 n0 na s0 sa h1 h2 mm ma t0 p0 pa tk N S oo zz M0 M1 M2 M3 rs de pc pg sg ln po dd lt pl f1s s2s tms (sh_X4_bestFor N 100 5) 100 1) (kcwV hts wd_ml_RL_63 wd_im_yX4_lasts wd_sel_yX4_lasts wd_ini_RX4 wd_code_yX4_lasts rfl rfl rfl hd_X4_lasts ⟨Nat.le_of_ble_eq_true rfl, Nat.le_of_ble_eq_true rfl⟩) ⟨in_blind, va_recv hK (pa_l (pa_r hPs)) (ci := 4) (q0 := 0) rfl rfl, k_pre hK (pa_l (pa_r hPs)) (da_l (da_r hDs)) hN⟩ rfl rfl hl.1 rfl (lv_room (Nat.le_of_ble_eq_true rfl)) dL_hangs_902 ⟨Nat.le_of_ble_eq_true rfl, Nat.le_of_ble_eq_true rfl⟩) hPs hDs hS hA (fun r182 u183 H locs hw184 hP hD hS => ?_)
                              have hP := k_unP hP
                              have hD := k_unD hD
                              have hP : va_P D vwCl (DW cI cC cQ d0 n0 na s0 sa h1 h2 mm ma t0 p0 pa tk N S oo zz M0 M1 M2 M3 rs de pc pg sg ln po dd lt pl f1s s2s tms) H := hP
                              have hD : va_D A (DW cI cC cQ d0 n0 na s0 sa h1 h2 mm ma t0 p0 pa tk N S oo zz M0 M1 M2 M3 rs de pc pg sg ln po dd lt pl f1s s2s tms) := hD
                              have hw184 : r182 = (sh_X4_lasts N (sh_X4_bestFor N 100 5) 100 1) := hw184
                              subst hw184
                              refine lv_iconst (v := 5) hx hb dL_hangs_905 (by decide) ?_
                              refine lv_icmp_lt (tgt := 913) hx hb dL_hangs_906 (by decide) (fun c9 => absurd c9 (hg_906 c141)) (fun _ => ?_)
                              refine lv_iconst (v := 1) hx hb dL_hangs_909 (by decide) ?_
                              refine lv_goto (tgt := 914) hx hb dL_hangs_910 (by decide) ?_
                              refine lv_istore (lv' := [(5, .int 1), (8, .int (sh_X4_bestFor N 100 5)), (0, .ref d0), (1, .int al), (2, .int le), (3, .int bo), (4, .int nn), (6, .int ((0 + ((sh_X4_printer N 0 1) + (sh_X4_printer N 0 2))) + ((sh_X4_printer N 1 1) + (sh_X4_printer N 1 2)))), (7, .int ((0 + (sh_X4_printer N 0 1)) + (sh_X4_printer N 1 1))), (9, .int (sh_X4_printer N 1 0))]) hx hb dL_hangs_914 hl (by decide) rfl (fun ls hl => ?_)
                              refine lv_iload hx hb dL_hangs_916 (lv_at hl 0 rfl) ?_
                              refine lv_if_eq (tgt := 1042) hx hb dL_hangs_918 (by decide) (fun c9 => absurd c9 (by decide)) (fun _ => ?_)
                              refine lv_iload_n hx hb dL_hangs_921 rfl (lv_at hl 3 rfl) ?_
                              refine lv_aload_n hx hb dL_hangs_922 rfl (lv_at hl 2 rfl) ?_
                              refine lv_iconst (v := 0) hx hb dL_hangs_923 (by decide) ?_
                              have hPs := k_self hP
                              have hDs := k_selfD hD
                              refine k_behi (X := []) (Y := []) (va_runV (As := [.int 0]) (rest := [.int al]) ⟨hx, hb, hml, hown, hts⟩ (c_X4_count l D cI cC cQ H.size d0 n0 na s0 sa h1 h2 mm ma t0 p0 pa tk N S oo zz M0 M1 M2 M3 rs de pc pg sg ln po dd lt pl f1s s2s tms 0) (kcwV hts wd_ml_RL_53 wd_im_yX4_count wd_sel_yX4_count wd_ini_RX4 wd_code_yX4_count rfl rfl rfl hd_X4_count ⟨Nat.le_of_ble_eq_true rfl, Nat.le_of_ble_eq_true rfl⟩) ⟨in_blind, va_recv hK (pa_l (pa_r hPs)) (ci := 4) (q0 := 0) rfl rfl, k_pre hK (pa_l (pa_r hPs)) (da_l (da_r hDs)) hN⟩ rfl rfl hl.1 rfl (lv_room (Nat.le_of_ble_eq_true rfl)) dL_hangs_924 ⟨Nat.le_of_ble_eq_true rfl, Nat.le_of_ble_eq_true rfl⟩) hPs hDs hS hA (fun r185 u186 H locs hw187 hP hD hS => ?_)
                              have hP := k_unP hP
                              have hD := k_unD hD
                              have hP : va_P D vwCl (DW cI cC cQ d0 n0 na s0 sa h1 h2 mm ma t0 p0 pa tk N S oo zz M0 M1 M2 M3 rs de pc pg sg ln po dd lt pl f1s s2s tms) H := hP
                              have hD : va_D A (DW cI cC cQ d0 n0 na s0 sa h1 h2 mm ma t0 p0 pa tk N S oo zz M0 M1 M2 M3 rs de pc pg sg ln po dd lt pl f1s s2s tms) := hD
                              have hw187 : r185 = (sh_X4_count N zz ln 0) := hw187
                              subst hw187
                              refine lv_icmp_ne (tgt := 1042) hx hb dL_hangs_927 (by decide) (fun c9 => absurd (hg_927 hI c25) c9) (fun _ => ?_)
                              refine lv_iload_n hx hb dL_hangs_930 rfl (lv_at hl 3 rfl) ?_
                              refine lv_aload_n hx hb dL_hangs_931 rfl (lv_at hl 2 rfl) ?_
                              refine lv_iconst (v := 1) hx hb dL_hangs_932 (by decide) ?_
                              have hPs := k_self hP
                              have hDs := k_selfD hD
                              refine k_behi (X := []) (Y := []) (va_runV (As := [.int 1]) (rest := [.int al]) ⟨hx, hb, hml, hown, hts⟩ (c_X4_count l D cI cC cQ H.size d0 n0 na s0 sa h1 h2 mm ma t0 p0 pa tk N S oo zz M0 M1 M2 M3 rs de pc pg sg ln po dd lt pl f1s s2s tms 1) (kcwV hts wd_ml_RL_53 wd_im_yX4_count wd_sel_yX4_count wd_ini_RX4 wd_code_yX4_count rfl rfl rfl hd_X4_count ⟨Nat.le_of_ble_eq_true rfl, Nat.le_of_ble_eq_true rfl⟩) ⟨in_blind, va_recv hK (pa_l (pa_r hPs)) (ci := 4) (q0 := 0) rfl rfl, k_pre hK (pa_l (pa_r hPs)) (da_l (da_r hDs)) hN⟩ rfl rfl hl.1 rfl (lv_room (Nat.le_of_ble_eq_true rfl)) dL_hangs_933 ⟨Nat.le_of_ble_eq_true rfl, Nat.le_of_ble_eq_true rfl⟩) hPs hDs hS hA (fun r188 u189 H locs hw190 hP hD hS => ?_)
                              have hP := k_unP hP
                              have hD := k_unD hD
                              have hP : va_P D vwCl (DW cI cC cQ d0 n0 na s0 sa h1 h2 mm ma t0 p0 pa tk N S oo zz M0 M1 M2 M3 rs de pc pg sg ln po dd lt pl f1s s2s tms) H := hP
                              have hD : va_D A (DW cI cC cQ d0 n0 na s0 sa h1 h2 mm ma t0 p0 pa tk N S oo zz M0 M1 M2 M3 rs de pc pg sg ln po dd lt pl f1s s2s tms) := hD
                              have hw190 : r188 = (sh_X4_count N zz ln 1) := hw190
                              subst hw190
                              refine lv_iadd hx hb dL_hangs_936 ?_
                              refine lv_aload_n hx hb dL_hangs_937 rfl (lv_at hl 2 rfl) ?_
                              refine lv_iconst (v := 2) hx hb dL_hangs_938 (by decide) ?_
                              have hPs := k_self hP
                              have hDs := k_selfD hD
                              refine k_behi (X := []) (Y := []) (va_runV (As := [.int 2]) (rest := [.int (al + (sh_X4_count N zz ln 1))]) ⟨hx, hb, hml, hown, hts⟩ (c_X4_count l D cI cC cQ H.size d0 n0 na s0 sa h1 h2 mm ma t0 p0 pa tk N S oo zz M0 M1 M2 M3 rs de pc pg sg ln po dd lt pl f1s s2s tms 2) (kcwV hts wd_ml_RL_53 wd_im_yX4_count wd_sel_yX4_count wd_ini_RX4 wd_code_yX4_count rfl rfl rfl hd_X4_count ⟨Nat.le_of_ble_eq_true rfl, Nat.le_of_ble_eq_true rfl⟩) ⟨in_blind, va_recv hK (pa_l (pa_r hPs)) (ci := 4) (q0 := 0) rfl rfl, k_pre hK (pa_l (pa_r hPs)) (da_l (da_r hDs)) hN⟩ rfl rfl hl.1 rfl (lv_room (Nat.le_of_ble_eq_true rfl)) dL_hangs_939 ⟨Nat.le_of_ble_eq_true rfl, Nat.le_of_ble_eq_true rfl⟩) hPs hDs hS hA (fun r191 u192 H locs hw193 hP hD hS => ?_)
                              have hP := k_unP hP
                              have hD := k_unD hD
                              have hP : va_P D vwCl (DW cI cC cQ d0 n0 na s0 sa h1 h2 mm ma t0 p0 pa tk N S oo zz M0 M1 M2 M3 rs de pc pg sg ln po dd lt pl f1s s2s tms) H := hP
                              have hD : va_D A (DW cI cC cQ d0 n0 na s0 sa h1 h2 mm ma t0 p0 pa tk N S oo zz M0 M1 M2 M3 rs de pc pg sg ln po dd lt pl f1s s2s tms) := hD
                              have hw193 : r191 = (sh_X4_count N zz ln 2) := hw193
                              subst hw193
                              refine lv_iadd hx hb dL_hangs_942 ?_
                              refine lv_sipush (v := 16000) hx hb dL_hangs_943 (by decide) ?_
                              refine lv_aload_n hx hb dL_hangs_946 rfl (lv_at hl 2 rfl) ?_
                              refine lv_iconst (v := 3) hx hb dL_hangs_947 (by decide) ?_
                              have hPs := k_self hP
                              have hDs := k_selfD hD
                              refine k_behi (X := []) (Y := []) (va_runV (As := [.int 3]) (rest := [.int 16000, .int ((al + (sh_X4_count N zz ln 1)) + (sh_X4_count N zz ln 2))]) ⟨hx, hb, hml, hown, hts⟩ (c_X4_count l D cI cC cQ H.size d0 n0 na s0 sa h1 h2 mm ma t0 p0 pa tk N S oo zz M0 M1 M2 M3 rs de pc pg sg ln po dd lt pl f1s s2s tms 3) (kcwV hts wd_ml_RL_53 wd_im_yX4_count wd_sel_yX4_count wd_ini_RX4 wd_code_yX4_count rfl rfl rfl hd_X4_count ⟨Nat.le_of_ble_eq_true rfl, Nat.le_of_ble_eq_true rfl⟩) ⟨in_blind, va_recv hK (pa_l (pa_r hPs)) (ci := 4) (q0 := 0) rfl rfl, k_pre hK (pa_l (pa_r hPs)) (da_l (da_r hDs)) hN⟩ rfl rfl hl.1 rfl (lv_room (Nat.le_of_ble_eq_true rfl)) dL_hangs_948 ⟨Nat.le_of_ble_eq_true rfl, Nat.le_of_ble_eq_true rfl⟩) hPs hDs hS hA (fun r194 u195 H locs hw196 hP hD hS => ?_)
                              have hP := k_unP hP
                              have hD := k_unD hD
                              have hP : va_P D vwCl (DW cI cC cQ d0 n0 na s0 sa h1 h2 mm ma t0 p0 pa tk N S oo zz M0 M1 M2 M3 rs de pc pg sg ln po dd lt pl f1s s2s tms) H := hP
                              have hD : va_D A (DW cI cC cQ d0 n0 na s0 sa h1 h2 mm ma t0 p0 pa tk N S oo zz M0 M1 M2 M3 rs de pc pg sg ln po dd lt pl f1s s2s tms) := hD
                              have hw196 : r194 = (sh_X4_count N zz ln 3) := hw196
                              subst hw196
                              refine lv_iadd hx hb dL_hangs_951 ?_
                              refine lv_icmp_ne (tgt := 1042) hx hb dL_hangs_952 (by decide) (fun c9 => absurd (hg_952 g hI c25) c9) (fun _ => ?_)
                              refine lv_iload_n hx hb dL_hangs_955 rfl (lv_at hl 4 rfl) ?_
                              refine lv_aload_n hx hb dL_hangs_956 rfl (lv_at hl 2 rfl) ?_
                              refine lv_bipush (v := 6) hx hb dL_hangs_957 (by decide) ?_
                              have hPs := k_self hP
                              have hDs := k_selfD hD
                              refine k_behi (X := []) (Y := []) (va_runV (As := [.int 6]) (rest := [.int le]) ⟨hx, hb, hml, hown, hts⟩ (c_X4_count l D cI cC cQ H.size d0 n0 na s0 sa h1 h2 mm ma t0 p0 pa tk N S oo zz M0 M1 M2 M3 rs de pc pg sg ln po dd lt pl f1s s2s tms 6) (kcwV hts wd_ml_RL_53 wd_im_yX4_count wd_sel_yX4_count wd_ini_RX4 wd_code_yX4_count rfl rfl rfl hd_X4_count ⟨Nat.le_of_ble_eq_true rfl, Nat.le_of_ble_eq_true rfl⟩) ⟨in_blind, va_recv hK (pa_l (pa_r hPs)) (ci := 4) (q0 := 0) rfl rfl, k_pre hK (pa_l (pa_r hPs)) (da_l (da_r hDs)) hN⟩ rfl rfl hl.1 rfl (lv_room (Nat.le_of_ble_eq_true rfl)) dL_hangs_959 ⟨Nat.le_of_ble_eq_true rfl, Nat.le_of_ble_eq_true rfl⟩) hPs hDs hS hA (fun r197 u198 H locs hw199 hP hD hS => ?_)
                              have hP := k_unP hP
                              have hD := k_unD hD
                              have hP : va_P D vwCl (DW cI cC cQ d0 n0 na s0 sa h1 h2 mm ma t0 p0 pa tk N S oo zz M0 M1 M2 M3 rs de pc pg sg ln po dd lt pl f1s s2s tms) H := hP
                              have hD : va_D A (DW cI cC cQ d0 n0 na s0 sa h1 h2 mm ma t0 p0 pa tk N S oo zz M0 M1 M2 M3 rs de pc pg sg ln po dd lt pl f1s s2s tms) := hD
                              have hw199 : r197 = (sh_X4_count N zz ln 6) := hw199
                              subst hw199
                              refine lv_icmp_ne (tgt := 1042) hx hb dL_hangs_962 (by decide) (fun c9 => absurd (hg_962 hI c25) c9) (fun _ => ?_)
                              refine lv_iload_n hx hb dL_hangs_965 rfl (lv_at hl 5 rfl) ?_
                              refine lv_aload_n hx hb dL_hangs_966 rfl (lv_at hl 2 rfl) ?_
                              refine lv_bipush (v := 7) hx hb dL_hangs_967 (by decide) ?_
                              have hPs := k_self hP
                              have hDs := k_selfD hD
                              refine k_behi (X := []) (Y := []) (va_runV (As := [.int 7]) (rest := [.int bo]) ⟨hx, hb, hml, hown, hts⟩ (c_X4_count l D cI cC cQ H.size d0 n0 na s0 sa h1 h2 mm ma t0 p0 pa tk N S oo zz M0 M1 M2 M3 rs de pc pg sg ln po dd lt pl f1s s2s tms 7) (kcwV hts wd_ml_RL_53 wd_im_yX4_count wd_sel_yX4_count wd_ini_RX4 wd_code_yX4_count rfl rfl rfl hd_X4_count ⟨Nat.le_of_ble_eq_true rfl, Nat.le_of_ble_eq_true rfl⟩) ⟨in_blind, va_recv hK (pa_l (pa_r hPs)) (ci := 4) (q0 := 0) rfl rfl, k_pre hK (pa_l (pa_r hPs)) (da_l (da_r hDs)) hN⟩ rfl rfl hl.1 rfl (lv_room (Nat.le_of_ble_eq_true rfl)) dL_hangs_969 ⟨Nat.le_of_ble_eq_true rfl, Nat.le_of_ble_eq_true rfl⟩) hPs hDs hS hA (fun r200 u201 H locs hw202 hP hD hS => ?_)
                              have hP := k_unP hP
                              have hD := k_unD hD
                              have hP : va_P D vwCl (DW cI cC cQ d0 n0 na s0 sa h1 h2 mm ma t0 p0 pa tk N S oo zz M0 M1 M2 M3 rs de pc pg sg ln po dd lt pl f1s s2s tms) H := hP
                              have hD : va_D A (DW cI cC cQ d0 n0 na s0 sa h1 h2 mm ma t0 p0 pa tk N S oo zz M0 M1 M2 M3 rs de pc pg sg ln po dd lt pl f1s s2s tms) := hD
                              have hw202 : r200 = (sh_X4_count N zz ln 7) := hw202
                              subst hw202
                              refine lv_icmp_ne (tgt := 1042) hx hb dL_hangs_972 (by decide) (fun c9 => absurd (hg_972 g hI c25) c9) (fun _ => ?_)
                              refine lv_iload hx hb dL_hangs_975 (lv_at hl 6 rfl) ?_
                              refine lv_aload_n hx hb dL_hangs_977 rfl (lv_at hl 2 rfl) ?_
                              refine lv_iconst (v := 5) hx hb dL_hangs_978 (by decide) ?_
                              have hPs := k_self hP
                              have hDs := k_selfD hD
                              refine k_behi (X := []) (Y := []) (va_runV (As := [.int 5]) (rest := [.int nn]) ⟨hx, hb, hml, hown, hts⟩ (c_X4_count l D cI cC cQ H.size d0 n0 na s0 sa h1 h2 mm ma t0 p0 pa tk N S oo zz M0 M1 M2 M3 rs de pc pg sg ln po dd lt pl f1s s2s tms 5) (kcwV hts wd_ml_RL_53 wd_im_yX4_count wd_sel_yX4_count wd_ini_RX4 wd_code_yX4_count rfl rfl rfl hd_X4_count ⟨Nat.le_of_ble_eq_true rfl, Nat.le_of_ble_eq_true rfl⟩) ⟨in_blind, va_recv hK (pa_l (pa_r hPs)) (ci := 4) (q0 := 0) rfl rfl, k_pre hK (pa_l (pa_r hPs)) (da_l (da_r hDs)) hN⟩ rfl rfl hl.1 rfl (lv_room (Nat.le_of_ble_eq_true rfl)) dL_hangs_979 ⟨Nat.le_of_ble_eq_true rfl, Nat.le_of_ble_eq_true rfl⟩) hPs hDs hS hA (fun r203 u204 H locs hw205 hP hD hS => ?_)
                              have hP := k_unP hP
                              have hD := k_unD hD
                              have hP : va_P D vwCl (DW cI cC cQ d0 n0 na s0 sa h1 h2 mm ma t0 p0 pa tk N S oo zz M0 M1 M2 M3 rs de pc pg sg ln po dd lt pl f1s s2s tms) H := hP
                              have hD : va_D A (DW cI cC cQ d0 n0 na s0 sa h1 h2 mm ma t0 p0 pa tk N S oo zz M0 M1 M2 M3 rs de pc pg sg ln po dd lt pl f1s s2s tms) := hD
                              have hw205 : r203 = (sh_X4_count N zz ln 5) := hw205
                              subst hw205
                              refine lv_icmp_ne (tgt := 1042) hx hb dL_hangs_982 (by decide) (fun c9 => absurd (hg_982 g hI c25) c9) (fun _ => ?_)
                              refine lv_iload hx hb dL_hangs_985 (lv_at hl 7 rfl) ?_
                              refine lv_aload_n hx hb dL_hangs_987 rfl (lv_at hl 2 rfl) ?_
                              refine lv_iconst (v := 4) hx hb dL_hangs_988 (by decide) ?_
                              have hPs := k_self hP
                              have hDs := k_selfD hD
                              refine k_behi (X := []) (Y := []) (va_runV (As := [.int 4]) (rest := [.int ((0 + ((sh_X4_printer N 0 1) + (sh_X4_printer N 0 2))) + ((sh_X4_printer N 1 1) + (sh_X4_printer N 1 2)))]) ⟨hx, hb, hml, hown, hts⟩ (c_X4_count l D cI cC cQ H.size d0 n0 na s0 sa h1 h2 mm ma t0 p0 pa tk N S oo zz M0 M1 M2 M3 rs de pc pg sg ln po dd lt pl f1s s2s tms 4) (kcwV hts wd_ml_RL_53 wd_im_yX4_count wd_sel_yX4_count wd_ini_RX4 wd_code_yX4_count rfl rfl rfl hd_X4_count ⟨Nat.le_of_ble_eq_true rfl, Nat.le_of_ble_eq_true rfl⟩) ⟨in_blind, va_recv hK (pa_l (pa_r hPs)) (ci := 4) (q0 := 0) rfl rfl, k_pre hK (pa_l (pa_r hPs)) (da_l (da_r hDs)) hN⟩ rfl rfl hl.1 rfl (lv_room (Nat.le_of_ble_eq_true rfl)) dL_hangs_989 ⟨Nat.le_of_ble_eq_true rfl, Nat.le_of_ble_eq_true rfl⟩) hPs hDs hS hA (fun r206 u207 H locs hw208 hP hD hS => ?_)
                              have hP := k_unP hP
                              have hD := k_unD hD
                              have hP : va_P D vwCl (DW cI cC cQ d0 n0 na s0 sa h1 h2 mm ma t0 p0 pa tk N S oo zz M0 M1 M2 M3 rs de pc pg sg ln po dd lt pl f1s s2s tms) H := hP
                              have hD : va_D A (DW cI cC cQ d0 n0 na s0 sa h1 h2 mm ma t0 p0 pa tk N S oo zz M0 M1 M2 M3 rs de pc pg sg ln po dd lt pl f1s s2s tms) := hD
                              have hw208 : r206 = (sh_X4_count N zz ln 4) := hw208
                              subst hw208
                              refine lv_icmp_ne (tgt := 1042) hx hb dL_hangs_992 (by decide) (fun c9 => absurd (hg_992) c9) (fun _ => ?_)
                              refine lv_aload_n hx hb dL_hangs_995 rfl (lv_at hl 2 rfl) ?_
                              have hPs := k_self hP
                              have hDs := k_selfD hD
                              refine k_behd (X := []) (Y := []) (va_runV (As := []) (rest := []) ⟨hx, hb, hml, hown, hts⟩ (c_X4_darkness l D cI cC cQ H.size d0 n0 na s0 sa h1 h2 mm ma t0 p0 pa tk N S oo zz M0 M1 M2 M3 rs de pc pg sg ln po dd lt pl f1s s2s tms ) (kcwV hts wd_ml_RL_84 wd_im_yX4_darkness wd_sel_yX4_darkness wd_ini_RX4 wd_code_yX4_darkness rfl rfl rfl hd_X4_darkness ⟨Nat.le_of_ble_eq_true rfl, Nat.le_of_ble_eq_true rfl⟩) ⟨in_blind, va_recv hK (pa_l (pa_r hPs)) (ci := 4) (q0 := 0) rfl rfl, k_pre hK (pa_l (pa_r hPs)) (da_l (da_r hDs)) hN⟩ rfl rfl hl.1 rfl (lv_room (Nat.le_of_ble_eq_true rfl)) dL_hangs_996 ⟨Nat.le_of_ble_eq_true rfl, Nat.le_of_ble_eq_true rfl⟩) hPs hDs hS hA (fun r209 u210 H locs hw211 hP hD hS => ?_)
                              have hP := k_unP hP
                              have hD := k_unD hD
                              have hP : va_P D vwCl (DW cI cC cQ d0 n0 na s0 sa h1 h2 mm ma t0 p0 pa tk N S oo zz M0 M1 M2 M3 rs de pc pg sg ln po dd lt pl f1s s2s tms) H := hP
                              have hD : va_D A (DW cI cC cQ d0 n0 na s0 sa h1 h2 mm ma t0 p0 pa tk N S oo zz M0 M1 M2 M3 rs de pc pg sg ln po dd lt pl f1s s2s tms) := hD
                              have hw211 : r209 = (sh_X4_darkness N) := hw211
                              subst hw211
                              refine lv_iload hx hb dL_hangs_999 (lv_at hl 7 rfl) ?_
                              refine lv_if_ne (tgt := 1008) hx hb dL_hangs_1001 (by decide) (fun c212 => ?_) (fun c212 => ?_)
                              · skip
                                refine lv_iload hx hb dL_hangs_1008 (lv_at hl 8 rfl) ?_
                                refine lv_i2d hx hb dL_hangs_1010 ?_
                                refine lv_iload hx hb dL_hangs_1011 (lv_at hl 7 rfl) ?_
                                refine lv_i2d hx hb dL_hangs_1013 ?_
                                refine lv_ddiv hx hb dL_hangs_1014 (div_num c212) ?_
                                refine lv_dcmp hx hb dL_hangs_1015 ?_
                                refine lv_if_ne (tgt := 1042) hx hb dL_hangs_1016 (by decide) (fun c9 => absurd (hg_1016b g c212) c9) (fun _ => ?_)
                                refine lv_aload_n hx hb dL_hangs_1019 rfl (lv_at hl 2 rfl) ?_
                                refine lv_bipush (v := 13) hx hb dL_hangs_1020 (by decide) ?_
                                have hPs := k_self hP
                                have hDs := k_selfD hD
                                refine k_behi (X := []) (Y := []) (va_runV (As := [.int 13]) (rest := []) ⟨hx, hb, hml, hown, hts⟩ (c_X4_count l D cI cC cQ H.size d0 n0 na s0 sa h1 h2 mm ma t0 p0 pa tk N S oo zz M0 M1 M2 M3 rs de pc pg sg ln po dd lt pl f1s s2s tms 13) (kcwV hts wd_ml_RL_53 wd_im_yX4_count wd_sel_yX4_count wd_ini_RX4 wd_code_yX4_count rfl rfl rfl hd_X4_count ⟨Nat.le_of_ble_eq_true rfl, Nat.le_of_ble_eq_true rfl⟩) ⟨in_blind, va_recv hK (pa_l (pa_r hPs)) (ci := 4) (q0 := 0) rfl rfl, k_pre hK (pa_l (pa_r hPs)) (da_l (da_r hDs)) hN⟩ rfl rfl hl.1 rfl (lv_room (Nat.le_of_ble_eq_true rfl)) dL_hangs_1022 ⟨Nat.le_of_ble_eq_true rfl, Nat.le_of_ble_eq_true rfl⟩) hPs hDs hS hA (fun r213 u214 H locs hw215 hP hD hS => ?_)
                                have hP := k_unP hP
                                have hD := k_unD hD
                                have hP : va_P D vwCl (DW cI cC cQ d0 n0 na s0 sa h1 h2 mm ma t0 p0 pa tk N S oo zz M0 M1 M2 M3 rs de pc pg sg ln po dd lt pl f1s s2s tms) H := hP
                                have hD : va_D A (DW cI cC cQ d0 n0 na s0 sa h1 h2 mm ma t0 p0 pa tk N S oo zz M0 M1 M2 M3 rs de pc pg sg ln po dd lt pl f1s s2s tms) := hD
                                have hw215 : r213 = (sh_X4_count N zz ln 13) := hw215
                                subst hw215
                                refine lv_if_lt (tgt := 1042) hx hb dL_hangs_1025 (by decide) (fun c9 => absurd c9 (hg_1025 hzz)) (fun _ => ?_)
                                refine lv_aload_n hx hb dL_hangs_1028 rfl (lv_at hl 2 rfl) ?_
                                refine lv_bipush (v := 13) hx hb dL_hangs_1029 (by decide) ?_
                                have hPs := k_self hP
                                have hDs := k_selfD hD
                                refine k_behi (X := []) (Y := []) (va_runV (As := [.int 13]) (rest := []) ⟨hx, hb, hml, hown, hts⟩ (c_X4_count l D cI cC cQ H.size d0 n0 na s0 sa h1 h2 mm ma t0 p0 pa tk N S oo zz M0 M1 M2 M3 rs de pc pg sg ln po dd lt pl f1s s2s tms 13) (kcwV hts wd_ml_RL_53 wd_im_yX4_count wd_sel_yX4_count wd_ini_RX4 wd_code_yX4_count rfl rfl rfl hd_X4_count ⟨Nat.le_of_ble_eq_true rfl, Nat.le_of_ble_eq_true rfl⟩) ⟨in_blind, va_recv hK (pa_l (pa_r hPs)) (ci := 4) (q0 := 0) rfl rfl, k_pre hK (pa_l (pa_r hPs)) (da_l (da_r hDs)) hN⟩ rfl rfl hl.1 rfl (lv_room (Nat.le_of_ble_eq_true rfl)) dL_hangs_1031 ⟨Nat.le_of_ble_eq_true rfl, Nat.le_of_ble_eq_true rfl⟩) hPs hDs hS hA (fun r216 u217 H locs hw218 hP hD hS => ?_)
                                have hP := k_unP hP
                                have hD := k_unD hD
                                have hP : va_P D vwCl (DW cI cC cQ d0 n0 na s0 sa h1 h2 mm ma t0 p0 pa tk N S oo zz M0 M1 M2 M3 rs de pc pg sg ln po dd lt pl f1s s2s tms) H := hP
                                have hD : va_D A (DW cI cC cQ d0 n0 na s0 sa h1 h2 mm ma t0 p0 pa tk N S oo zz M0 M1 M2 M3 rs de pc pg sg ln po dd lt pl f1s s2s tms) := hD
                                have hw218 : r216 = (sh_X4_count N zz ln 13) := hw218
                                subst hw218
                                refine lv_iconst (v := 5) hx hb dL_hangs_1034 (by decide) ?_
                                refine lv_icmp_ge (tgt := 1042) hx hb dL_hangs_1035 (by decide) (fun c9 => absurd c9 (hg_1035 hzz)) (fun _ => ?_)
                                refine lv_iconst (v := 1) hx hb dL_hangs_1038 (by decide) ?_
                                refine lv_goto (tgt := 1043) hx hb dL_hangs_1039 (by decide) ?_
                                exact hret _ _ _ _ (1) () dL_hangs_1043 rfl rfl hP hD hS
                              · skip
                                refine lv_dconst1 hx hb dL_hangs_1004 ?_
                                refine lv_goto (tgt := 1015) hx hb dL_hangs_1005 (by decide) ?_
                                refine lv_dcmp hx hb dL_hangs_1015 ?_
                                refine lv_if_ne (tgt := 1042) hx hb dL_hangs_1016 (by decide) (fun c9 => absurd (hg_1016a c212) c9) (fun _ => ?_)
                                refine lv_aload_n hx hb dL_hangs_1019 rfl (lv_at hl 2 rfl) ?_
                                refine lv_bipush (v := 13) hx hb dL_hangs_1020 (by decide) ?_
                                have hPs := k_self hP
                                have hDs := k_selfD hD
                                refine k_behi (X := []) (Y := []) (va_runV (As := [.int 13]) (rest := []) ⟨hx, hb, hml, hown, hts⟩ (c_X4_count l D cI cC cQ H.size d0 n0 na s0 sa h1 h2 mm ma t0 p0 pa tk N S oo zz M0 M1 M2 M3 rs de pc pg sg ln po dd lt pl f1s s2s tms 13) (kcwV hts wd_ml_RL_53 wd_im_yX4_count wd_sel_yX4_count wd_ini_RX4 wd_code_yX4_count rfl rfl rfl hd_X4_count ⟨Nat.le_of_ble_eq_true rfl, Nat.le_of_ble_eq_true rfl⟩) ⟨in_blind, va_recv hK (pa_l (pa_r hPs)) (ci := 4) (q0 := 0) rfl rfl, k_pre hK (pa_l (pa_r hPs)) (da_l (da_r hDs)) hN⟩ rfl rfl hl.1 rfl (lv_room (Nat.le_of_ble_eq_true rfl)) dL_hangs_1022 ⟨Nat.le_of_ble_eq_true rfl, Nat.le_of_ble_eq_true rfl⟩) hPs hDs hS hA (fun r219 u220 H locs hw221 hP hD hS => ?_)
                                have hP := k_unP hP
                                have hD := k_unD hD
                                have hP : va_P D vwCl (DW cI cC cQ d0 n0 na s0 sa h1 h2 mm ma t0 p0 pa tk N S oo zz M0 M1 M2 M3 rs de pc pg sg ln po dd lt pl f1s s2s tms) H := hP
                                have hD : va_D A (DW cI cC cQ d0 n0 na s0 sa h1 h2 mm ma t0 p0 pa tk N S oo zz M0 M1 M2 M3 rs de pc pg sg ln po dd lt pl f1s s2s tms) := hD
                                have hw221 : r219 = (sh_X4_count N zz ln 13) := hw221
                                subst hw221
                                refine lv_if_lt (tgt := 1042) hx hb dL_hangs_1025 (by decide) (fun c9 => absurd c9 (hg_1025 hzz)) (fun _ => ?_)
                                refine lv_aload_n hx hb dL_hangs_1028 rfl (lv_at hl 2 rfl) ?_
                                refine lv_bipush (v := 13) hx hb dL_hangs_1029 (by decide) ?_
                                have hPs := k_self hP
                                have hDs := k_selfD hD
                                refine k_behi (X := []) (Y := []) (va_runV (As := [.int 13]) (rest := []) ⟨hx, hb, hml, hown, hts⟩ (c_X4_count l D cI cC cQ H.size d0 n0 na s0 sa h1 h2 mm ma t0 p0 pa tk N S oo zz M0 M1 M2 M3 rs de pc pg sg ln po dd lt pl f1s s2s tms 13) (kcwV hts wd_ml_RL_53 wd_im_yX4_count wd_sel_yX4_count wd_ini_RX4 wd_code_yX4_count rfl rfl rfl hd_X4_count ⟨Nat.le_of_ble_eq_true rfl, Nat.le_of_ble_eq_true rfl⟩) ⟨in_blind, va_recv hK (pa_l (pa_r hPs)) (ci := 4) (q0 := 0) rfl rfl, k_pre hK (pa_l (pa_r hPs)) (da_l (da_r hDs)) hN⟩ rfl rfl hl.1 rfl (lv_room (Nat.le_of_ble_eq_true rfl)) dL_hangs_1031 ⟨Nat.le_of_ble_eq_true rfl, Nat.le_of_ble_eq_true rfl⟩) hPs hDs hS hA (fun r222 u223 H locs hw224 hP hD hS => ?_)
                                have hP := k_unP hP
                                have hD := k_unD hD
                                have hP : va_P D vwCl (DW cI cC cQ d0 n0 na s0 sa h1 h2 mm ma t0 p0 pa tk N S oo zz M0 M1 M2 M3 rs de pc pg sg ln po dd lt pl f1s s2s tms) H := hP
                                have hD : va_D A (DW cI cC cQ d0 n0 na s0 sa h1 h2 mm ma t0 p0 pa tk N S oo zz M0 M1 M2 M3 rs de pc pg sg ln po dd lt pl f1s s2s tms) := hD
                                have hw224 : r222 = (sh_X4_count N zz ln 13) := hw224
                                subst hw224
                                refine lv_iconst (v := 5) hx hb dL_hangs_1034 (by decide) ?_
                                refine lv_icmp_ge (tgt := 1042) hx hb dL_hangs_1035 (by decide) (fun c9 => absurd c9 (hg_1035 hzz)) (fun _ => ?_)
                                refine lv_iconst (v := 1) hx hb dL_hangs_1038 (by decide) ?_
                                refine lv_goto (tgt := 1043) hx hb dL_hangs_1039 (by decide) ?_
                                exact hret _ _ _ _ (1) () dL_hangs_1043 rfl rfl hP hD hS
                          refine lv_if_ne (tgt := 801) hx hb dL_hangs_794 (by decide) (fun c120 => ?_) (fun c120 => ?_)
                          · skip
                            refine lv_iconst (v := 0) hx hb dL_hangs_801 (by decide) ?_
                            exact K (0) _ _ _ (by rw [if_neg c120]) hP hD hS (lv_sub hl [0, 1, 2, 3, 4, 5, 6, 7, 8, 9] rfl)
                          · skip
                            refine lv_iconst (v := 1) hx hb dL_hangs_797 (by decide) ?_
                            refine lv_goto (tgt := 802) hx hb dL_hangs_798 (by decide) ?_
                            exact K (1) _ _ _ (by rw [if_pos c120]) hP hD hS (lv_sub hl [0, 1, 2, 3, 4, 5, 6, 7, 8, 9] rfl)
                        refine lv_icmp_ne (tgt := 778) hx hb dL_hangs_771 (by decide) (fun c111 => ?_) (fun c111 => ?_)
                        · skip
                          refine lv_iconst (v := 0) hx hb dL_hangs_778 (by decide) ?_
                          exact K (0) _ _ _ (by rw [if_neg c111]) hP hD hS (lv_sub hl [0, 1, 2, 3, 4, 5, 6, 7, 8, 9] rfl)
                        · skip
                          refine lv_iconst (v := 1) hx hb dL_hangs_774 (by decide) ?_
                          refine lv_goto (tgt := 779) hx hb dL_hangs_775 (by decide) ?_
                          exact K (1) _ _ _ (by rw [if_pos c111]) hP hD hS (lv_sub hl [0, 1, 2, 3, 4, 5, 6, 7, 8, 9] rfl)
                      refine lv_icmp_ne (tgt := 758) hx hb dL_hangs_751 (by decide) (fun c105 => ?_) (fun c105 => ?_)
                      · skip
                        refine lv_iconst (v := 0) hx hb dL_hangs_758 (by decide) ?_
                        exact K (0) _ _ _ (by rw [if_neg c105]) hP hD hS (lv_sub hl [0, 1, 2, 3, 4, 5, 6, 7, 8, 9] rfl)
                      · skip
                        refine lv_iconst (v := 1) hx hb dL_hangs_754 (by decide) ?_
                        refine lv_goto (tgt := 759) hx hb dL_hangs_755 (by decide) ?_
                        exact K (1) _ _ _ (by rw [if_pos c105]) hP hD hS (lv_sub hl [0, 1, 2, 3, 4, 5, 6, 7, 8, 9] rfl)
                    refine lv_icmp_ne (tgt := 743) hx hb dL_hangs_736 (by decide) (fun c99 => ?_) (fun c99 => ?_)
                    · skip
                      refine lv_iconst (v := 0) hx hb dL_hangs_743 (by decide) ?_
                      exact K (0) _ _ _ (by rw [if_neg c99]) hP hD hS (lv_sub hl [0, 1, 2, 3, 4, 5, 6, 7, 8, 9] rfl)
                    · skip
                      refine lv_iconst (v := 1) hx hb dL_hangs_739 (by decide) ?_
                      refine lv_goto (tgt := 744) hx hb dL_hangs_740 (by decide) ?_
                      exact K (1) _ _ _ (by rw [if_pos c99]) hP hD hS (lv_sub hl [0, 1, 2, 3, 4, 5, 6, 7, 8, 9] rfl)
                  refine lv_icmp_eq (tgt := 732) hx hb dL_hangs_706 (by decide) (fun c94 => ?_) (fun c94 => ?_)
                  · skip
                    exact K _ _ _ hP hD hS (lv_sub hl [5, 6, 7, 8, 9, 4, 1, 0, 3, 2] rfl)
                  · skip
                    refine lv_iload hx hb dL_hangs_709 (lv_at hl 2 rfl) ?_
                    refine lv_if_lt (tgt := 856) hx hb dL_hangs_711 (by decide) (fun c9 => absurd c9 (hg_711 g (k_in (by decide)) c94)) (fun _ => ?_)
                    refine lv_iload hx hb dL_hangs_714 (lv_at hl 2 rfl) ?_
                    refine lv_iconst (v := 4) hx hb dL_hangs_716 (by decide) ?_
                    refine lv_icmp_ge (tgt := 856) hx hb dL_hangs_717 (by decide) (fun c9 => absurd c9 (hg_717 g (k_in (by decide)) c94)) (fun _ => ?_)
                    refine lv_aload_n hx hb dL_hangs_720 rfl (lv_at hl 5 rfl) ?_
                    refine lv_iload hx hb dL_hangs_721 (lv_at hl 2 rfl) ?_
                    refine lv_iconst (v := 4) hx hb dL_hangs_723 (by decide) ?_
                    have hPs := k_self hP
                    have hDs := k_selfD hD
                    refine k_behi (X := []) (Y := []) (va_runV (As := [.int (sh_X4_printer N 1 0), .int 4]) (rest := []) ⟨hx, hb, hml, hown, hts⟩ (c_X4_cup l D cI cC cQ H.size d0 n0 na s0 sa h1 h2 mm ma t0 p0 pa tk N S oo zz M0 M1 M2 M3 rs de pc pg sg ln po dd lt pl f1s s2s tms (sh_X4_printer N 1 0) 4) (kcwV hts wd_ml_RL_56 wd_im_yX4_cup wd_sel_yX4_cup wd_ini_RX4 wd_code_yX4_cup rfl rfl rfl hd_X4_cup ⟨Nat.le_of_ble_eq_true rfl, Nat.le_of_ble_eq_true rfl⟩) ⟨in_blind, va_recv hK (pa_l (pa_r hPs)) (ci := 4) (q0 := 0) rfl rfl, k_pre hK (pa_l (pa_r hPs)) (da_l (da_r hDs)) hN⟩ rfl rfl hl.1 rfl (lv_room (Nat.le_of_ble_eq_true rfl)) dL_hangs_724 ⟨Nat.le_of_ble_eq_true rfl, Nat.le_of_ble_eq_true rfl⟩) hPs hDs hS hA (fun r95 u96 H locs hw97 hP hD hS => ?_)
                    have hP := k_unP hP
                    have hD := k_unD hD
                    have hP : va_P D vwCl (DW cI cC cQ d0 n0 na s0 sa h1 h2 mm ma t0 p0 pa tk N S oo zz M0 M1 M2 M3 rs de pc pg sg ln po dd lt pl f1s s2s tms) H := hP
                    have hD : va_D A (DW cI cC cQ d0 n0 na s0 sa h1 h2 mm ma t0 p0 pa tk N S oo zz M0 M1 M2 M3 rs de pc pg sg ln po dd lt pl f1s s2s tms) := hD
                    have hw97 : r95 = (sh_X4_cup N (sh_X4_printer N 1 0) 4) := hw97
                    subst hw97
                    refine lv_iload hx hb dL_hangs_727 (lv_at hl 3 rfl) ?_
                    refine lv_icmp_ne (tgt := 856) hx hb dL_hangs_729 (by decide) (fun c9 => absurd (hg_729 g (k_in (by decide)) c94) c9) (fun _ => ?_)
                    exact K _ _ _ hP hD hS (lv_sub hl [5, 6, 7, 8, 9, 4, 1, 0, 3, 2] rfl)
                refine lv_if_ne (tgt := 801) hx hb dL_hangs_794 (by decide) (fun c64 => ?_) (fun c64 => ?_)
                · skip
                  refine lv_iconst (v := 0) hx hb dL_hangs_801 (by decide) ?_
                  exact K (0) _ _ _ (by rw [if_neg c64]) hP hD hS (lv_sub hl [0, 1, 2, 3, 4, 5, 6, 7, 8, 9] rfl)
                · skip
                  refine lv_iconst (v := 1) hx hb dL_hangs_797 (by decide) ?_
                  refine lv_goto (tgt := 802) hx hb dL_hangs_798 (by decide) ?_
                  exact K (1) _ _ _ (by rw [if_pos c64]) hP hD hS (lv_sub hl [0, 1, 2, 3, 4, 5, 6, 7, 8, 9] rfl)
              refine lv_icmp_ne (tgt := 778) hx hb dL_hangs_771 (by decide) (fun c55 => ?_) (fun c55 => ?_)
              · skip
                refine lv_iconst (v := 0) hx hb dL_hangs_778 (by decide) ?_
                exact K (0) _ _ _ (by rw [if_neg c55]) hP hD hS (lv_sub hl [0, 1, 2, 3, 4, 5, 6, 7, 8, 9] rfl)
              · skip
                refine lv_iconst (v := 1) hx hb dL_hangs_774 (by decide) ?_
                refine lv_goto (tgt := 779) hx hb dL_hangs_775 (by decide) ?_
                exact K (1) _ _ _ (by rw [if_pos c55]) hP hD hS (lv_sub hl [0, 1, 2, 3, 4, 5, 6, 7, 8, 9] rfl)
            refine lv_icmp_ne (tgt := 758) hx hb dL_hangs_751 (by decide) (fun c49 => ?_) (fun c49 => ?_)
            · skip
              refine lv_iconst (v := 0) hx hb dL_hangs_758 (by decide) ?_
              exact K (0) _ _ _ (by rw [if_neg c49]) hP hD hS (lv_sub hl [0, 1, 2, 3, 4, 5, 6, 7, 8, 9] rfl)
            · skip
              refine lv_iconst (v := 1) hx hb dL_hangs_754 (by decide) ?_
              refine lv_goto (tgt := 759) hx hb dL_hangs_755 (by decide) ?_
              exact K (1) _ _ _ (by rw [if_pos c49]) hP hD hS (lv_sub hl [0, 1, 2, 3, 4, 5, 6, 7, 8, 9] rfl)
          refine lv_icmp_ne (tgt := 743) hx hb dL_hangs_736 (by decide) (fun c43 => ?_) (fun c43 => ?_)
          · skip
            refine lv_iconst (v := 0) hx hb dL_hangs_743 (by decide) ?_
            exact K (0) _ _ _ (by rw [if_neg c43]) hP hD hS (lv_sub hl [0, 1, 2, 3, 4, 5, 6, 7, 8, 9] rfl)
          · skip
            refine lv_iconst (v := 1) hx hb dL_hangs_739 (by decide) ?_
            refine lv_goto (tgt := 744) hx hb dL_hangs_740 (by decide) ?_
            exact K (1) _ _ _ (by rw [if_pos c43]) hP hD hS (lv_sub hl [0, 1, 2, 3, 4, 5, 6, 7, 8, 9] rfl)
        refine lv_icmp_eq (tgt := 732) hx hb dL_hangs_706 (by decide) (fun c38 => ?_) (fun c38 => ?_)
        · skip
          exact K _ _ _ hP hD hS (lv_sub hl [9, 8, 7, 6, 5, 4, 1, 0, 3, 2] rfl)
        · skip
          refine lv_iload hx hb dL_hangs_709 (lv_at hl 2 rfl) ?_
          refine lv_if_lt (tgt := 856) hx hb dL_hangs_711 (by decide) (fun c9 => absurd c9 (hg_711 g (k_in (by decide)) c38)) (fun _ => ?_)
          refine lv_iload hx hb dL_hangs_714 (lv_at hl 2 rfl) ?_
          refine lv_iconst (v := 4) hx hb dL_hangs_716 (by decide) ?_
          refine lv_icmp_ge (tgt := 856) hx hb dL_hangs_717 (by decide) (fun c9 => absurd c9 (hg_717 g (k_in (by decide)) c38)) (fun _ => ?_)
          refine lv_aload_n hx hb dL_hangs_720 rfl (lv_at hl 9 rfl) ?_
          refine lv_iload hx hb dL_hangs_721 (lv_at hl 2 rfl) ?_
          refine lv_iconst (v := 4) hx hb dL_hangs_723 (by decide) ?_
          have hPs := k_self hP
          have hDs := k_selfD hD
          refine k_behi (X := []) (Y := []) (va_runV (As := [.int (sh_X4_printer N 0 0), .int 4]) (rest := []) ⟨hx, hb, hml, hown, hts⟩ (c_X4_cup l D cI cC cQ H.size d0 n0 na s0 sa h1 h2 mm ma t0 p0 pa tk N S oo zz M0 M1 M2 M3 rs de pc pg sg ln po dd lt pl f1s s2s tms (sh_X4_printer N 0 0) 4) (kcwV hts wd_ml_RL_56 wd_im_yX4_cup wd_sel_yX4_cup wd_ini_RX4 wd_code_yX4_cup rfl rfl rfl hd_X4_cup ⟨Nat.le_of_ble_eq_true rfl, Nat.le_of_ble_eq_true rfl⟩) ⟨in_blind, va_recv hK (pa_l (pa_r hPs)) (ci := 4) (q0 := 0) rfl rfl, k_pre hK (pa_l (pa_r hPs)) (da_l (da_r hDs)) hN⟩ rfl rfl hl.1 rfl (lv_room (Nat.le_of_ble_eq_true rfl)) dL_hangs_724 ⟨Nat.le_of_ble_eq_true rfl, Nat.le_of_ble_eq_true rfl⟩) hPs hDs hS hA (fun r39 u40 H locs hw41 hP hD hS => ?_)
          have hP := k_unP hP
          have hD := k_unD hD
          have hP : va_P D vwCl (DW cI cC cQ d0 n0 na s0 sa h1 h2 mm ma t0 p0 pa tk N S oo zz M0 M1 M2 M3 rs de pc pg sg ln po dd lt pl f1s s2s tms) H := hP
          have hD : va_D A (DW cI cC cQ d0 n0 na s0 sa h1 h2 mm ma t0 p0 pa tk N S oo zz M0 M1 M2 M3 rs de pc pg sg ln po dd lt pl f1s s2s tms) := hD
          have hw41 : r39 = (sh_X4_cup N (sh_X4_printer N 0 0) 4) := hw41
          subst hw41
          refine lv_iload hx hb dL_hangs_727 (lv_at hl 3 rfl) ?_
          refine lv_icmp_ne (tgt := 856) hx hb dL_hangs_729 (by decide) (fun c9 => absurd (hg_729 g (k_in (by decide)) c38) c9) (fun _ => ?_)
          exact K _ _ _ hP hD hS (lv_sub hl [9, 8, 7, 6, 5, 4, 1, 0, 3, 2] rfl)
      · skip
        refine lv_iload hx hb dL_hangs_106 (lv_at hl 1 rfl) ?_
        refine lv_if_eq (tgt := 641) hx hb dL_hangs_108 (by decide) (fun c9 => absurd c9 (by decide)) (fun _ => ?_)
        refine lv_aload_n hx hb dL_hangs_111 rfl (lv_at hl 6 rfl) ?_
        refine lv_iload hx hb dL_hangs_112 (lv_at hl 0 rfl) ?_
        refine lv_iconst (v := 1) hx hb dL_hangs_114 (by decide) ?_
        have hPs := k_self hP
        have hDs := k_selfD hD
        refine k_behi (X := []) (Y := []) (va_runV (As := [.int k6, .int 1]) (rest := []) ⟨hx, hb, hml, hown, hts⟩ (c_X4_cup l D cI cC cQ H.size d0 n0 na s0 sa h1 h2 mm ma t0 p0 pa tk N S oo zz M0 M1 M2 M3 rs de pc pg sg ln po dd lt pl f1s s2s tms k6 1) (kcwV hts wd_ml_RL_56 wd_im_yX4_cup wd_sel_yX4_cup wd_ini_RX4 wd_code_yX4_cup rfl rfl rfl hd_X4_cup ⟨Nat.le_of_ble_eq_true rfl, Nat.le_of_ble_eq_true rfl⟩) ⟨in_blind, va_recv hK (pa_l (pa_r hPs)) (ci := 4) (q0 := 0) rfl rfl, k_pre hK (pa_l (pa_r hPs)) (da_l (da_r hDs)) hN⟩ rfl rfl hl.1 rfl (lv_room (Nat.le_of_ble_eq_true rfl)) dL_hangs_115 ⟨Nat.le_of_ble_eq_true rfl, Nat.le_of_ble_eq_true rfl⟩) hPs hDs hS hA (fun r225 u226 H locs hw227 hP hD hS => ?_)
        have hP := k_unP hP
        have hD := k_unD hD
        have hP : va_P D vwCl (DW cI cC cQ d0 n0 na s0 sa h1 h2 mm ma t0 p0 pa tk N S oo zz M0 M1 M2 M3 rs de pc pg sg ln po dd lt pl f1s s2s tms) H := hP
        have hD : va_D A (DW cI cC cQ d0 n0 na s0 sa h1 h2 mm ma t0 p0 pa tk N S oo zz M0 M1 M2 M3 rs de pc pg sg ln po dd lt pl f1s s2s tms) := hD
        have hw227 : r225 = (sh_X4_cup N k6 1) := hw227
        subst hw227
        refine lv_aload_n hx hb dL_hangs_118 rfl (lv_at hl 6 rfl) ?_
        refine lv_iload hx hb dL_hangs_119 (lv_at hl 0 rfl) ?_
        refine lv_iconst (v := 2) hx hb dL_hangs_121 (by decide) ?_
        have hPs := k_self hP
        have hDs := k_selfD hD
        refine k_behi (X := []) (Y := []) (va_runV (As := [.int k6, .int 2]) (rest := [.int (sh_X4_cup N k6 1)]) ⟨hx, hb, hml, hown, hts⟩ (c_X4_cup l D cI cC cQ H.size d0 n0 na s0 sa h1 h2 mm ma t0 p0 pa tk N S oo zz M0 M1 M2 M3 rs de pc pg sg ln po dd lt pl f1s s2s tms k6 2) (kcwV hts wd_ml_RL_56 wd_im_yX4_cup wd_sel_yX4_cup wd_ini_RX4 wd_code_yX4_cup rfl rfl rfl hd_X4_cup ⟨Nat.le_of_ble_eq_true rfl, Nat.le_of_ble_eq_true rfl⟩) ⟨in_blind, va_recv hK (pa_l (pa_r hPs)) (ci := 4) (q0 := 0) rfl rfl, k_pre hK (pa_l (pa_r hPs)) (da_l (da_r hDs)) hN⟩ rfl rfl hl.1 rfl (lv_room (Nat.le_of_ble_eq_true rfl)) dL_hangs_122 ⟨Nat.le_of_ble_eq_true rfl, Nat.le_of_ble_eq_true rfl⟩) hPs hDs hS hA (fun r228 u229 H locs hw230 hP hD hS => ?_)
        have hP := k_unP hP
        have hD := k_unD hD
        have hP : va_P D vwCl (DW cI cC cQ d0 n0 na s0 sa h1 h2 mm ma t0 p0 pa tk N S oo zz M0 M1 M2 M3 rs de pc pg sg ln po dd lt pl f1s s2s tms) H := hP
        have hD : va_D A (DW cI cC cQ d0 n0 na s0 sa h1 h2 mm ma t0 p0 pa tk N S oo zz M0 M1 M2 M3 rs de pc pg sg ln po dd lt pl f1s s2s tms) := hD
        have hw230 : r228 = (sh_X4_cup N k6 2) := hw230
        subst hw230
        refine lv_iadd hx hb dL_hangs_125 ?_
        refine lv_istore (lv' := [(7, .int ((sh_X4_cup N k6 1) + (sh_X4_cup N k6 2))), (6, .int k6), (5, .int 1), (4, .int nn), (3, .int bo), (2, .int le), (1, .int al), (0, .ref d0)]) hx hb dL_hangs_126 hl (by decide) rfl (fun ls hl => ?_)
        refine lv_aload_n hx hb dL_hangs_128 rfl (lv_at hl 7 rfl) ?_
        refine lv_iload hx hb dL_hangs_129 (lv_at hl 1 rfl) ?_
        refine lv_iconst (v := 5) hx hb dL_hangs_131 (by decide) ?_
        have hPs := k_self hP
        have hDs := k_selfD hD
        refine k_behi (X := []) (Y := []) (va_runV (As := [.int k6, .int 5]) (rest := []) ⟨hx, hb, hml, hown, hts⟩ (c_X4_cup l D cI cC cQ H.size d0 n0 na s0 sa h1 h2 mm ma t0 p0 pa tk N S oo zz M0 M1 M2 M3 rs de pc pg sg ln po dd lt pl f1s s2s tms k6 5) (kcwV hts wd_ml_RL_56 wd_im_yX4_cup wd_sel_yX4_cup wd_ini_RX4 wd_code_yX4_cup rfl rfl rfl hd_X4_cup ⟨Nat.le_of_ble_eq_true rfl, Nat.le_of_ble_eq_true rfl⟩) ⟨in_blind, va_recv hK (pa_l (pa_r hPs)) (ci := 4) (q0 := 0) rfl rfl, k_pre hK (pa_l (pa_r hPs)) (da_l (da_r hDs)) hN⟩ rfl rfl hl.1 rfl (lv_room (Nat.le_of_ble_eq_true rfl)) dL_hangs_132 ⟨Nat.le_of_ble_eq_true rfl, Nat.le_of_ble_eq_true rfl⟩) hPs hDs hS hA (fun r231 u232 H locs hw233 hP hD hS => ?_)
        have hP := k_unP hP
        have hD := k_unD hD
        have hP : va_P D vwCl (DW cI cC cQ d0 n0 na s0 sa h1 h2 mm ma t0 p0 pa tk N S oo zz M0 M1 M2 M3 rs de pc pg sg ln po dd lt pl f1s s2s tms) H := hP
        have hD : va_D A (DW cI cC cQ d0 n0 na s0 sa h1 h2 mm ma t0 p0 pa tk N S oo zz M0 M1 M2 M3 rs de pc pg sg ln po dd lt pl f1s s2s tms) := hD
        have hw233 : r231 = (sh_X4_cup N k6 5) := hw233
        subst hw233
        refine lv_istore (lv' := [(8, .int (sh_X4_cup N k6 5)), (7, .int ((sh_X4_cup N k6 1) + (sh_X4_cup N k6 2))), (6, .int k6), (5, .int 1), (4, .int nn), (3, .int bo), (2, .int le), (1, .int al), (0, .ref d0)]) hx hb dL_hangs_135 hl (by decide) rfl (fun ls hl => ?_)
        refine lv_aload_n hx hb dL_hangs_137 rfl (lv_at hl 8 rfl) ?_
        refine lv_iload hx hb dL_hangs_138 (lv_at hl 2 rfl) ?_
        refine lv_iconst (v := 4) hx hb dL_hangs_140 (by decide) ?_
        have hPs := k_self hP
        have hDs := k_selfD hD
        refine k_behi (X := []) (Y := []) (va_runV (As := [.int k6, .int 4]) (rest := []) ⟨hx, hb, hml, hown, hts⟩ (c_X4_cup l D cI cC cQ H.size d0 n0 na s0 sa h1 h2 mm ma t0 p0 pa tk N S oo zz M0 M1 M2 M3 rs de pc pg sg ln po dd lt pl f1s s2s tms k6 4) (kcwV hts wd_ml_RL_56 wd_im_yX4_cup wd_sel_yX4_cup wd_ini_RX4 wd_code_yX4_cup rfl rfl rfl hd_X4_cup ⟨Nat.le_of_ble_eq_true rfl, Nat.le_of_ble_eq_true rfl⟩) ⟨in_blind, va_recv hK (pa_l (pa_r hPs)) (ci := 4) (q0 := 0) rfl rfl, k_pre hK (pa_l (pa_r hPs)) (da_l (da_r hDs)) hN⟩ rfl rfl hl.1 rfl (lv_room (Nat.le_of_ble_eq_true rfl)) dL_hangs_141 ⟨Nat.le_of_ble_eq_true rfl, Nat.le_of_ble_eq_true rfl⟩) hPs hDs hS hA (fun r234 u235 H locs hw236 hP hD hS => ?_)
        have hP := k_unP hP
        have hD := k_unD hD
        have hP : va_P D vwCl (DW cI cC cQ d0 n0 na s0 sa h1 h2 mm ma t0 p0 pa tk N S oo zz M0 M1 M2 M3 rs de pc pg sg ln po dd lt pl f1s s2s tms) H := hP
        have hD : va_D A (DW cI cC cQ d0 n0 na s0 sa h1 h2 mm ma t0 p0 pa tk N S oo zz M0 M1 M2 M3 rs de pc pg sg ln po dd lt pl f1s s2s tms) := hD
        have hw236 : r234 = (sh_X4_cup N k6 4) := hw236
        subst hw236
        refine lv_istore (lv' := [(9, .int (sh_X4_cup N k6 4)), (8, .int (sh_X4_cup N k6 5)), (7, .int ((sh_X4_cup N k6 1) + (sh_X4_cup N k6 2))), (6, .int k6), (5, .int 1), (4, .int nn), (3, .int bo), (2, .int le), (1, .int al), (0, .ref d0)]) hx hb dL_hangs_144 hl (by decide) rfl (fun ls hl => ?_)
        refine lv_aload_n hx hb dL_hangs_146 rfl (lv_at hl 9 rfl) ?_
        refine lv_iload hx hb dL_hangs_147 (lv_at hl 3 rfl) ?_
        refine lv_iconst (v := 0) hx hb dL_hangs_149 (by decide) ?_
        have hPs := k_self hP
        have hDs := k_selfD hD
        refine k_behi (X := []) (Y := []) (va_runV (As := [.int k6, .int 0]) (rest := []) ⟨hx, hb, hml, hown, hts⟩ (c_X4_cup l D cI cC cQ H.size d0 n0 na s0 sa h1 h2 mm ma t0 p0 pa tk N S oo zz M0 M1 M2 M3 rs de pc pg sg ln po dd lt pl f1s s2s tms k6 0) (kcwV hts wd_ml_RL_56 wd_im_yX4_cup wd_sel_yX4_cup wd_ini_RX4 wd_code_yX4_cup rfl rfl rfl hd_X4_cup ⟨Nat.le_of_ble_eq_true rfl, Nat.le_of_ble_eq_true rfl⟩) ⟨in_blind, va_recv hK (pa_l (pa_r hPs)) (ci := 4) (q0 := 0) rfl rfl, k_pre hK (pa_l (pa_r hPs)) (da_l (da_r hDs)) hN⟩ rfl rfl hl.1 rfl (lv_room (Nat.le_of_ble_eq_true rfl)) dL_hangs_150 ⟨Nat.le_of_ble_eq_true rfl, Nat.le_of_ble_eq_true rfl⟩) hPs hDs hS hA (fun r237 u238 H locs hw239 hP hD hS => ?_)
        have hP := k_unP hP
        have hD := k_unD hD
        have hP : va_P D vwCl (DW cI cC cQ d0 n0 na s0 sa h1 h2 mm ma t0 p0 pa tk N S oo zz M0 M1 M2 M3 rs de pc pg sg ln po dd lt pl f1s s2s tms) H := hP
        have hD : va_D A (DW cI cC cQ d0 n0 na s0 sa h1 h2 mm ma t0 p0 pa tk N S oo zz M0 M1 M2 M3 rs de pc pg sg ln po dd lt pl f1s s2s tms) := hD
        have hw239 : r237 = (sh_X4_cup N k6 0) := hw239
        subst hw239
        refine lv_if_lt (tgt := 352) hx hb dL_hangs_153 (by decide) (fun c9 => absurd c9 (hg_153 g (hgI_in hI c25))) (fun _ => ?_)
        refine lv_aload_n hx hb dL_hangs_156 rfl (lv_at hl 9 rfl) ?_
        refine lv_iload hx hb dL_hangs_157 (lv_at hl 3 rfl) ?_
        refine lv_iconst (v := 0) hx hb dL_hangs_159 (by decide) ?_
        have hPs := k_self hP
        have hDs := k_selfD hD
        refine k_behi (X := []) (Y := []) (va_runV (As := [.int k6, .int 0]) (rest := []) ⟨hx, hb, hml, hown, hts⟩ (c_X4_cup l D cI cC cQ H.size d0 n0 na s0 sa h1 h2 mm ma t0 p0 pa tk N S oo zz M0 M1 M2 M3 rs de pc pg sg ln po dd lt pl f1s s2s tms k6 0) (kcwV hts wd_ml_RL_56 wd_im_yX4_cup wd_sel_yX4_cup wd_ini_RX4 wd_code_yX4_cup rfl rfl rfl hd_X4_cup ⟨Nat.le_of_ble_eq_true rfl, Nat.le_of_ble_eq_true rfl⟩) ⟨in_blind, va_recv hK (pa_l (pa_r hPs)) (ci := 4) (q0 := 0) rfl rfl, k_pre hK (pa_l (pa_r hPs)) (da_l (da_r hDs)) hN⟩ rfl rfl hl.1 rfl (lv_room (Nat.le_of_ble_eq_true rfl)) dL_hangs_160 ⟨Nat.le_of_ble_eq_true rfl, Nat.le_of_ble_eq_true rfl⟩) hPs hDs hS hA (fun r240 u241 H locs hw242 hP hD hS => ?_)
        have hP := k_unP hP
        have hD := k_unD hD
        have hP : va_P D vwCl (DW cI cC cQ d0 n0 na s0 sa h1 h2 mm ma t0 p0 pa tk N S oo zz M0 M1 M2 M3 rs de pc pg sg ln po dd lt pl f1s s2s tms) H := hP
        have hD : va_D A (DW cI cC cQ d0 n0 na s0 sa h1 h2 mm ma t0 p0 pa tk N S oo zz M0 M1 M2 M3 rs de pc pg sg ln po dd lt pl f1s s2s tms) := hD
        have hw242 : r240 = (sh_X4_cup N k6 0) := hw242
        subst hw242
        refine lv_iconst (v := 3) hx hb dL_hangs_163 (by decide) ?_
        refine lv_icmp_ge (tgt := 352) hx hb dL_hangs_164 (by decide) (fun c9 => absurd c9 (hg_164 g (hgI_in hI c25))) (fun _ => ?_)
        refine lv_aload_n hx hb dL_hangs_167 rfl (lv_at hl 9 rfl) ?_
        refine lv_iload hx hb dL_hangs_168 (lv_at hl 3 rfl) ?_
        refine lv_iconst (v := 1) hx hb dL_hangs_170 (by decide) ?_
        have hPs := k_self hP
        have hDs := k_selfD hD
        refine k_behi (X := []) (Y := []) (va_runV (As := [.int k6, .int 1]) (rest := []) ⟨hx, hb, hml, hown, hts⟩ (c_X4_cup l D cI cC cQ H.size d0 n0 na s0 sa h1 h2 mm ma t0 p0 pa tk N S oo zz M0 M1 M2 M3 rs de pc pg sg ln po dd lt pl f1s s2s tms k6 1) (kcwV hts wd_ml_RL_56 wd_im_yX4_cup wd_sel_yX4_cup wd_ini_RX4 wd_code_yX4_cup rfl rfl rfl hd_X4_cup ⟨Nat.le_of_ble_eq_true rfl, Nat.le_of_ble_eq_true rfl⟩) ⟨in_blind, va_recv hK (pa_l (pa_r hPs)) (ci := 4) (q0 := 0) rfl rfl, k_pre hK (pa_l (pa_r hPs)) (da_l (da_r hDs)) hN⟩ rfl rfl hl.1 rfl (lv_room (Nat.le_of_ble_eq_true rfl)) dL_hangs_171 ⟨Nat.le_of_ble_eq_true rfl, Nat.le_of_ble_eq_true rfl⟩) hPs hDs hS hA (fun r243 u244 H locs hw245 hP hD hS => ?_)
        have hP := k_unP hP
        have hD := k_unD hD
        have hP : va_P D vwCl (DW cI cC cQ d0 n0 na s0 sa h1 h2 mm ma t0 p0 pa tk N S oo zz M0 M1 M2 M3 rs de pc pg sg ln po dd lt pl f1s s2s tms) H := hP
        have hD : va_D A (DW cI cC cQ d0 n0 na s0 sa h1 h2 mm ma t0 p0 pa tk N S oo zz M0 M1 M2 M3 rs de pc pg sg ln po dd lt pl f1s s2s tms) := hD
        have hw245 : r243 = (sh_X4_cup N k6 1) := hw245
        subst hw245
        refine lv_if_lt (tgt := 352) hx hb dL_hangs_174 (by decide) (fun c9 => absurd c9 (hg_174 g (hgI_in hI c25))) (fun _ => ?_)
        refine lv_aload_n hx hb dL_hangs_177 rfl (lv_at hl 9 rfl) ?_
        refine lv_iload hx hb dL_hangs_178 (lv_at hl 3 rfl) ?_
        refine lv_iconst (v := 2) hx hb dL_hangs_180 (by decide) ?_
        have hPs := k_self hP
        have hDs := k_selfD hD
        refine k_behi (X := []) (Y := []) (va_runV (As := [.int k6, .int 2]) (rest := []) ⟨hx, hb, hml, hown, hts⟩ (c_X4_cup l D cI cC cQ H.size d0 n0 na s0 sa h1 h2 mm ma t0 p0 pa tk N S oo zz M0 M1 M2 M3 rs de pc pg sg ln po dd lt pl f1s s2s tms k6 2) (kcwV hts wd_ml_RL_56 wd_im_yX4_cup wd_sel_yX4_cup wd_ini_RX4 wd_code_yX4_cup rfl rfl rfl hd_X4_cup ⟨Nat.le_of_ble_eq_true rfl, Nat.le_of_ble_eq_true rfl⟩) ⟨in_blind, va_recv hK (pa_l (pa_r hPs)) (ci := 4) (q0 := 0) rfl rfl, k_pre hK (pa_l (pa_r hPs)) (da_l (da_r hDs)) hN⟩ rfl rfl hl.1 rfl (lv_room (Nat.le_of_ble_eq_true rfl)) dL_hangs_181 ⟨Nat.le_of_ble_eq_true rfl, Nat.le_of_ble_eq_true rfl⟩) hPs hDs hS hA (fun r246 u247 H locs hw248 hP hD hS => ?_)
        have hP := k_unP hP
        have hD := k_unD hD
        have hP : va_P D vwCl (DW cI cC cQ d0 n0 na s0 sa h1 h2 mm ma t0 p0 pa tk N S oo zz M0 M1 M2 M3 rs de pc pg sg ln po dd lt pl f1s s2s tms) H := hP
        have hD : va_D A (DW cI cC cQ d0 n0 na s0 sa h1 h2 mm ma t0 p0 pa tk N S oo zz M0 M1 M2 M3 rs de pc pg sg ln po dd lt pl f1s s2s tms) := hD
        have hw248 : r246 = (sh_X4_cup N k6 2) := hw248
        subst hw248
        refine lv_if_lt (tgt := 352) hx hb dL_hangs_184 (by decide) (fun c9 => absurd c9 (hg_184 g (hgI_in hI c25))) (fun _ => ?_)
        refine lv_iload hx hb dL_hangs_187 (lv_at hl 2 rfl) ?_
        refine lv_sipush (v := 6000) hx hb dL_hangs_189 (by decide) ?_
        refine lv_icmp_gt (tgt := 352) hx hb dL_hangs_192 (by decide) (fun c9 => absurd c9 (hg_192 g (hgI_in hI c25))) (fun _ => ?_)
        refine lv_aload_n hx hb dL_hangs_195 rfl (lv_at hl 9 rfl) ?_
        refine lv_iload hx hb dL_hangs_196 (lv_at hl 3 rfl) ?_
        refine lv_iconst (v := 3) hx hb dL_hangs_198 (by decide) ?_
        have hPs := k_self hP
        have hDs := k_selfD hD
        refine k_behi (X := []) (Y := []) (va_runV (As := [.int k6, .int 3]) (rest := []) ⟨hx, hb, hml, hown, hts⟩ (c_X4_cup l D cI cC cQ H.size d0 n0 na s0 sa h1 h2 mm ma t0 p0 pa tk N S oo zz M0 M1 M2 M3 rs de pc pg sg ln po dd lt pl f1s s2s tms k6 3) (kcwV hts wd_ml_RL_56 wd_im_yX4_cup wd_sel_yX4_cup wd_ini_RX4 wd_code_yX4_cup rfl rfl rfl hd_X4_cup ⟨Nat.le_of_ble_eq_true rfl, Nat.le_of_ble_eq_true rfl⟩) ⟨in_blind, va_recv hK (pa_l (pa_r hPs)) (ci := 4) (q0 := 0) rfl rfl, k_pre hK (pa_l (pa_r hPs)) (da_l (da_r hDs)) hN⟩ rfl rfl hl.1 rfl (lv_room (Nat.le_of_ble_eq_true rfl)) dL_hangs_199 ⟨Nat.le_of_ble_eq_true rfl, Nat.le_of_ble_eq_true rfl⟩) hPs hDs hS hA (fun r249 u250 H locs hw251 hP hD hS => ?_)
        have hP := k_unP hP
        have hD := k_unD hD
        have hP : va_P D vwCl (DW cI cC cQ d0 n0 na s0 sa h1 h2 mm ma t0 p0 pa tk N S oo zz M0 M1 M2 M3 rs de pc pg sg ln po dd lt pl f1s s2s tms) H := hP
        have hD : va_D A (DW cI cC cQ d0 n0 na s0 sa h1 h2 mm ma t0 p0 pa tk N S oo zz M0 M1 M2 M3 rs de pc pg sg ln po dd lt pl f1s s2s tms) := hD
        have hw251 : r249 = (sh_X4_cup N k6 3) := hw251
        subst hw251
        refine lv_if_lt (tgt := 352) hx hb dL_hangs_202 (by decide) (fun c9 => absurd c9 (hg_202 g (hgI_in hI c25))) (fun _ => ?_)
        refine lv_aload_n hx hb dL_hangs_205 rfl (lv_at hl 9 rfl) ?_
        refine lv_iload hx hb dL_hangs_206 (lv_at hl 3 rfl) ?_
        refine lv_iconst (v := 3) hx hb dL_hangs_208 (by decide) ?_
        have hPs := k_self hP
        have hDs := k_selfD hD
        refine k_behi (X := []) (Y := []) (va_runV (As := [.int k6, .int 3]) (rest := []) ⟨hx, hb, hml, hown, hts⟩ (c_X4_cup l D cI cC cQ H.size d0 n0 na s0 sa h1 h2 mm ma t0 p0 pa tk N S oo zz M0 M1 M2 M3 rs de pc pg sg ln po dd lt pl f1s s2s tms k6 3) (kcwV hts wd_ml_RL_56 wd_im_yX4_cup wd_sel_yX4_cup wd_ini_RX4 wd_code_yX4_cup rfl rfl rfl hd_X4_cup ⟨Nat.le_of_ble_eq_true rfl, Nat.le_of_ble_eq_true rfl⟩) ⟨in_blind, va_recv hK (pa_l (pa_r hPs)) (ci := 4) (q0 := 0) rfl rfl, k_pre hK (pa_l (pa_r hPs)) (da_l (da_r hDs)) hN⟩ rfl rfl hl.1 rfl (lv_room (Nat.le_of_ble_eq_true rfl)) dL_hangs_209 ⟨Nat.le_of_ble_eq_true rfl, Nat.le_of_ble_eq_true rfl⟩) hPs hDs hS hA (fun r252 u253 H locs hw254 hP hD hS => ?_)
        have hP := k_unP hP
        have hD := k_unD hD
        have hP : va_P D vwCl (DW cI cC cQ d0 n0 na s0 sa h1 h2 mm ma t0 p0 pa tk N S oo zz M0 M1 M2 M3 rs de pc pg sg ln po dd lt pl f1s s2s tms) H := hP
        have hD : va_D A (DW cI cC cQ d0 n0 na s0 sa h1 h2 mm ma t0 p0 pa tk N S oo zz M0 M1 M2 M3 rs de pc pg sg ln po dd lt pl f1s s2s tms) := hD
        have hw254 : r252 = (sh_X4_cup N k6 3) := hw254
        subst hw254
        refine lv_sipush (v := 4000) hx hb dL_hangs_212 (by decide) ?_
        refine lv_icmp_gt (tgt := 352) hx hb dL_hangs_215 (by decide) (fun c9 => absurd c9 (hg_215 g (hgI_in hI c25))) (fun _ => ?_)
        refine lv_iload hx hb dL_hangs_218 (lv_at hl 1 rfl) ?_
        refine lv_iload hx hb dL_hangs_220 (lv_at hl 2 rfl) ?_
        refine lv_icmp_gt (tgt := 352) hx hb dL_hangs_222 (by decide) (fun c9 => absurd c9 (hg_222 g (hgI_in hI c25))) (fun _ => ?_)
        refine lv_iload hx hb dL_hangs_225 (lv_at hl 2 rfl) ?_
        refine lv_iload hx hb dL_hangs_227 (lv_at hl 1 rfl) ?_
        refine lv_isub hx hb dL_hangs_229 ?_
        refine lv_aload_n hx hb dL_hangs_230 rfl (lv_at hl 9 rfl) ?_
        refine lv_bipush (v := 11) hx hb dL_hangs_231 (by decide) ?_
        have hPs := k_self hP
        have hDs := k_selfD hD
        refine k_behi (X := []) (Y := []) (va_runV (As := [.int 11]) (rest := [.int (((sh_X4_cup N k6 1) + (sh_X4_cup N k6 2)) - (sh_X4_cup N k6 5))]) ⟨hx, hb, hml, hown, hts⟩ (c_X4_count l D cI cC cQ H.size d0 n0 na s0 sa h1 h2 mm ma t0 p0 pa tk N S oo zz M0 M1 M2 M3 rs de pc pg sg ln po dd lt pl f1s s2s tms 11) (kcwV hts wd_ml_RL_53 wd_im_yX4_count wd_sel_yX4_count wd_ini_RX4 wd_code_yX4_count rfl rfl rfl hd_X4_count ⟨Nat.le_of_ble_eq_true rfl, Nat.le_of_ble_eq_true rfl⟩) ⟨in_blind, va_recv hK (pa_l (pa_r hPs)) (ci := 4) (q0 := 0) rfl rfl, k_pre hK (pa_l (pa_r hPs)) (da_l (da_r hDs)) hN⟩ rfl rfl hl.1 rfl (lv_room (Nat.le_of_ble_eq_true rfl)) dL_hangs_233 ⟨Nat.le_of_ble_eq_true rfl, Nat.le_of_ble_eq_true rfl⟩) hPs hDs hS hA (fun r255 u256 H locs hw257 hP hD hS => ?_)
        have hP := k_unP hP
        have hD := k_unD hD
        have hP : va_P D vwCl (DW cI cC cQ d0 n0 na s0 sa h1 h2 mm ma t0 p0 pa tk N S oo zz M0 M1 M2 M3 rs de pc pg sg ln po dd lt pl f1s s2s tms) H := hP
        have hD : va_D A (DW cI cC cQ d0 n0 na s0 sa h1 h2 mm ma t0 p0 pa tk N S oo zz M0 M1 M2 M3 rs de pc pg sg ln po dd lt pl f1s s2s tms) := hD
        have hw257 : r255 = (sh_X4_count N zz ln 11) := hw257
        subst hw257
        refine lv_icmp_ge (tgt := 352) hx hb dL_hangs_236 (by decide) (fun c9 => absurd c9 (hg_236 g (hgI_in hI c25))) (fun _ => ?_)
        refine lv_iload hx hb dL_hangs_239 (lv_at hl 1 rfl) ?_
        refine lv_aload_n hx hb dL_hangs_241 rfl (lv_at hl 9 rfl) ?_
        refine lv_bipush (v := 11) hx hb dL_hangs_242 (by decide) ?_
        have hPs := k_self hP
        have hDs := k_selfD hD
        refine k_behi (X := []) (Y := []) (va_runV (As := [.int 11]) (rest := [.int (sh_X4_cup N k6 5)]) ⟨hx, hb, hml, hown, hts⟩ (c_X4_count l D cI cC cQ H.size d0 n0 na s0 sa h1 h2 mm ma t0 p0 pa tk N S oo zz M0 M1 M2 M3 rs de pc pg sg ln po dd lt pl f1s s2s tms 11) (kcwV hts wd_ml_RL_53 wd_im_yX4_count wd_sel_yX4_count wd_ini_RX4 wd_code_yX4_count rfl rfl rfl hd_X4_count ⟨Nat.le_of_ble_eq_true rfl, Nat.le_of_ble_eq_true rfl⟩) ⟨in_blind, va_recv hK (pa_l (pa_r hPs)) (ci := 4) (q0 := 0) rfl rfl, k_pre hK (pa_l (pa_r hPs)) (da_l (da_r hDs)) hN⟩ rfl rfl hl.1 rfl (lv_room (Nat.le_of_ble_eq_true rfl)) dL_hangs_244 ⟨Nat.le_of_ble_eq_true rfl, Nat.le_of_ble_eq_true rfl⟩) hPs hDs hS hA (fun r258 u259 H locs hw260 hP hD hS => ?_)
        have hP := k_unP hP
        have hD := k_unD hD
        have hP : va_P D vwCl (DW cI cC cQ d0 n0 na s0 sa h1 h2 mm ma t0 p0 pa tk N S oo zz M0 M1 M2 M3 rs de pc pg sg ln po dd lt pl f1s s2s tms) H := hP
        have hD : va_D A (DW cI cC cQ d0 n0 na s0 sa h1 h2 mm ma t0 p0 pa tk N S oo zz M0 M1 M2 M3 rs de pc pg sg ln po dd lt pl f1s s2s tms) := hD
        have hw260 : r258 = (sh_X4_count N zz ln 11) := hw260
        subst hw260
        refine lv_irem hx hb dL_hangs_247 (hg_n11 g) ?_
        refine lv_if_ne (tgt := 352) hx hb dL_hangs_248 (by decide) (fun c9 => absurd (hg_248 g (hgI_in hI c25)) c9) (fun _ => ?_)
        refine lv_aload_n hx hb dL_hangs_251 rfl (lv_at hl 9 rfl) ?_
        refine lv_iload hx hb dL_hangs_252 (lv_at hl 3 rfl) ?_
        refine lv_bipush (v := 6) hx hb dL_hangs_254 (by decide) ?_
        have hPs := k_self hP
        have hDs := k_selfD hD
        refine k_behi (X := []) (Y := []) (va_runV (As := [.int k6, .int 6]) (rest := []) ⟨hx, hb, hml, hown, hts⟩ (c_X4_cup l D cI cC cQ H.size d0 n0 na s0 sa h1 h2 mm ma t0 p0 pa tk N S oo zz M0 M1 M2 M3 rs de pc pg sg ln po dd lt pl f1s s2s tms k6 6) (kcwV hts wd_ml_RL_56 wd_im_yX4_cup wd_sel_yX4_cup wd_ini_RX4 wd_code_yX4_cup rfl rfl rfl hd_X4_cup ⟨Nat.le_of_ble_eq_true rfl, Nat.le_of_ble_eq_true rfl⟩) ⟨in_blind, va_recv hK (pa_l (pa_r hPs)) (ci := 4) (q0 := 0) rfl rfl, k_pre hK (pa_l (pa_r hPs)) (da_l (da_r hDs)) hN⟩ rfl rfl hl.1 rfl (lv_room (Nat.le_of_ble_eq_true rfl)) dL_hangs_256 ⟨Nat.le_of_ble_eq_true rfl, Nat.le_of_ble_eq_true rfl⟩) hPs hDs hS hA (fun r261 u262 H locs hw263 hP hD hS => ?_)
        have hP := k_unP hP
        have hD := k_unD hD
        have hP : va_P D vwCl (DW cI cC cQ d0 n0 na s0 sa h1 h2 mm ma t0 p0 pa tk N S oo zz M0 M1 M2 M3 rs de pc pg sg ln po dd lt pl f1s s2s tms) H := hP
        have hD : va_D A (DW cI cC cQ d0 n0 na s0 sa h1 h2 mm ma t0 p0 pa tk N S oo zz M0 M1 M2 M3 rs de pc pg sg ln po dd lt pl f1s s2s tms) := hD
        have hw263 : r261 = (sh_X4_cup N k6 6) := hw263
        subst hw263
        refine lv_iload hx hb dL_hangs_259 (lv_at hl 1 rfl) ?_
        refine lv_aload_n hx hb dL_hangs_261 rfl (lv_at hl 9 rfl) ?_
        refine lv_iload hx hb dL_hangs_262 (lv_at hl 3 rfl) ?_
        refine lv_iconst (v := 3) hx hb dL_hangs_264 (by decide) ?_
        have hPs := k_self hP
        have hDs := k_selfD hD
        refine k_behi (X := []) (Y := []) (va_runV (As := [.int k6, .int 3]) (rest := [.int (sh_X4_cup N k6 5), .int (sh_X4_cup N k6 6)]) ⟨hx, hb, hml, hown, hts⟩ (c_X4_cup l D cI cC cQ H.size d0 n0 na s0 sa h1 h2 mm ma t0 p0 pa tk N S oo zz M0 M1 M2 M3 rs de pc pg sg ln po dd lt pl f1s s2s tms k6 3) (kcwV hts wd_ml_RL_56 wd_im_yX4_cup wd_sel_yX4_cup wd_ini_RX4 wd_code_yX4_cup rfl rfl rfl hd_X4_cup ⟨Nat.le_of_ble_eq_true rfl, Nat.le_of_ble_eq_true rfl⟩) ⟨in_blind, va_recv hK (pa_l (pa_r hPs)) (ci := 4) (q0 := 0) rfl rfl, k_pre hK (pa_l (pa_r hPs)) (da_l (da_r hDs)) hN⟩ rfl rfl hl.1 rfl (lv_room (Nat.le_of_ble_eq_true rfl)) dL_hangs_265 ⟨Nat.le_of_ble_eq_true rfl, Nat.le_of_ble_eq_true rfl⟩) hPs hDs hS hA (fun r264 u265 H locs hw266 hP hD hS => ?_)
        have hP := k_unP hP
        have hD := k_unD hD
        have hP : va_P D vwCl (DW cI cC cQ d0 n0 na s0 sa h1 h2 mm ma t0 p0 pa tk N S oo zz M0 M1 M2 M3 rs de pc pg sg ln po dd lt pl f1s s2s tms) H := hP
        have hD : va_D A (DW cI cC cQ d0 n0 na s0 sa h1 h2 mm ma t0 p0 pa tk N S oo zz M0 M1 M2 M3 rs de pc pg sg ln po dd lt pl f1s s2s tms) := hD
        have hw266 : r264 = (sh_X4_cup N k6 3) := hw266
        subst hw266
        refine lv_iadd hx hb dL_hangs_268 ?_
        refine lv_iconst (v := 2) hx hb dL_hangs_269 (by decide) ?_
        refine lv_idiv hx hb dL_hangs_270 (by decide) ?_
        refine lv_icmp_ne (tgt := 352) hx hb dL_hangs_271 (by decide) (fun c9 => absurd (hg_271 (hgI_in hI c25)) c9) (fun _ => ?_)
        refine lv_aload_n hx hb dL_hangs_274 rfl (lv_at hl 9 rfl) ?_
        refine lv_iload hx hb dL_hangs_275 (lv_at hl 3 rfl) ?_
        refine lv_bipush (v := 7) hx hb dL_hangs_277 (by decide) ?_
        have hPs := k_self hP
        have hDs := k_selfD hD
        refine k_behi (X := []) (Y := []) (va_runV (As := [.int k6, .int 7]) (rest := []) ⟨hx, hb, hml, hown, hts⟩ (c_X4_cup l D cI cC cQ H.size d0 n0 na s0 sa h1 h2 mm ma t0 p0 pa tk N S oo zz M0 M1 M2 M3 rs de pc pg sg ln po dd lt pl f1s s2s tms k6 7) (kcwV hts wd_ml_RL_56 wd_im_yX4_cup wd_sel_yX4_cup wd_ini_RX4 wd_code_yX4_cup rfl rfl rfl hd_X4_cup ⟨Nat.le_of_ble_eq_true rfl, Nat.le_of_ble_eq_true rfl⟩) ⟨in_blind, va_recv hK (pa_l (pa_r hPs)) (ci := 4) (q0 := 0) rfl rfl, k_pre hK (pa_l (pa_r hPs)) (da_l (da_r hDs)) hN⟩ rfl rfl hl.1 rfl (lv_room (Nat.le_of_ble_eq_true rfl)) dL_hangs_279 ⟨Nat.le_of_ble_eq_true rfl, Nat.le_of_ble_eq_true rfl⟩) hPs hDs hS hA (fun r267 u268 H locs hw269 hP hD hS => ?_)
        have hP := k_unP hP
        have hD := k_unD hD
        have hP : va_P D vwCl (DW cI cC cQ d0 n0 na s0 sa h1 h2 mm ma t0 p0 pa tk N S oo zz M0 M1 M2 M3 rs de pc pg sg ln po dd lt pl f1s s2s tms) H := hP
        have hD : va_D A (DW cI cC cQ d0 n0 na s0 sa h1 h2 mm ma t0 p0 pa tk N S oo zz M0 M1 M2 M3 rs de pc pg sg ln po dd lt pl f1s s2s tms) := hD
        have hw269 : r267 = (sh_X4_cup N k6 7) := hw269
        subst hw269
        refine lv_aload_n hx hb dL_hangs_282 rfl (lv_at hl 9 rfl) ?_
        refine lv_iload hx hb dL_hangs_283 (lv_at hl 3 rfl) ?_
        refine lv_bipush (v := 6) hx hb dL_hangs_285 (by decide) ?_
        have hPs := k_self hP
        have hDs := k_selfD hD
        refine k_behi (X := []) (Y := []) (va_runV (As := [.int k6, .int 6]) (rest := [.int (sh_X4_cup N k6 7)]) ⟨hx, hb, hml, hown, hts⟩ (c_X4_cup l D cI cC cQ H.size d0 n0 na s0 sa h1 h2 mm ma t0 p0 pa tk N S oo zz M0 M1 M2 M3 rs de pc pg sg ln po dd lt pl f1s s2s tms k6 6) (kcwV hts wd_ml_RL_56 wd_im_yX4_cup wd_sel_yX4_cup wd_ini_RX4 wd_code_yX4_cup rfl rfl rfl hd_X4_cup ⟨Nat.le_of_ble_eq_true rfl, Nat.le_of_ble_eq_true rfl⟩) ⟨in_blind, va_recv hK (pa_l (pa_r hPs)) (ci := 4) (q0 := 0) rfl rfl, k_pre hK (pa_l (pa_r hPs)) (da_l (da_r hDs)) hN⟩ rfl rfl hl.1 rfl (lv_room (Nat.le_of_ble_eq_true rfl)) dL_hangs_287 ⟨Nat.le_of_ble_eq_true rfl, Nat.le_of_ble_eq_true rfl⟩) hPs hDs hS hA (fun r270 u271 H locs hw272 hP hD hS => ?_)
        have hP := k_unP hP
        have hD := k_unD hD
        have hP : va_P D vwCl (DW cI cC cQ d0 n0 na s0 sa h1 h2 mm ma t0 p0 pa tk N S oo zz M0 M1 M2 M3 rs de pc pg sg ln po dd lt pl f1s s2s tms) H := hP
        have hD : va_D A (DW cI cC cQ d0 n0 na s0 sa h1 h2 mm ma t0 p0 pa tk N S oo zz M0 M1 M2 M3 rs de pc pg sg ln po dd lt pl f1s s2s tms) := hD
        have hw272 : r270 = (sh_X4_cup N k6 6) := hw272
        subst hw272
        refine lv_iload hx hb dL_hangs_290 (lv_at hl 2 rfl) ?_
        refine lv_isub hx hb dL_hangs_292 ?_
        refine lv_ldc hx hb hown (hts _ wd_con_RL_59) dL_hangs_293 ?_
        refine lv_iadd hx hb dL_hangs_295 ?_
        refine lv_icmp_ne (tgt := 352) hx hb dL_hangs_296 (by decide) (fun c9 => absurd (hg_296 (hgI_in hI c25)) c9) (fun _ => ?_)
        refine lv_iload hx hb dL_hangs_299 (lv_at hl 0 rfl) ?_
        refine lv_bipush (v := (-4)) hx hb dL_hangs_301 (by decide) ?_
        have K : ∀  (H : Heap) (locs : List Loc) (ls : Array Slot), va_P D vwCl (DW cI cC cQ d0 n0 na s0 sa h1 h2 mm ma t0 p0 pa tk N S oo zz M0 M1 M2 M3 rs de pc pg sg ln po dd lt pl f1s s2s tms) H → va_D A (DW cI cC cQ d0 n0 na s0 sa h1 h2 mm ma t0 p0 pa tk N S oo zz M0 M1 M2 M3 rs de pc pg sg ln po dd lt pl f1s s2s tms) → va_S A s.heap H locs → lv_has ls 14 [(0, .ref d0), (1, .int al), (2, .int le), (3, .int bo), (4, .int nn), (5, .int 1), (6, .int k6), (7, .int ((sh_X4_cup N k6 1) + (sh_X4_cup N k6 2))), (8, .int (sh_X4_cup N k6 5)), (9, .int (sh_X4_cup N k6 4))] → W p l e rm_L_hangs s m args below meth c H locs 0 0 Q (F0 m 329 ls []) := by
          intro  H locs ls  hP hD hS hl
          refine lv_iload hx hb dL_hangs_329 (lv_at hl 9 rfl) ?_
          refine lv_bipush (v := (-4)) hx hb dL_hangs_331 (by decide) ?_
          have K : ∀  (H : Heap) (locs : List Loc) (ls : Array Slot), va_P D vwCl (DW cI cC cQ d0 n0 na s0 sa h1 h2 mm ma t0 p0 pa tk N S oo zz M0 M1 M2 M3 rs de pc pg sg ln po dd lt pl f1s s2s tms) H → va_D A (DW cI cC cQ d0 n0 na s0 sa h1 h2 mm ma t0 p0 pa tk N S oo zz M0 M1 M2 M3 rs de pc pg sg ln po dd lt pl f1s s2s tms) → va_S A s.heap H locs → lv_has ls 14 [(0, .ref d0), (1, .int al), (2, .int le), (3, .int bo), (4, .int nn), (5, .int 1), (6, .int k6), (7, .int ((sh_X4_cup N k6 1) + (sh_X4_cup N k6 2))), (8, .int (sh_X4_cup N k6 5)), (9, .int (sh_X4_cup N k6 4))] → W p l e rm_L_hangs s m args below meth c H locs 0 0 Q (F0 m 348 ls []) := by
            intro  H locs ls  hP hD hS hl
            refine lv_iconst (v := 1) hx hb dL_hangs_348 (by decide) ?_
            refine lv_goto (tgt := 353) hx hb dL_hangs_349 (by decide) ?_
            refine lv_istore (lv' := [(5, .int 1), (0, .ref d0), (1, .int al), (2, .int le), (3, .int bo), (4, .int nn), (6, .int k6), (7, .int ((sh_X4_cup N k6 1) + (sh_X4_cup N k6 2))), (8, .int (sh_X4_cup N k6 5)), (9, .int (sh_X4_cup N k6 4))]) hx hb dL_hangs_353 hl (by decide) rfl (fun ls hl => ?_)
            refine lv_iload_n hx hb dL_hangs_355 rfl (lv_at hl 2 rfl) ?_
            refine lv_iload hx hb dL_hangs_356 (lv_at hl 7 rfl) ?_
            refine lv_iadd hx hb dL_hangs_358 ?_
            refine lv_istore_n (lv' := [(1, .int (al + ((sh_X4_cup N k6 1) + (sh_X4_cup N k6 2)))), (5, .int 1), (0, .ref d0), (2, .int le), (3, .int bo), (4, .int nn), (6, .int k6), (7, .int ((sh_X4_cup N k6 1) + (sh_X4_cup N k6 2))), (8, .int (sh_X4_cup N k6 5)), (9, .int (sh_X4_cup N k6 4))]) hx hb dL_hangs_359 rfl hl (by decide) rfl (fun ls hl => ?_)
            refine lv_iload_n hx hb dL_hangs_360 rfl (lv_at hl 3 rfl) ?_
            refine lv_aload_n hx hb dL_hangs_361 rfl (lv_at hl 2 rfl) ?_
            refine lv_iload hx hb dL_hangs_362 (lv_at hl 6 rfl) ?_
            refine lv_bipush (v := 6) hx hb dL_hangs_364 (by decide) ?_
            have hPs := k_self hP
            have hDs := k_selfD hD
            refine k_behi (X := []) (Y := []) (va_runV (As := [.int k6, .int 6]) (rest := [.int le]) ⟨hx, hb, hml, hown, hts⟩ (c_X4_cup l D cI cC cQ H.size d0 n0 na s0 sa h1 h2 mm ma t0 p0 pa tk N S oo zz M0 M1 M2 M3 rs de pc pg sg ln po dd lt pl f1s s2s tms k6 6) (kcwV hts wd_ml_RL_56 wd_im_yX4_cup wd_sel_yX4_cup wd_ini_RX4 wd_code_yX4_cup rfl rfl rfl hd_X4_cup ⟨Nat.le_of_ble_eq_true rfl, Nat.le_of_ble_eq_true rfl⟩) ⟨in_blind, va_recv hK (pa_l (pa_r hPs)) (ci := 4) (q0 := 0) rfl rfl, k_pre hK (pa_l (pa_r hPs)) (da_l (da_r hDs)) hN⟩ rfl rfl hl.1 rfl (lv_room (Nat.le_of_ble_eq_true rfl)) dL_hangs_366 ⟨Nat.le_of_ble_eq_true rfl, Nat.le_of_ble_eq_true rfl⟩) hPs hDs hS hA (fun r283 u284 H locs hw285 hP hD hS => ?_)
            have hP := k_unP hP
            have hD := k_unD hD
            have hP : va_P D vwCl (DW cI cC cQ d0 n0 na s0 sa h1 h2 mm ma t0 p0 pa tk N S oo zz M0 M1 M2 M3 rs de pc pg sg ln po dd lt pl f1s s2s tms) H := hP
            have hD : va_D A (DW cI cC cQ d0 n0 na s0 sa h1 h2 mm ma t0 p0 pa tk N S oo zz M0 M1 M2 M3 rs de pc pg sg ln po dd lt pl f1s s2s tms) := hD
            have hw285 : r283 = (sh_X4_cup N k6 6) := hw285
            subst hw285
            refine lv_iadd hx hb dL_hangs_369 ?_
            refine lv_istore_n (lv' := [(2, .int (le + (sh_X4_cup N k6 6))), (1, .int (al + ((sh_X4_cup N k6 1) + (sh_X4_cup N k6 2)))), (5, .int 1), (0, .ref d0), (3, .int bo), (4, .int nn), (6, .int k6), (7, .int ((sh_X4_cup N k6 1) + (sh_X4_cup N k6 2))), (8, .int (sh_X4_cup N k6 5)), (9, .int (sh_X4_cup N k6 4))]) hx hb dL_hangs_370 rfl hl (by decide) rfl (fun ls hl => ?_)
            refine lv_iload_n hx hb dL_hangs_371 rfl (lv_at hl 4 rfl) ?_
            refine lv_aload_n hx hb dL_hangs_372 rfl (lv_at hl 3 rfl) ?_
            refine lv_iload hx hb dL_hangs_373 (lv_at hl 6 rfl) ?_
            refine lv_bipush (v := 7) hx hb dL_hangs_375 (by decide) ?_
            have hPs := k_self hP
            have hDs := k_selfD hD
            refine k_behi (X := []) (Y := []) (va_runV (As := [.int k6, .int 7]) (rest := [.int bo]) ⟨hx, hb, hml, hown, hts⟩ (c_X4_cup l D cI cC cQ H.size d0 n0 na s0 sa h1 h2 mm ma t0 p0 pa tk N S oo zz M0 M1 M2 M3 rs de pc pg sg ln po dd lt pl f1s s2s tms k6 7) (kcwV hts wd_ml_RL_56 wd_im_yX4_cup wd_sel_yX4_cup wd_ini_RX4 wd_code_yX4_cup rfl rfl rfl hd_X4_cup ⟨Nat.le_of_ble_eq_true rfl, Nat.le_of_ble_eq_true rfl⟩) ⟨in_blind, va_recv hK (pa_l (pa_r hPs)) (ci := 4) (q0 := 0) rfl rfl, k_pre hK (pa_l (pa_r hPs)) (da_l (da_r hDs)) hN⟩ rfl rfl hl.1 rfl (lv_room (Nat.le_of_ble_eq_true rfl)) dL_hangs_377 ⟨Nat.le_of_ble_eq_true rfl, Nat.le_of_ble_eq_true rfl⟩) hPs hDs hS hA (fun r286 u287 H locs hw288 hP hD hS => ?_)
            have hP := k_unP hP
            have hD := k_unD hD
            have hP : va_P D vwCl (DW cI cC cQ d0 n0 na s0 sa h1 h2 mm ma t0 p0 pa tk N S oo zz M0 M1 M2 M3 rs de pc pg sg ln po dd lt pl f1s s2s tms) H := hP
            have hD : va_D A (DW cI cC cQ d0 n0 na s0 sa h1 h2 mm ma t0 p0 pa tk N S oo zz M0 M1 M2 M3 rs de pc pg sg ln po dd lt pl f1s s2s tms) := hD
            have hw288 : r286 = (sh_X4_cup N k6 7) := hw288
            subst hw288
            refine lv_ldc hx hb hown (hts _ wd_con_RL_59) dL_hangs_380 ?_
            have K : ∀ (v291 : Int32) (H : Heap) (locs : List Loc) (ls : Array Slot), v291 = (if (sh_X4_cup N k6 7) ≤ 100000 then 0 else 1) → va_P D vwCl (DW cI cC cQ d0 n0 na s0 sa h1 h2 mm ma t0 p0 pa tk N S oo zz M0 M1 M2 M3 rs de pc pg sg ln po dd lt pl f1s s2s tms) H → va_D A (DW cI cC cQ d0 n0 na s0 sa h1 h2 mm ma t0 p0 pa tk N S oo zz M0 M1 M2 M3 rs de pc pg sg ln po dd lt pl f1s s2s tms) → va_S A s.heap H locs → lv_has ls 14 [(0, .ref d0), (1, .int (al + ((sh_X4_cup N k6 1) + (sh_X4_cup N k6 2)))), (2, .int (le + (sh_X4_cup N k6 6))), (3, .int bo), (4, .int nn), (5, .int 1), (6, .int k6), (7, .int ((sh_X4_cup N k6 1) + (sh_X4_cup N k6 2))), (8, .int (sh_X4_cup N k6 5)), (9, .int (sh_X4_cup N k6 4))] → W p l e rm_L_hangs s m args below meth c H locs 0 0 Q (F0 m 390 ls [.int v291, .int bo]) := by
              intro v291 H locs ls hv290 hP hD hS hl
              refine lv_iadd hx hb dL_hangs_390 ?_
              refine lv_istore_n (lv' := [(3, .int (bo + v291)), (0, .ref d0), (1, .int (al + ((sh_X4_cup N k6 1) + (sh_X4_cup N k6 2)))), (2, .int (le + (sh_X4_cup N k6 6))), (4, .int nn), (5, .int 1), (6, .int k6), (7, .int ((sh_X4_cup N k6 1) + (sh_X4_cup N k6 2))), (8, .int (sh_X4_cup N k6 5)), (9, .int (sh_X4_cup N k6 4))]) hx hb dL_hangs_391 rfl hl (by decide) rfl (fun ls hl => ?_)
              refine lv_iload hx hb dL_hangs_392 (lv_at hl 4 rfl) ?_
              refine lv_iload hx hb dL_hangs_394 (lv_at hl 9 rfl) ?_
              refine lv_bipush (v := (-4)) hx hb dL_hangs_396 (by decide) ?_
              have K : ∀ (v294 : Int32) (H : Heap) (locs : List Loc) (ls : Array Slot), v294 = (if (sh_X4_cup N k6 4) = (-4) then 0 else 1) → va_P D vwCl (DW cI cC cQ d0 n0 na s0 sa h1 h2 mm ma t0 p0 pa tk N S oo zz M0 M1 M2 M3 rs de pc pg sg ln po dd lt pl f1s s2s tms) H → va_D A (DW cI cC cQ d0 n0 na s0 sa h1 h2 mm ma t0 p0 pa tk N S oo zz M0 M1 M2 M3 rs de pc pg sg ln po dd lt pl f1s s2s tms) → va_S A s.heap H locs → lv_has ls 14 [(0, .ref d0), (1, .int (al + ((sh_X4_cup N k6 1) + (sh_X4_cup N k6 2)))), (2, .int (le + (sh_X4_cup N k6 6))), (3, .int (bo + v291)), (4, .int nn), (5, .int 1), (6, .int k6), (7, .int ((sh_X4_cup N k6 1) + (sh_X4_cup N k6 2))), (8, .int (sh_X4_cup N k6 5)), (9, .int (sh_X4_cup N k6 4))] → W p l e rm_L_hangs s m args below meth c H locs 0 0 Q (F0 m 406 ls [.int v294, .int nn]) := by
                intro v294 H locs ls hv293 hP hD hS hl
                refine lv_iadd hx hb dL_hangs_406 ?_
                refine lv_istore (lv' := [(4, .int (nn + v294)), (0, .ref d0), (1, .int (al + ((sh_X4_cup N k6 1) + (sh_X4_cup N k6 2)))), (2, .int (le + (sh_X4_cup N k6 6))), (3, .int (bo + v291)), (5, .int 1), (6, .int k6), (7, .int ((sh_X4_cup N k6 1) + (sh_X4_cup N k6 2))), (8, .int (sh_X4_cup N k6 5)), (9, .int (sh_X4_cup N k6 4))]) hx hb dL_hangs_407 hl (by decide) rfl (fun ls hl => ?_)
                refine lv_iconst (v := 1) hx hb dL_hangs_409 (by decide) ?_
                refine lv_istore (lv' := [(10, .int 1), (4, .int (nn + v294)), (0, .ref d0), (1, .int (al + ((sh_X4_cup N k6 1) + (sh_X4_cup N k6 2)))), (2, .int (le + (sh_X4_cup N k6 6))), (3, .int (bo + v291)), (5, .int 1), (6, .int k6), (7, .int ((sh_X4_cup N k6 1) + (sh_X4_cup N k6 2))), (8, .int (sh_X4_cup N k6 5)), (9, .int (sh_X4_cup N k6 4))]) hx hb dL_hangs_410 hl (by decide) rfl (fun ls hl => ?_)
                refine lv_iload hx hb dL_hangs_412 (lv_at hl 0 rfl) ?_
                refine lv_sipush (v := 400) hx hb dL_hangs_414 (by decide) ?_
                refine lv_icmp_ge (tgt := 635) hx hb dL_hangs_417 (by decide) (fun c9 => absurd c9 (by decide)) (fun _ => ?_)
                refine lv_iload hx hb dL_hangs_420 (lv_at hl 6 rfl) ?_
                refine lv_if_eq (tgt := 635) hx hb dL_hangs_422 (by decide) (fun c9 => absurd c9 (by decide)) (fun _ => ?_)
                refine lv_aload_n hx hb dL_hangs_425 rfl (lv_at hl 2 rfl) ?_
                refine lv_iload hx hb dL_hangs_426 (lv_at hl 7 rfl) ?_
                refine lv_iload hx hb dL_hangs_428 (lv_at hl 0 rfl) ?_
                refine lv_iconst (v := 0) hx hb dL_hangs_430 (by decide) ?_
                have hPs := k_self hP
                have hDs := k_selfD hD
                refine k_behi (X := []) (Y := []) (va_runV (As := [.int k6, .int 1, .int 0]) (rest := []) ⟨hx, hb, hml, hown, hts⟩ (c_X4_lasts l D cI cC cQ H.size d0 n0 na s0 sa h1 h2 mm ma t0 p0 pa tk N S oo zz M0 M1 M2 M3 rs de pc pg sg ln po dd lt pl f1s s2s tms k6 1 0) (kcwV hts wd_ml_RL_63 wd_im_yX4_lasts wd_sel_yX4_lasts wd_ini_RX4 wd_code_yX4_lasts rfl rfl rfl hd_X4_lasts ⟨Nat.le_of_ble_eq_true rfl, Nat.le_of_ble_eq_true rfl⟩) ⟨in_blind, va_recv hK (pa_l (pa_r hPs)) (ci := 4) (q0 := 0) rfl rfl, k_pre hK (pa_l (pa_r hPs)) (da_l (da_r hDs)) hN⟩ rfl rfl hl.1 rfl (lv_room (Nat.le_of_ble_eq_true rfl)) dL_hangs_431 ⟨Nat.le_of_ble_eq_true rfl, Nat.le_of_ble_eq_true rfl⟩) hPs hDs hS hA (fun r295 u296 H locs hw297 hP hD hS => ?_)
                have hP := k_unP hP
                have hD := k_unD hD
                have hP : va_P D vwCl (DW cI cC cQ d0 n0 na s0 sa h1 h2 mm ma t0 p0 pa tk N S oo zz M0 M1 M2 M3 rs de pc pg sg ln po dd lt pl f1s s2s tms) H := hP
                have hD : va_D A (DW cI cC cQ d0 n0 na s0 sa h1 h2 mm ma t0 p0 pa tk N S oo zz M0 M1 M2 M3 rs de pc pg sg ln po dd lt pl f1s s2s tms) := hD
                have hw297 : r295 = (sh_X4_lasts N k6 1 0) := hw297
                subst hw297
                refine lv_istore (lv' := [(11, .int (sh_X4_lasts N k6 1 0)), (10, .int 1), (4, .int (nn + v294)), (0, .ref d0), (1, .int (al + ((sh_X4_cup N k6 1) + (sh_X4_cup N k6 2)))), (2, .int (le + (sh_X4_cup N k6 6))), (3, .int (bo + v291)), (5, .int 1), (6, .int k6), (7, .int ((sh_X4_cup N k6 1) + (sh_X4_cup N k6 2))), (8, .int (sh_X4_cup N k6 5)), (9, .int (sh_X4_cup N k6 4))]) hx hb dL_hangs_434 hl (by decide) rfl (fun ls hl => ?_)
                refine lv_aload_n hx hb dL_hangs_436 rfl (lv_at hl 3 rfl) ?_
                refine lv_iload hx hb dL_hangs_437 (lv_at hl 8 rfl) ?_
                refine lv_iload hx hb dL_hangs_439 (lv_at hl 1 rfl) ?_
                refine lv_iconst (v := 1) hx hb dL_hangs_441 (by decide) ?_
                have hPs := k_self hP
                have hDs := k_selfD hD
                refine k_behi (X := []) (Y := []) (va_runV (As := [.int k6, .int 1, .int 1]) (rest := []) ⟨hx, hb, hml, hown, hts⟩ (c_X4_lasts l D cI cC cQ H.size d0 n0 na s0 sa h1 h2 mm ma t0 p0 pa tk N S oo zz M0 M1 M2 M3 rs de pc pg sg ln po dd lt pl f1s s2s tms k6 1 1) (kcwV hts wd_ml_RL_63 wd_im_yX4_lasts wd_sel_yX4_lasts wd_ini_RX4 wd_code_yX4_lasts rfl rfl rfl hd_X4_lasts ⟨Nat.le_of_ble_eq_true rfl, Nat.le_of_ble_eq_true rfl⟩) ⟨in_blind, va_recv hK (pa_l (pa_r hPs)) (ci := 4) (q0 := 0) rfl rfl, k_pre hK (pa_l (pa_r hPs)) (da_l (da_r hDs)) hN⟩ rfl rfl hl.1 rfl (lv_room (Nat.le_of_ble_eq_true rfl)) dL_hangs_442 ⟨Nat.le_of_ble_eq_true rfl, Nat.le_of_ble_eq_true rfl⟩) hPs hDs hS hA (fun r298 u299 H locs hw300 hP hD hS => ?_)
                have hP := k_unP hP
                have hD := k_unD hD
                have hP : va_P D vwCl (DW cI cC cQ d0 n0 na s0 sa h1 h2 mm ma t0 p0 pa tk N S oo zz M0 M1 M2 M3 rs de pc pg sg ln po dd lt pl f1s s2s tms) H := hP
                have hD : va_D A (DW cI cC cQ d0 n0 na s0 sa h1 h2 mm ma t0 p0 pa tk N S oo zz M0 M1 M2 M3 rs de pc pg sg ln po dd lt pl f1s s2s tms) := hD
                have hw300 : r298 = (sh_X4_lasts N k6 1 1) := hw300
                subst hw300
                refine lv_istore (lv' := [(12, .int (sh_X4_lasts N k6 1 1)), (11, .int (sh_X4_lasts N k6 1 0)), (10, .int 1), (4, .int (nn + v294)), (0, .ref d0), (1, .int (al + ((sh_X4_cup N k6 1) + (sh_X4_cup N k6 2)))), (2, .int (le + (sh_X4_cup N k6 6))), (3, .int (bo + v291)), (5, .int 1), (6, .int k6), (7, .int ((sh_X4_cup N k6 1) + (sh_X4_cup N k6 2))), (8, .int (sh_X4_cup N k6 5)), (9, .int (sh_X4_cup N k6 4))]) hx hb dL_hangs_445 hl (by decide) rfl (fun ls hl => ?_)
                refine lv_aload_n hx hb dL_hangs_447 rfl (lv_at hl 4 rfl) ?_
                refine lv_iload hx hb dL_hangs_448 (lv_at hl 9 rfl) ?_
                refine lv_iload hx hb dL_hangs_450 (lv_at hl 2 rfl) ?_
                refine lv_bipush (v := 20) hx hb dL_hangs_452 (by decide) ?_
                have hPs := k_self hP
                have hDs := k_selfD hD
                refine k_behi (X := []) (Y := []) (va_runV (As := [.int k6, .int 1, .int 20]) (rest := []) ⟨hx, hb, hml, hown, hts⟩ (c_X4_darkest l D cI cC cQ H.size d0 n0 na s0 sa h1 h2 mm ma t0 p0 pa tk N S oo zz M0 M1 M2 M3 rs de pc pg sg ln po dd lt pl f1s s2s tms k6 1 20) (kcwV hts wd_ml_RL_67 wd_im_yX4_darkest wd_sel_yX4_darkest wd_ini_RX4 wd_code_yX4_darkest rfl rfl rfl hd_X4_darkest ⟨Nat.le_of_ble_eq_true rfl, Nat.le_of_ble_eq_true rfl⟩) ⟨in_blind, va_recv hK (pa_l (pa_r hPs)) (ci := 4) (q0 := 0) rfl rfl, k_pre hK (pa_l (pa_r hPs)) (da_l (da_r hDs)) hN⟩ rfl rfl hl.1 rfl (lv_room (Nat.le_of_ble_eq_true rfl)) dL_hangs_454 ⟨Nat.le_of_ble_eq_true rfl, Nat.le_of_ble_eq_true rfl⟩) hPs hDs hS hA (fun r301 u302 H locs hw303 hP hD hS => ?_)
                have hP := k_unP hP
                have hD := k_unD hD
                have hP : va_P D vwCl (DW cI cC cQ d0 n0 na s0 sa h1 h2 mm ma t0 p0 pa tk N S oo zz M0 M1 M2 M3 rs de pc pg sg ln po dd lt pl f1s s2s tms) H := hP
                have hD : va_D A (DW cI cC cQ d0 n0 na s0 sa h1 h2 mm ma t0 p0 pa tk N S oo zz M0 M1 M2 M3 rs de pc pg sg ln po dd lt pl f1s s2s tms) := hD
                have hw303 : r301 = (sh_X4_darkest N k6 1 20) := hw303
                subst hw303
                refine lv_istore (lv' := [(13, .int (sh_X4_darkest N k6 1 20)), (12, .int (sh_X4_lasts N k6 1 1)), (11, .int (sh_X4_lasts N k6 1 0)), (10, .int 1), (4, .int (nn + v294)), (0, .ref d0), (1, .int (al + ((sh_X4_cup N k6 1) + (sh_X4_cup N k6 2)))), (2, .int (le + (sh_X4_cup N k6 6))), (3, .int (bo + v291)), (5, .int 1), (6, .int k6), (7, .int ((sh_X4_cup N k6 1) + (sh_X4_cup N k6 2))), (8, .int (sh_X4_cup N k6 5)), (9, .int (sh_X4_cup N k6 4))]) hx hb dL_hangs_457 hl (by decide) rfl (fun ls hl => ?_)
                refine lv_iload hx hb dL_hangs_459 (lv_at hl 2 rfl) ?_
                refine lv_if_lt (tgt := 623) hx hb dL_hangs_461 (by decide) (fun c9 => absurd c9 (hg_461 (hgI_in hI c25) ⟨by decide, by decide⟩)) (fun _ => ?_)
                refine lv_iload hx hb dL_hangs_464 (lv_at hl 1 rfl) ?_
                refine lv_iload hx hb dL_hangs_466 (lv_at hl 2 rfl) ?_
                refine lv_icmp_lt (tgt := 623) hx hb dL_hangs_468 (by decide) (fun c9 => absurd c9 (hg_468 (hgI_in hI c25) ⟨by decide, by decide⟩)) (fun _ => ?_)
                refine lv_iload hx hb dL_hangs_471 (lv_at hl 1 rfl) ?_
                refine lv_sipush (v := 999) hx hb dL_hangs_473 (by decide) ?_
                refine lv_icmp_gt (tgt := 623) hx hb dL_hangs_476 (by decide) (fun c9 => absurd c9 (hg_476 (hgI_in hI c25) ⟨by decide, by decide⟩)) (fun _ => ?_)
                refine lv_aload_n hx hb dL_hangs_479 rfl (lv_at hl 5 rfl) ?_
                refine lv_iload hx hb dL_hangs_480 (lv_at hl 10 rfl) ?_
                refine lv_iload hx hb dL_hangs_482 (lv_at hl 3 rfl) ?_
                refine lv_bipush (v := 50) hx hb dL_hangs_484 (by decide) ?_
                refine lv_iconst (v := 0) hx hb dL_hangs_486 (by decide) ?_
                have hPs := k_self hP
                have hDs := k_selfD hD
                refine k_behi (X := []) (Y := []) (va_runV (As := [.int k6, .int 1, .int 50, .int 0]) (rest := []) ⟨hx, hb, hml, hown, hts⟩ (c_X4_atHand l D cI cC cQ H.size d0 n0 na s0 sa h1 h2 mm ma t0 p0 pa tk N S oo zz M0 M1 M2 M3 rs de pc pg sg ln po dd lt pl f1s s2s tms k6 1 50 0) (kcwV hts wd_ml_RL_71 wd_im_yX4_atHand wd_sel_yX4_atHand wd_ini_RX4 wd_code_yX4_atHand rfl rfl rfl hd_X4_atHand ⟨Nat.le_of_ble_eq_true rfl, Nat.le_of_ble_eq_true rfl⟩) ⟨in_blind, va_recv hK (pa_l (pa_r hPs)) (ci := 4) (q0 := 0) rfl rfl, k_pre hK (pa_l (pa_r hPs)) (da_l (da_r hDs)) hN⟩ rfl rfl hl.1 rfl (lv_room (Nat.le_of_ble_eq_true rfl)) dL_hangs_487 ⟨Nat.le_of_ble_eq_true rfl, Nat.le_of_ble_eq_true rfl⟩) hPs hDs hS hA (fun r304 u305 H locs hw306 hP hD hS => ?_)
                have hP := k_unP hP
                have hD := k_unD hD
                have hP : va_P D vwCl (DW cI cC cQ d0 n0 na s0 sa h1 h2 mm ma t0 p0 pa tk N S oo zz M0 M1 M2 M3 rs de pc pg sg ln po dd lt pl f1s s2s tms) H := hP
                have hD : va_D A (DW cI cC cQ d0 n0 na s0 sa h1 h2 mm ma t0 p0 pa tk N S oo zz M0 M1 M2 M3 rs de pc pg sg ln po dd lt pl f1s s2s tms) := hD
                have hw306 : r304 = (sh_X4_atHand N k6 1 50 0) := hw306
                subst hw306
                have K : ∀ (v309 : Int32) (H : Heap) (locs : List Loc) (ls : Array Slot), v309 = (if (sh_X4_atHand N k6 1 50 0) < 0 then 0 else 1) → va_P D vwCl (DW cI cC cQ d0 n0 na s0 sa h1 h2 mm ma t0 p0 pa tk N S oo zz M0 M1 M2 M3 rs de pc pg sg ln po dd lt pl f1s s2s tms) H → va_D A (DW cI cC cQ d0 n0 na s0 sa h1 h2 mm ma t0 p0 pa tk N S oo zz M0 M1 M2 M3 rs de pc pg sg ln po dd lt pl f1s s2s tms) → va_S A s.heap H locs → lv_has ls 14 [(0, .ref d0), (1, .int (al + ((sh_X4_cup N k6 1) + (sh_X4_cup N k6 2)))), (2, .int (le + (sh_X4_cup N k6 6))), (3, .int (bo + v291)), (4, .int (nn + v294)), (5, .int 1), (6, .int k6), (7, .int ((sh_X4_cup N k6 1) + (sh_X4_cup N k6 2))), (8, .int (sh_X4_cup N k6 5)), (9, .int (sh_X4_cup N k6 4)), (10, .int 1), (11, .int (sh_X4_lasts N k6 1 0)), (12, .int (sh_X4_lasts N k6 1 1)), (13, .int (sh_X4_darkest N k6 1 20))] → W p l e rm_L_hangs s m args below meth c H locs 0 0 Q (F0 m 498 ls [.int v309]) := by
                  intro v309 H locs ls hv308 hP hD hS hl
                  refine lv_iload hx hb dL_hangs_498 (lv_at hl 11 rfl) ?_
                  refine lv_bipush (v := 50) hx hb dL_hangs_500 (by decide) ?_
                  have K : ∀ (v312 : Int32) (H : Heap) (locs : List Loc) (ls : Array Slot), v312 = (if (sh_X4_lasts N k6 1 0) < 50 then 0 else 1) → va_P D vwCl (DW cI cC cQ d0 n0 na s0 sa h1 h2 mm ma t0 p0 pa tk N S oo zz M0 M1 M2 M3 rs de pc pg sg ln po dd lt pl f1s s2s tms) H → va_D A (DW cI cC cQ d0 n0 na s0 sa h1 h2 mm ma t0 p0 pa tk N S oo zz M0 M1 M2 M3 rs de pc pg sg ln po dd lt pl f1s s2s tms) → va_S A s.heap H locs → lv_has ls 14 [(0, .ref d0), (1, .int (al + ((sh_X4_cup N k6 1) + (sh_X4_cup N k6 2)))), (2, .int (le + (sh_X4_cup N k6 6))), (3, .int (bo + v291)), (4, .int (nn + v294)), (5, .int 1), (6, .int k6), (7, .int ((sh_X4_cup N k6 1) + (sh_X4_cup N k6 2))), (8, .int (sh_X4_cup N k6 5)), (9, .int (sh_X4_cup N k6 4)), (10, .int 1), (11, .int (sh_X4_lasts N k6 1 0)), (12, .int (sh_X4_lasts N k6 1 1)), (13, .int (sh_X4_darkest N k6 1 20))] → W p l e rm_L_hangs s m args below meth c H locs 0 0 Q (F0 m 510 ls [.int v312, .int v309]) := by
                    intro v312 H locs ls hv311 hP hD hS hl
                    refine lv_icmp_ne (tgt := 623) hx hb dL_hangs_510 (by decide) (fun c9 => absurd (hg_510 g (hgI_in hI c25) ⟨by decide, by decide⟩ hv308 hv311) c9) (fun _ => ?_)
                    refine lv_aload_n hx hb dL_hangs_513 rfl (lv_at hl 0 rfl) ?_
                    refine lv_iload hx hb dL_hangs_514 (lv_at hl 6 rfl) ?_
                    refine lv_iload hx hb dL_hangs_516 (lv_at hl 10 rfl) ?_
                    refine lv_bipush (v := 7) hx hb dL_hangs_518 (by decide) ?_
                    refine lv_iconst (v := 0) hx hb dL_hangs_520 (by decide) ?_
                    have hPs := k_self hP
                    have hDs := k_selfD hD
                    refine k_behi (X := []) (Y := []) (va_runV (As := [.int k6, .int 1, .int 7, .int 0]) (rest := []) ⟨hx, hb, hml, hown, hts⟩ (c_X4_atHand l D cI cC cQ H.size d0 n0 na s0 sa h1 h2 mm ma t0 p0 pa tk N S oo zz M0 M1 M2 M3 rs de pc pg sg ln po dd lt pl f1s s2s tms k6 1 7 0) (kcwV hts wd_ml_RL_71 wd_im_yX4_atHand wd_sel_yX4_atHand wd_ini_RX4 wd_code_yX4_atHand rfl rfl rfl hd_X4_atHand ⟨Nat.le_of_ble_eq_true rfl, Nat.le_of_ble_eq_true rfl⟩) ⟨in_blind, va_recv hK (pa_l (pa_r hPs)) (ci := 4) (q0 := 0) rfl rfl, k_pre hK (pa_l (pa_r hPs)) (da_l (da_r hDs)) hN⟩ rfl rfl hl.1 rfl (lv_room (Nat.le_of_ble_eq_true rfl)) dL_hangs_521 ⟨Nat.le_of_ble_eq_true rfl, Nat.le_of_ble_eq_true rfl⟩) hPs hDs hS hA (fun r313 u314 H locs hw315 hP hD hS => ?_)
                    have hP := k_unP hP
                    have hD := k_unD hD
                    have hP : va_P D vwCl (DW cI cC cQ d0 n0 na s0 sa h1 h2 mm ma t0 p0 pa tk N S oo zz M0 M1 M2 M3 rs de pc pg sg ln po dd lt pl f1s s2s tms) H := hP
                    have hD : va_D A (DW cI cC cQ d0 n0 na s0 sa h1 h2 mm ma t0 p0 pa tk N S oo zz M0 M1 M2 M3 rs de pc pg sg ln po dd lt pl f1s s2s tms) := hD
                    have hw315 : r313 = (sh_X4_atHand N k6 1 7 0) := hw315
                    subst hw315
                    refine lv_aload_n hx hb dL_hangs_524 rfl (lv_at hl 0 rfl) ?_
                    refine lv_iload hx hb dL_hangs_525 (lv_at hl 6 rfl) ?_
                    refine lv_iload hx hb dL_hangs_527 (lv_at hl 10 rfl) ?_
                    refine lv_bipush (v := 7) hx hb dL_hangs_529 (by decide) ?_
                    refine lv_iconst (v := 1) hx hb dL_hangs_531 (by decide) ?_
                    have hPs := k_self hP
                    have hDs := k_selfD hD
                    refine k_behi (X := []) (Y := []) (va_runV (As := [.int k6, .int 1, .int 7, .int 1]) (rest := [.int (sh_X4_atHand N k6 1 7 0)]) ⟨hx, hb, hml, hown, hts⟩ (c_X4_atHand l D cI cC cQ H.size d0 n0 na s0 sa h1 h2 mm ma t0 p0 pa tk N S oo zz M0 M1 M2 M3 rs de pc pg sg ln po dd lt pl f1s s2s tms k6 1 7 1) (kcwV hts wd_ml_RL_71 wd_im_yX4_atHand wd_sel_yX4_atHand wd_ini_RX4 wd_code_yX4_atHand rfl rfl rfl hd_X4_atHand ⟨Nat.le_of_ble_eq_true rfl, Nat.le_of_ble_eq_true rfl⟩) ⟨in_blind, va_recv hK (pa_l (pa_r hPs)) (ci := 4) (q0 := 0) rfl rfl, k_pre hK (pa_l (pa_r hPs)) (da_l (da_r hDs)) hN⟩ rfl rfl hl.1 rfl (lv_room (Nat.le_of_ble_eq_true rfl)) dL_hangs_532 ⟨Nat.le_of_ble_eq_true rfl, Nat.le_of_ble_eq_true rfl⟩) hPs hDs hS hA (fun r316 u317 H locs hw318 hP hD hS => ?_)
                    have hP := k_unP hP
                    have hD := k_unD hD
                    have hP : va_P D vwCl (DW cI cC cQ d0 n0 na s0 sa h1 h2 mm ma t0 p0 pa tk N S oo zz M0 M1 M2 M3 rs de pc pg sg ln po dd lt pl f1s s2s tms) H := hP
                    have hD : va_D A (DW cI cC cQ d0 n0 na s0 sa h1 h2 mm ma t0 p0 pa tk N S oo zz M0 M1 M2 M3 rs de pc pg sg ln po dd lt pl f1s s2s tms) := hD
                    have hw318 : r316 = (sh_X4_atHand N k6 1 7 1) := hw318
                    subst hw318
                    refine lv_icmp_ne (tgt := 623) hx hb dL_hangs_535 (by decide) (fun c9 => absurd (hg_535 (hgI_in hI c25) ⟨by decide, by decide⟩) c9) (fun _ => ?_)
                    refine lv_aload_n hx hb dL_hangs_538 rfl (lv_at hl 0 rfl) ?_
                    refine lv_iload hx hb dL_hangs_539 (lv_at hl 6 rfl) ?_
                    refine lv_iload hx hb dL_hangs_541 (lv_at hl 10 rfl) ?_
                    refine lv_iconst (v := 0) hx hb dL_hangs_543 (by decide) ?_
                    refine lv_iconst (v := 1) hx hb dL_hangs_544 (by decide) ?_
                    have hPs := k_self hP
                    have hDs := k_selfD hD
                    refine k_behi (X := []) (Y := []) (va_runV (As := [.int k6, .int 1, .int 0, .int 1]) (rest := []) ⟨hx, hb, hml, hown, hts⟩ (c_X4_atHand l D cI cC cQ H.size d0 n0 na s0 sa h1 h2 mm ma t0 p0 pa tk N S oo zz M0 M1 M2 M3 rs de pc pg sg ln po dd lt pl f1s s2s tms k6 1 0 1) (kcwV hts wd_ml_RL_71 wd_im_yX4_atHand wd_sel_yX4_atHand wd_ini_RX4 wd_code_yX4_atHand rfl rfl rfl hd_X4_atHand ⟨Nat.le_of_ble_eq_true rfl, Nat.le_of_ble_eq_true rfl⟩) ⟨in_blind, va_recv hK (pa_l (pa_r hPs)) (ci := 4) (q0 := 0) rfl rfl, k_pre hK (pa_l (pa_r hPs)) (da_l (da_r hDs)) hN⟩ rfl rfl hl.1 rfl (lv_room (Nat.le_of_ble_eq_true rfl)) dL_hangs_545 ⟨Nat.le_of_ble_eq_true rfl, Nat.le_of_ble_eq_true rfl⟩) hPs hDs hS hA (fun r319 u320 H locs hw321 hP hD hS => ?_)
                    have hP := k_unP hP
                    have hD := k_unD hD
                    have hP : va_P D vwCl (DW cI cC cQ d0 n0 na s0 sa h1 h2 mm ma t0 p0 pa tk N S oo zz M0 M1 M2 M3 rs de pc pg sg ln po dd lt pl f1s s2s tms) H := hP
                    have hD : va_D A (DW cI cC cQ d0 n0 na s0 sa h1 h2 mm ma t0 p0 pa tk N S oo zz M0 M1 M2 M3 rs de pc pg sg ln po dd lt pl f1s s2s tms) := hD
                    have hw321 : r319 = (sh_X4_atHand N k6 1 0 1) := hw321
                    subst hw321
                    refine lv_aload_n hx hb dL_hangs_548 rfl (lv_at hl 0 rfl) ?_
                    refine lv_iload hx hb dL_hangs_549 (lv_at hl 6 rfl) ?_
                    refine lv_iconst (v := 1) hx hb dL_hangs_551 (by decide) ?_
                    have hPs := k_self hP
                    have hDs := k_selfD hD
                    refine k_behi (X := []) (Y := []) (va_runV (As := [.int k6, .int 1]) (rest := [.int (sh_X4_atHand N k6 1 0 1)]) ⟨hx, hb, hml, hown, hts⟩ (c_X4_cup l D cI cC cQ H.size d0 n0 na s0 sa h1 h2 mm ma t0 p0 pa tk N S oo zz M0 M1 M2 M3 rs de pc pg sg ln po dd lt pl f1s s2s tms k6 1) (kcwV hts wd_ml_RL_56 wd_im_yX4_cup wd_sel_yX4_cup wd_ini_RX4 wd_code_yX4_cup rfl rfl rfl hd_X4_cup ⟨Nat.le_of_ble_eq_true rfl, Nat.le_of_ble_eq_true rfl⟩) ⟨in_blind, va_recv hK (pa_l (pa_r hPs)) (ci := 4) (q0 := 0) rfl rfl, k_pre hK (pa_l (pa_r hPs)) (da_l (da_r hDs)) hN⟩ rfl rfl hl.1 rfl (lv_room (Nat.le_of_ble_eq_true rfl)) dL_hangs_552 ⟨Nat.le_of_ble_eq_true rfl, Nat.le_of_ble_eq_true rfl⟩) hPs hDs hS hA (fun r322 u323 H locs hw324 hP hD hS => ?_)
                    have hP := k_unP hP
                    have hD := k_unD hD
                    have hP : va_P D vwCl (DW cI cC cQ d0 n0 na s0 sa h1 h2 mm ma t0 p0 pa tk N S oo zz M0 M1 M2 M3 rs de pc pg sg ln po dd lt pl f1s s2s tms) H := hP
                    have hD : va_D A (DW cI cC cQ d0 n0 na s0 sa h1 h2 mm ma t0 p0 pa tk N S oo zz M0 M1 M2 M3 rs de pc pg sg ln po dd lt pl f1s s2s tms) := hD
                    have hw324 : r322 = (sh_X4_cup N k6 1) := hw324
                    subst hw324
                    refine lv_icmp_ne (tgt := 623) hx hb dL_hangs_555 (by decide) (fun c9 => absurd (hg_555 (hgI_in hI c25) ⟨by decide, by decide⟩) c9) (fun _ => ?_)
                    refine lv_iload hx hb dL_hangs_558 (lv_at hl 13 rfl) ?_
                    refine lv_bipush (v := (-4)) hx hb dL_hangs_560 (by decide) ?_
                    have K : ∀  (H : Heap) (locs : List Loc) (ls : Array Slot), va_P D vwCl (DW cI cC cQ d0 n0 na s0 sa h1 h2 mm ma t0 p0 pa tk N S oo zz M0 M1 M2 M3 rs de pc pg sg ln po dd lt pl f1s s2s tms) H → va_D A (DW cI cC cQ d0 n0 na s0 sa h1 h2 mm ma t0 p0 pa tk N S oo zz M0 M1 M2 M3 rs de pc pg sg ln po dd lt pl f1s s2s tms) → va_S A s.heap H locs → lv_has ls 14 [(0, .ref d0), (1, .int (al + ((sh_X4_cup N k6 1) + (sh_X4_cup N k6 2)))), (2, .int (le + (sh_X4_cup N k6 6))), (3, .int (bo + v291)), (4, .int (nn + v294)), (5, .int 1), (6, .int k6), (7, .int ((sh_X4_cup N k6 1) + (sh_X4_cup N k6 2))), (8, .int (sh_X4_cup N k6 5)), (9, .int (sh_X4_cup N k6 4)), (10, .int 1), (11, .int (sh_X4_lasts N k6 1 0)), (12, .int (sh_X4_lasts N k6 1 1)), (13, .int (sh_X4_darkest N k6 1 20))] → W p l e rm_L_hangs s m args below meth c H locs 0 0 Q (F0 m 577 ls []) := by
                      intro  H locs ls  hP hD hS hl
                      refine lv_iload hx hb dL_hangs_577 (lv_at hl 12 rfl) ?_
                      refine lv_bipush (v := 20) hx hb dL_hangs_579 (by decide) ?_
                      have K : ∀  (H : Heap) (locs : List Loc) (ls : Array Slot), va_P D vwCl (DW cI cC cQ d0 n0 na s0 sa h1 h2 mm ma t0 p0 pa tk N S oo zz M0 M1 M2 M3 rs de pc pg sg ln po dd lt pl f1s s2s tms) H → va_D A (DW cI cC cQ d0 n0 na s0 sa h1 h2 mm ma t0 p0 pa tk N S oo zz M0 M1 M2 M3 rs de pc pg sg ln po dd lt pl f1s s2s tms) → va_S A s.heap H locs → lv_has ls 14 [(0, .ref d0), (1, .int (al + ((sh_X4_cup N k6 1) + (sh_X4_cup N k6 2)))), (2, .int (le + (sh_X4_cup N k6 6))), (3, .int (bo + v291)), (4, .int (nn + v294)), (5, .int 1), (6, .int k6), (7, .int ((sh_X4_cup N k6 1) + (sh_X4_cup N k6 2))), (8, .int (sh_X4_cup N k6 5)), (9, .int (sh_X4_cup N k6 4)), (10, .int 1), (11, .int (sh_X4_lasts N k6 1 0)), (12, .int (sh_X4_lasts N k6 1 1)), (13, .int (sh_X4_darkest N k6 1 20))] → W p l e rm_L_hangs s m args below meth c H locs 0 0 Q (F0 m 595 ls []) := by
                        intro  H locs ls  hP hD hS hl
                        refine lv_iload hx hb dL_hangs_595 (lv_at hl 11 rfl) ?_
                        have K : ∀  (H : Heap) (locs : List Loc) (ls : Array Slot), va_P D vwCl (DW cI cC cQ d0 n0 na s0 sa h1 h2 mm ma t0 p0 pa tk N S oo zz M0 M1 M2 M3 rs de pc pg sg ln po dd lt pl f1s s2s tms) H → va_D A (DW cI cC cQ d0 n0 na s0 sa h1 h2 mm ma t0 p0 pa tk N S oo zz M0 M1 M2 M3 rs de pc pg sg ln po dd lt pl f1s s2s tms) → va_S A s.heap H locs → lv_has ls 14 [(0, .ref d0), (1, .int (al + ((sh_X4_cup N k6 1) + (sh_X4_cup N k6 2)))), (2, .int (le + (sh_X4_cup N k6 6))), (3, .int (bo + v291)), (4, .int (nn + v294)), (5, .int 1), (6, .int k6), (7, .int ((sh_X4_cup N k6 1) + (sh_X4_cup N k6 2))), (8, .int (sh_X4_cup N k6 5)), (9, .int (sh_X4_cup N k6 4)), (10, .int 1), (11, .int (sh_X4_lasts N k6 1 0)), (12, .int (sh_X4_lasts N k6 1 1)), (13, .int (sh_X4_darkest N k6 1 20))] → W p l e rm_L_hangs s m args below meth c H locs 0 0 Q (F0 m 619 ls []) := by
                          intro  H locs ls  hP hD hS hl
                          refine lv_iconst (v := 1) hx hb dL_hangs_619 (by decide) ?_
                          refine lv_goto (tgt := 624) hx hb dL_hangs_620 (by decide) ?_
                          refine lv_istore (lv' := [(5, .int 1), (0, .ref d0), (1, .int (al + ((sh_X4_cup N k6 1) + (sh_X4_cup N k6 2)))), (2, .int (le + (sh_X4_cup N k6 6))), (3, .int (bo + v291)), (4, .int (nn + v294)), (6, .int k6), (7, .int ((sh_X4_cup N k6 1) + (sh_X4_cup N k6 2))), (8, .int (sh_X4_cup N k6 5)), (9, .int (sh_X4_cup N k6 4)), (10, .int 1), (11, .int (sh_X4_lasts N k6 1 0)), (12, .int (sh_X4_lasts N k6 1 1)), (13, .int (sh_X4_darkest N k6 1 20))]) hx hb dL_hangs_624 hl (by decide) rfl (fun ls hl => ?_)
                          refine lv_iincW (v := 134) (lv' := [(10, .int 134), (5, .int 1), (0, .ref d0), (1, .int (al + ((sh_X4_cup N k6 1) + (sh_X4_cup N k6 2)))), (2, .int (le + (sh_X4_cup N k6 6))), (3, .int (bo + v291)), (4, .int (nn + v294)), (6, .int k6), (7, .int ((sh_X4_cup N k6 1) + (sh_X4_cup N k6 2))), (8, .int (sh_X4_cup N k6 5)), (9, .int (sh_X4_cup N k6 4)), (11, .int (sh_X4_lasts N k6 1 0)), (12, .int (sh_X4_lasts N k6 1 1)), (13, .int (sh_X4_darkest N k6 1 20))]) hx hb dL_hangs_626 hl (k := 10) rfl (by decide) (by decide) rfl (fun ls hl => ?_)
                          refine lv_goto (tgt := 412) hx hb dL_hangs_632 (by decide) ?_
                          refine lv_iload hx hb dL_hangs_412 (lv_at hl 0 rfl) ?_
                          refine lv_sipush (v := 400) hx hb dL_hangs_414 (by decide) ?_
                          refine lv_icmp_ge (tgt := 635) hx hb dL_hangs_417 (by decide) (fun c9 => absurd c9 (by decide)) (fun _ => ?_)
                          refine lv_iload hx hb dL_hangs_420 (lv_at hl 1 rfl) ?_
                          refine lv_if_eq (tgt := 635) hx hb dL_hangs_422 (by decide) (fun c9 => absurd c9 (by decide)) (fun _ => ?_)
                          refine lv_aload_n hx hb dL_hangs_425 rfl (lv_at hl 2 rfl) ?_
                          refine lv_iload hx hb dL_hangs_426 (lv_at hl 7 rfl) ?_
                          refine lv_iload hx hb dL_hangs_428 (lv_at hl 0 rfl) ?_
                          refine lv_iconst (v := 0) hx hb dL_hangs_430 (by decide) ?_
                          have hPs := k_self hP
                          have hDs := k_selfD hD
                          refine k_behi (X := []) (Y := []) (va_runV (As := [.int k6, .int 134, .int 0]) (rest := []) ⟨hx, hb, hml, hown, hts⟩ (c_X4_lasts l D cI cC cQ H.size d0 n0 na s0 sa h1 h2 mm ma t0 p0 pa tk N S oo zz M0 M1 M2 M3 rs de pc pg sg ln po dd lt pl f1s s2s tms k6 134 0) (kcwV hts wd_ml_RL_63 wd_im_yX4_lasts wd_sel_yX4_lasts wd_ini_RX4 wd_code_yX4_lasts rfl rfl rfl hd_X4_lasts ⟨Nat.le_of_ble_eq_true rfl, Nat.le_of_ble_eq_true rfl⟩) ⟨in_blind, va_recv hK (pa_l (pa_r hPs)) (ci := 4) (q0 := 0) rfl rfl, k_pre hK (pa_l (pa_r hPs)) (da_l (da_r hDs)) hN⟩ rfl rfl hl.1 rfl (lv_room (Nat.le_of_ble_eq_true rfl)) dL_hangs_431 ⟨Nat.le_of_ble_eq_true rfl, Nat.le_of_ble_eq_true rfl⟩) hPs hDs hS hA (fun r340 u341 H locs hw342 hP hD hS => ?_)
                          have hP := k_unP hP
                          have hD := k_unD hD
                          have hP : va_P D vwCl (DW cI cC cQ d0 n0 na s0 sa h1 h2 mm ma t0 p0 pa tk N S oo zz M0 M1 M2 M3 rs de pc pg sg ln po dd lt pl f1s s2s tms) H := hP
                          have hD : va_D A (DW cI cC cQ d0 n0 na s0 sa h1 h2 mm ma t0 p0 pa tk N S oo zz M0 M1 M2 M3 rs de pc pg sg ln po dd lt pl f1s s2s tms) := hD
                          have hw342 : r340 = (sh_X4_lasts N k6 134 0) := hw342
                          subst hw342
                          refine lv_istore (lv' := [(11, .int (sh_X4_lasts N k6 134 0)), (10, .int 134), (5, .int 1), (0, .ref d0), (1, .int (al + ((sh_X4_cup N k6 1) + (sh_X4_cup N k6 2)))), (2, .int (le + (sh_X4_cup N k6 6))), (3, .int (bo + v291)), (4, .int (nn + v294)), (6, .int k6), (7, .int ((sh_X4_cup N k6 1) + (sh_X4_cup N k6 2))), (8, .int (sh_X4_cup N k6 5)), (9, .int (sh_X4_cup N k6 4)), (12, .int (sh_X4_lasts N k6 1 1)), (13, .int (sh_X4_darkest N k6 1 20))]) hx hb dL_hangs_434 hl (by decide) rfl (fun ls hl => ?_)
                          refine lv_aload_n hx hb dL_hangs_436 rfl (lv_at hl 3 rfl) ?_
                          refine lv_iload hx hb dL_hangs_437 (lv_at hl 8 rfl) ?_
                          refine lv_iload hx hb dL_hangs_439 (lv_at hl 1 rfl) ?_
                          refine lv_iconst (v := 1) hx hb dL_hangs_441 (by decide) ?_
                          have hPs := k_self hP
                          have hDs := k_selfD hD
                          refine k_behi (X := []) (Y := []) (va_runV (As := [.int k6, .int 134, .int 1]) (rest := []) ⟨hx, hb, hml, hown, hts⟩ (c_X4_lasts l D cI cC cQ H.size d0 n0 na s0 sa h1 h2 mm ma t0 p0 pa tk N S oo zz M0 M1 M2 M3 rs de pc pg sg ln po dd lt pl f1s s2s tms k6 134 1) (kcwV hts wd_ml_RL_63 wd_im_yX4_lasts wd_sel_yX4_lasts wd_ini_RX4 wd_code_yX4_lasts rfl rfl rfl hd_X4_lasts ⟨Nat.le_of_ble_eq_true rfl, Nat.le_of_ble_eq_true rfl⟩) ⟨in_blind, va_recv hK (pa_l (pa_r hPs)) (ci := 4) (q0 := 0) rfl rfl, k_pre hK (pa_l (pa_r hPs)) (da_l (da_r hDs)) hN⟩ rfl rfl hl.1 rfl (lv_room (Nat.le_of_ble_eq_true rfl)) dL_hangs_442 ⟨Nat.le_of_ble_eq_true rfl, Nat.le_of_ble_eq_true rfl⟩) hPs hDs hS hA (fun r343 u344 H locs hw345 hP hD hS => ?_)
                          have hP := k_unP hP
                          have hD := k_unD hD
                          have hP : va_P D vwCl (DW cI cC cQ d0 n0 na s0 sa h1 h2 mm ma t0 p0 pa tk N S oo zz M0 M1 M2 M3 rs de pc pg sg ln po dd lt pl f1s s2s tms) H := hP
                          have hD : va_D A (DW cI cC cQ d0 n0 na s0 sa h1 h2 mm ma t0 p0 pa tk N S oo zz M0 M1 M2 M3 rs de pc pg sg ln po dd lt pl f1s s2s tms) := hD
                          have hw345 : r343 = (sh_X4_lasts N k6 134 1) := hw345
                          subst hw345
                          refine lv_istore (lv' := [(12, .int (sh_X4_lasts N k6 134 1)), (11, .int (sh_X4_lasts N k6 134 0)), (10, .int 134), (5, .int 1), (0, .ref d0), (1, .int (al + ((sh_X4_cup N k6 1) + (sh_X4_cup N k6 2)))), (2, .int (le + (sh_X4_cup N k6 6))), (3, .int (bo + v291)), (4, .int (nn + v294)), (6, .int k6), (7, .int ((sh_X4_cup N k6 1) + (sh_X4_cup N k6 2))), (8, .int (sh_X4_cup N k6 5)), (9, .int (sh_X4_cup N k6 4)), (13, .int (sh_X4_darkest N k6 1 20))]) hx hb dL_hangs_445 hl (by decide) rfl (fun ls hl => ?_)
                          refine lv_aload_n hx hb dL_hangs_447 rfl (lv_at hl 4 rfl) ?_
                          refine lv_iload hx hb dL_hangs_448 (lv_at hl 9 rfl) ?_
                          refine lv_iload hx hb dL_hangs_450 (lv_at hl 2 rfl) ?_
                          refine lv_bipush (v := 20) hx hb dL_hangs_452 (by decide) ?_
                          have hPs := k_self hP
                          have hDs := k_selfD hD
                          refine k_behi (X := []) (Y := []) (va_runV (As := [.int k6, .int 134, .int 20]) (rest := []) ⟨hx, hb, hml, hown, hts⟩ (c_X4_darkest l D cI cC cQ H.size d0 n0 na s0 sa h1 h2 mm ma t0 p0 pa tk N S oo zz M0 M1 M2 M3 rs de pc pg sg ln po dd lt pl f1s s2s tms k6 134 20) (kcwV hts wd_ml_RL_67 wd_im_yX4_darkest wd_sel_yX4_darkest wd_ini_RX4 wd_code_yX4_darkest rfl rfl rfl hd_X4_darkest ⟨Nat.le_of_ble_eq_true rfl, Nat.le_of_ble_eq_true rfl⟩) ⟨in_blind, va_recv hK (pa_l (pa_r hPs)) (ci := 4) (q0 := 0) rfl rfl, k_pre hK (pa_l (pa_r hPs)) (da_l (da_r hDs)) hN⟩ rfl rfl hl.1 rfl (lv_room (Nat.le_of_ble_eq_true rfl)) dL_hangs_454 ⟨Nat.le_of_ble_eq_true rfl, Nat.le_of_ble_eq_true rfl⟩) hPs hDs hS hA (fun r346 u347 H locs hw348 hP hD hS => ?_)
                          have hP := k_unP hP
                          have hD := k_unD hD
                          have hP : va_P D vwCl (DW cI cC cQ d0 n0 na s0 sa h1 h2 mm ma t0 p0 pa tk N S oo zz M0 M1 M2 M3 rs de pc pg sg ln po dd lt pl f1s s2s tms) H := hP
                          have hD : va_D A (DW cI cC cQ d0 n0 na s0 sa h1 h2 mm ma t0 p0 pa tk N S oo zz M0 M1 M2 M3 rs de pc pg sg ln po dd lt pl f1s s2s tms) := hD
                          have hw348 : r346 = (sh_X4_darkest N k6 134 20) := hw348
                          subst hw348
                          refine lv_istore (lv' := [(13, .int (sh_X4_darkest N k6 134 20)), (12, .int (sh_X4_lasts N k6 134 1)), (11, .int (sh_X4_lasts N k6 134 0)), (10, .int 134), (5, .int 1), (0, .ref d0), (1, .int (al + ((sh_X4_cup N k6 1) + (sh_X4_cup N k6 2)))), (2, .int (le + (sh_X4_cup N k6 6))), (3, .int (bo + v291)), (4, .int (nn + v294)), (6, .int k6), (7, .int ((sh_X4_cup N k6 1) + (sh_X4_cup N k6 2))), (8, .int (sh_X4_cup N k6 5)), (9, .int (sh_X4_cup N k6 4))]) hx hb dL_hangs_457 hl (by decide) rfl (fun ls hl => ?_)
                          refine lv_iload hx hb dL_hangs_459 (lv_at hl 2 rfl) ?_
                          refine lv_if_lt (tgt := 623) hx hb dL_hangs_461 (by decide) (fun c9 => absurd c9 (hg_461 (hgI_in hI c25) ⟨by decide, by decide⟩)) (fun _ => ?_)
                          refine lv_iload hx hb dL_hangs_464 (lv_at hl 1 rfl) ?_
                          refine lv_iload hx hb dL_hangs_466 (lv_at hl 2 rfl) ?_
                          refine lv_icmp_lt (tgt := 623) hx hb dL_hangs_468 (by decide) (fun c9 => absurd c9 (hg_468 (hgI_in hI c25) ⟨by decide, by decide⟩)) (fun _ => ?_)
                          refine lv_iload hx hb dL_hangs_471 (lv_at hl 1 rfl) ?_
                          refine lv_sipush (v := 999) hx hb dL_hangs_473 (by decide) ?_
                          refine lv_icmp_gt (tgt := 623) hx hb dL_hangs_476 (by decide) (fun c9 => absurd c9 (hg_476 (hgI_in hI c25) ⟨by decide, by decide⟩)) (fun _ => ?_)
                          refine lv_aload_n hx hb dL_hangs_479 rfl (lv_at hl 5 rfl) ?_
                          refine lv_iload hx hb dL_hangs_480 (lv_at hl 10 rfl) ?_
                          refine lv_iload hx hb dL_hangs_482 (lv_at hl 3 rfl) ?_
                          refine lv_bipush (v := 50) hx hb dL_hangs_484 (by decide) ?_
                          refine lv_iconst (v := 0) hx hb dL_hangs_486 (by decide) ?_
                          have hPs := k_self hP
                          have hDs := k_selfD hD
                          refine k_behi (X := []) (Y := []) (va_runV (As := [.int k6, .int 134, .int 50, .int 0]) (rest := []) ⟨hx, hb, hml, hown, hts⟩ (c_X4_atHand l D cI cC cQ H.size d0 n0 na s0 sa h1 h2 mm ma t0 p0 pa tk N S oo zz M0 M1 M2 M3 rs de pc pg sg ln po dd lt pl f1s s2s tms k6 134 50 0) (kcwV hts wd_ml_RL_71 wd_im_yX4_atHand wd_sel_yX4_atHand wd_ini_RX4 wd_code_yX4_atHand rfl rfl rfl hd_X4_atHand ⟨Nat.le_of_ble_eq_true rfl, Nat.le_of_ble_eq_true rfl⟩) ⟨in_blind, va_recv hK (pa_l (pa_r hPs)) (ci := 4) (q0 := 0) rfl rfl, k_pre hK (pa_l (pa_r hPs)) (da_l (da_r hDs)) hN⟩ rfl rfl hl.1 rfl (lv_room (Nat.le_of_ble_eq_true rfl)) dL_hangs_487 ⟨Nat.le_of_ble_eq_true rfl, Nat.le_of_ble_eq_true rfl⟩) hPs hDs hS hA (fun r349 u350 H locs hw351 hP hD hS => ?_)
                          have hP := k_unP hP
                          have hD := k_unD hD
                          have hP : va_P D vwCl (DW cI cC cQ d0 n0 na s0 sa h1 h2 mm ma t0 p0 pa tk N S oo zz M0 M1 M2 M3 rs de pc pg sg ln po dd lt pl f1s s2s tms) H := hP
                          have hD : va_D A (DW cI cC cQ d0 n0 na s0 sa h1 h2 mm ma t0 p0 pa tk N S oo zz M0 M1 M2 M3 rs de pc pg sg ln po dd lt pl f1s s2s tms) := hD
                          have hw351 : r349 = (sh_X4_atHand N k6 134 50 0) := hw351
                          subst hw351
                          have K : ∀ (v354 : Int32) (H : Heap) (locs : List Loc) (ls : Array Slot), v354 = (if (sh_X4_atHand N k6 134 50 0) < 0 then 0 else 1) → va_P D vwCl (DW cI cC cQ d0 n0 na s0 sa h1 h2 mm ma t0 p0 pa tk N S oo zz M0 M1 M2 M3 rs de pc pg sg ln po dd lt pl f1s s2s tms) H → va_D A (DW cI cC cQ d0 n0 na s0 sa h1 h2 mm ma t0 p0 pa tk N S oo zz M0 M1 M2 M3 rs de pc pg sg ln po dd lt pl f1s s2s tms) → va_S A s.heap H locs → lv_has ls 14 [(0, .ref d0), (1, .int (al + ((sh_X4_cup N k6 1) + (sh_X4_cup N k6 2)))), (2, .int (le + (sh_X4_cup N k6 6))), (3, .int (bo + v291)), (4, .int (nn + v294)), (5, .int 1), (6, .int k6), (7, .int ((sh_X4_cup N k6 1) + (sh_X4_cup N k6 2))), (8, .int (sh_X4_cup N k6 5)), (9, .int (sh_X4_cup N k6 4)), (10, .int 134), (11, .int (sh_X4_lasts N k6 134 0)), (12, .int (sh_X4_lasts N k6 134 1)), (13, .int (sh_X4_darkest N k6 134 20))] → W p l e rm_L_hangs s m args below meth c H locs 0 0 Q (F0 m 498 ls [.int v354]) := by
                            intro v354 H locs ls hv353 hP hD hS hl
                            refine lv_iload hx hb dL_hangs_498 (lv_at hl 11 rfl) ?_
                            refine lv_bipush (v := 50) hx hb dL_hangs_500 (by decide) ?_
                            have K : ∀ (v357 : Int32) (H : Heap) (locs : List Loc) (ls : Array Slot), v357 = (if (sh_X4_lasts N k6 134 0) < 50 then 0 else 1) → va_P D vwCl (DW cI cC cQ d0 n0 na s0 sa h1 h2 mm ma t0 p0 pa tk N S oo zz M0 M1 M2 M3 rs de pc pg sg ln po dd lt pl f1s s2s tms) H → va_D A (DW cI cC cQ d0 n0 na s0 sa h1 h2 mm ma t0 p0 pa tk N S oo zz M0 M1 M2 M3 rs de pc pg sg ln po dd lt pl f1s s2s tms) → va_S A s.heap H locs → lv_has ls 14 [(0, .ref d0), (1, .int (al + ((sh_X4_cup N k6 1) + (sh_X4_cup N k6 2)))), (2, .int (le + (sh_X4_cup N k6 6))), (3, .int (bo + v291)), (4, .int (nn + v294)), (5, .int 1), (6, .int k6), (7, .int ((sh_X4_cup N k6 1) + (sh_X4_cup N k6 2))), (8, .int (sh_X4_cup N k6 5)), (9, .int (sh_X4_cup N k6 4)), (10, .int 134), (11, .int (sh_X4_lasts N k6 134 0)), (12, .int (sh_X4_lasts N k6 134 1)), (13, .int (sh_X4_darkest N k6 134 20))] → W p l e rm_L_hangs s m args below meth c H locs 0 0 Q (F0 m 510 ls [.int v357, .int v354]) := by
                              intro v357 H locs ls hv356 hP hD hS hl
                              refine lv_icmp_ne (tgt := 623) hx hb dL_hangs_510 (by decide) (fun c9 => absurd (hg_510 g (hgI_in hI c25) ⟨by decide, by decide⟩ hv353 hv356) c9) (fun _ => ?_)
                              refine lv_aload_n hx hb dL_hangs_513 rfl (lv_at hl 0 rfl) ?_
                              refine lv_iload hx hb dL_hangs_514 (lv_at hl 6 rfl) ?_
                              refine lv_iload hx hb dL_hangs_516 (lv_at hl 10 rfl) ?_
                              refine lv_bipush (v := 7) hx hb dL_hangs_518 (by decide) ?_
                              refine lv_iconst (v := 0) hx hb dL_hangs_520 (by decide) ?_
                              have hPs := k_self hP
                              have hDs := k_selfD hD
                              refine k_behi (X := []) (Y := []) (va_runV (As := [.int k6, .int 134, .int 7, .int 0]) (rest := []) ⟨hx, hb, hml, hown, hts⟩ (c_X4_atHand l D cI cC cQ H.size d0 n0 na s0 sa h1 h2 mm ma t0 p0 pa tk N S oo zz M0 M1 M2 M3 rs de pc pg sg ln po dd lt pl f1s s2s tms k6 134 7 0) (kcwV hts wd_ml_RL_71 wd_im_yX4_atHand wd_sel_yX4_atHand wd_ini_RX4 wd_code_yX4_atHand rfl rfl rfl hd_X4_atHand ⟨Nat.le_of_ble_eq_true rfl, Nat.le_of_ble_eq_true rfl⟩) ⟨in_blind, va_recv hK (pa_l (pa_r hPs)) (ci := 4) (q0 := 0) rfl rfl, k_pre hK (pa_l (pa_r hPs)) (da_l (da_r hDs)) hN⟩ rfl rfl hl.1 rfl (lv_room (Nat.le_of_ble_eq_true rfl)) dL_hangs_521 ⟨Nat.le_of_ble_eq_true rfl, Nat.le_of_ble_eq_true rfl⟩) hPs hDs hS hA (fun r358 u359 H locs hw360 hP hD hS => ?_)
                              have hP := k_unP hP
                              have hD := k_unD hD
                              have hP : va_P D vwCl (DW cI cC cQ d0 n0 na s0 sa h1 h2 mm ma t0 p0 pa tk N S oo zz M0 M1 M2 M3 rs de pc pg sg ln po dd lt pl f1s s2s tms) H := hP
                              have hD : va_D A (DW cI cC cQ d0 n0 na s0 sa h1 h2 mm ma t0 p0 pa tk N S oo zz M0 M1 M2 M3 rs de pc pg sg ln po dd lt pl f1s s2s tms) := hD
                              have hw360 : r358 = (sh_X4_atHand N k6 134 7 0) := hw360
                              subst hw360
                              refine lv_aload_n hx hb dL_hangs_524 rfl (lv_at hl 0 rfl) ?_
                              refine lv_iload hx hb dL_hangs_525 (lv_at hl 6 rfl) ?_
                              refine lv_iload hx hb dL_hangs_527 (lv_at hl 10 rfl) ?_
                              refine lv_bipush (v := 7) hx hb dL_hangs_529 (by decide) ?_
                              refine lv_iconst (v := 1) hx hb dL_hangs_531 (by decide) ?_
                              have hPs := k_self hP
                              have hDs := k_selfD hD
                              refine k_behi (X := []) (Y := []) (va_runV (As := [.int k6, .int 134, .int 7, .int 1]) (rest := [.int (sh_X4_atHand N k6 134 7 0)]) ⟨hx, hb, hml, hown, hts⟩ (c_X4_atHand l D cI cC cQ H.size d0 n0 na s0 sa h1 h2 mm ma t0 p0 pa tk N S oo zz M0 M1 M2 M3 rs de pc pg sg ln po dd lt pl f1s s2s tms k6 134 7 1) (kcwV hts wd_ml_RL_71 wd_im_yX4_atHand wd_sel_yX4_atHand wd_ini_RX4 wd_code_yX4_atHand rfl rfl rfl hd_X4_atHand ⟨Nat.le_of_ble_eq_true rfl, Nat.le_of_ble_eq_true rfl⟩) ⟨in_blind, va_recv hK (pa_l (pa_r hPs)) (ci := 4) (q0 := 0) rfl rfl, k_pre hK (pa_l (pa_r hPs)) (da_l (da_r hDs)) hN⟩ rfl rfl hl.1 rfl (lv_room (Nat.le_of_ble_eq_true rfl)) dL_hangs_532 ⟨Nat.le_of_ble_eq_true rfl, Nat.le_of_ble_eq_true rfl⟩) hPs hDs hS hA (fun r361 u362 H locs hw363 hP hD hS => ?_)
                              have hP := k_unP hP
                              have hD := k_unD hD
                              have hP : va_P D vwCl (DW cI cC cQ d0 n0 na s0 sa h1 h2 mm ma t0 p0 pa tk N S oo zz M0 M1 M2 M3 rs de pc pg sg ln po dd lt pl f1s s2s tms) H := hP
                              have hD : va_D A (DW cI cC cQ d0 n0 na s0 sa h1 h2 mm ma t0 p0 pa tk N S oo zz M0 M1 M2 M3 rs de pc pg sg ln po dd lt pl f1s s2s tms) := hD
                              have hw363 : r361 = (sh_X4_atHand N k6 134 7 1) := hw363
                              subst hw363
                              refine lv_icmp_ne (tgt := 623) hx hb dL_hangs_535 (by decide) (fun c9 => absurd (hg_535 (hgI_in hI c25) ⟨by decide, by decide⟩) c9) (fun _ => ?_)
                              refine lv_aload_n hx hb dL_hangs_538 rfl (lv_at hl 0 rfl) ?_
                              refine lv_iload hx hb dL_hangs_539 (lv_at hl 6 rfl) ?_
                              refine lv_iload hx hb dL_hangs_541 (lv_at hl 10 rfl) ?_
                              refine lv_iconst (v := 0) hx hb dL_hangs_543 (by decide) ?_
                              refine lv_iconst (v := 1) hx hb dL_hangs_544 (by decide) ?_
                              have hPs := k_self hP
                              have hDs := k_selfD hD
                              refine k_behi (X := []) (Y := []) (va_runV (As := [.int k6, .int 134, .int 0, .int 1]) (rest := []) ⟨hx, hb, hml, hown, hts⟩ (c_X4_atHand l D cI cC cQ H.size d0 n0 na s0 sa h1 h2 mm ma t0 p0 pa tk N S oo zz M0 M1 M2 M3 rs de pc pg sg ln po dd lt pl f1s s2s tms k6 134 0 1) (kcwV hts wd_ml_RL_71 wd_im_yX4_atHand wd_sel_yX4_atHand wd_ini_RX4 wd_code_yX4_atHand rfl rfl rfl hd_X4_atHand ⟨Nat.le_of_ble_eq_true rfl, Nat.le_of_ble_eq_true rfl⟩) ⟨in_blind, va_recv hK (pa_l (pa_r hPs)) (ci := 4) (q0 := 0) rfl rfl, k_pre hK (pa_l (pa_r hPs)) (da_l (da_r hDs)) hN⟩ rfl rfl hl.1 rfl (lv_room (Nat.le_of_ble_eq_true rfl)) dL_hangs_545 ⟨Nat.le_of_ble_eq_true rfl, Nat.le_of_ble_eq_true rfl⟩) hPs hDs hS hA (fun r364 u365 H locs hw366 hP hD hS => ?_)
                              have hP := k_unP hP
                              have hD := k_unD hD
                              have hP : va_P D vwCl (DW cI cC cQ d0 n0 na s0 sa h1 h2 mm ma t0 p0 pa tk N S oo zz M0 M1 M2 M3 rs de pc pg sg ln po dd lt pl f1s s2s tms) H := hP
                              have hD : va_D A (DW cI cC cQ d0 n0 na s0 sa h1 h2 mm ma t0 p0 pa tk N S oo zz M0 M1 M2 M3 rs de pc pg sg ln po dd lt pl f1s s2s tms) := hD
                              have hw366 : r364 = (sh_X4_atHand N k6 134 0 1) := hw366
                              subst hw366
                              refine lv_aload_n hx hb dL_hangs_548 rfl (lv_at hl 0 rfl) ?_
                              refine lv_iload hx hb dL_hangs_549 (lv_at hl 6 rfl) ?_
                              refine lv_iconst (v := 1) hx hb dL_hangs_551 (by decide) ?_
                              have hPs := k_self hP
                              have hDs := k_selfD hD
                              refine k_behi (X := []) (Y := []) (va_runV (As := [.int k6, .int 1]) (rest := [.int (sh_X4_atHand N k6 134 0 1)]) ⟨hx, hb, hml, hown, hts⟩ (c_X4_cup l D cI cC cQ H.size d0 n0 na s0 sa h1 h2 mm ma t0 p0 pa tk N S oo zz M0 M1 M2 M3 rs de pc pg sg ln po dd lt pl f1s s2s tms k6 1) (kcwV hts wd_ml_RL_56 wd_im_yX4_cup wd_sel_yX4_cup wd_ini_RX4 wd_code_yX4_cup rfl rfl rfl hd_X4_cup ⟨Nat.le_of_ble_eq_true rfl, Nat.le_of_ble_eq_true rfl⟩) ⟨in_blind, va_recv hK (pa_l (pa_r hPs)) (ci := 4) (q0 := 0) rfl rfl, k_pre hK (pa_l (pa_r hPs)) (da_l (da_r hDs)) hN⟩ rfl rfl hl.1 rfl (lv_room (Nat.le_of_ble_eq_true rfl)) dL_hangs_552 ⟨Nat.le_of_ble_eq_true rfl, Nat.le_of_ble_eq_true rfl⟩) hPs hDs hS hA (fun r367 u368 H locs hw369 hP hD hS => ?_)
                              have hP := k_unP hP
                              have hD := k_unD hD
                              have hP : va_P D vwCl (DW cI cC cQ d0 n0 na s0 sa h1 h2 mm ma t0 p0 pa tk N S oo zz M0 M1 M2 M3 rs de pc pg sg ln po dd lt pl f1s s2s tms) H := hP
                              have hD : va_D A (DW cI cC cQ d0 n0 na s0 sa h1 h2 mm ma t0 p0 pa tk N S oo zz M0 M1 M2 M3 rs de pc pg sg ln po dd lt pl f1s s2s tms) := hD
                              have hw369 : r367 = (sh_X4_cup N k6 1) := hw369
                              subst hw369
                              refine lv_icmp_ne (tgt := 623) hx hb dL_hangs_555 (by decide) (fun c9 => absurd (hg_555 (hgI_in hI c25) ⟨by decide, by decide⟩) c9) (fun _ => ?_)
                              refine lv_iload hx hb dL_hangs_558 (lv_at hl 13 rfl) ?_
                              refine lv_bipush (v := (-4)) hx hb dL_hangs_560 (by decide) ?_
                              have K : ∀  (H : Heap) (locs : List Loc) (ls : Array Slot), va_P D vwCl (DW cI cC cQ d0 n0 na s0 sa h1 h2 mm ma t0 p0 pa tk N S oo zz M0 M1 M2 M3 rs de pc pg sg ln po dd lt pl f1s s2s tms) H → va_D A (DW cI cC cQ d0 n0 na s0 sa h1 h2 mm ma t0 p0 pa tk N S oo zz M0 M1 M2 M3 rs de pc pg sg ln po dd lt pl f1s s2s tms) → va_S A s.heap H locs → lv_has ls 14 [(0, .ref d0), (1, .int (al + ((sh_X4_cup N k6 1) + (sh_X4_cup N k6 2)))), (2, .int (le + (sh_X4_cup N k6 6))), (3, .int (bo + v291)), (4, .int (nn + v294)), (5, .int 1), (6, .int k6), (7, .int ((sh_X4_cup N k6 1) + (sh_X4_cup N k6 2))), (8, .int (sh_X4_cup N k6 5)), (9, .int (sh_X4_cup N k6 4)), (10, .int 134), (11, .int (sh_X4_lasts N k6 134 0)), (12, .int (sh_X4_lasts N k6 134 1)), (13, .int (sh_X4_darkest N k6 134 20))] → W p l e rm_L_hangs s m args below meth c H locs 0 0 Q (F0 m 577 ls []) := by
                                intro  H locs ls  hP hD hS hl
                                refine lv_iload hx hb dL_hangs_577 (lv_at hl 12 rfl) ?_
                                refine lv_bipush (v := 20) hx hb dL_hangs_579 (by decide) ?_
                                have K : ∀  (H : Heap) (locs : List Loc) (ls : Array Slot), va_P D vwCl (DW cI cC cQ d0 n0 na s0 sa h1 h2 mm ma t0 p0 pa tk N S oo zz M0 M1 M2 M3 rs de pc pg sg ln po dd lt pl f1s s2s tms) H → va_D A (DW cI cC cQ d0 n0 na s0 sa h1 h2 mm ma t0 p0 pa tk N S oo zz M0 M1 M2 M3 rs de pc pg sg ln po dd lt pl f1s s2s tms) → va_S A s.heap H locs → lv_has ls 14 [(0, .ref d0), (1, .int (al + ((sh_X4_cup N k6 1) + (sh_X4_cup N k6 2)))), (2, .int (le + (sh_X4_cup N k6 6))), (3, .int (bo + v291)), (4, .int (nn + v294)), (5, .int 1), (6, .int k6), (7, .int ((sh_X4_cup N k6 1) + (sh_X4_cup N k6 2))), (8, .int (sh_X4_cup N k6 5)), (9, .int (sh_X4_cup N k6 4)), (10, .int 134), (11, .int (sh_X4_lasts N k6 134 0)), (12, .int (sh_X4_lasts N k6 134 1)), (13, .int (sh_X4_darkest N k6 134 20))] → W p l e rm_L_hangs s m args below meth c H locs 0 0 Q (F0 m 595 ls []) := by
                                  intro  H locs ls  hP hD hS hl
                                  refine lv_iload hx hb dL_hangs_595 (lv_at hl 11 rfl) ?_
                                  have K : ∀  (H : Heap) (locs : List Loc) (ls : Array Slot), va_P D vwCl (DW cI cC cQ d0 n0 na s0 sa h1 h2 mm ma t0 p0 pa tk N S oo zz M0 M1 M2 M3 rs de pc pg sg ln po dd lt pl f1s s2s tms) H → va_D A (DW cI cC cQ d0 n0 na s0 sa h1 h2 mm ma t0 p0 pa tk N S oo zz M0 M1 M2 M3 rs de pc pg sg ln po dd lt pl f1s s2s tms) → va_S A s.heap H locs → lv_has ls 14 [(0, .ref d0), (1, .int (al + ((sh_X4_cup N k6 1) + (sh_X4_cup N k6 2)))), (2, .int (le + (sh_X4_cup N k6 6))), (3, .int (bo + v291)), (4, .int (nn + v294)), (5, .int 1), (6, .int k6), (7, .int ((sh_X4_cup N k6 1) + (sh_X4_cup N k6 2))), (8, .int (sh_X4_cup N k6 5)), (9, .int (sh_X4_cup N k6 4)), (10, .int 134), (11, .int (sh_X4_lasts N k6 134 0)), (12, .int (sh_X4_lasts N k6 134 1)), (13, .int (sh_X4_darkest N k6 134 20))] → W p l e rm_L_hangs s m args below meth c H locs 0 0 Q (F0 m 619 ls []) := by
                                    intro  H locs ls  hP hD hS hl
                                    refine lv_iconst (v := 1) hx hb dL_hangs_619 (by decide) ?_
                                    refine lv_goto (tgt := 624) hx hb dL_hangs_620 (by decide) ?_
                                    refine lv_istore (lv' := [(5, .int 1), (0, .ref d0), (1, .int (al + ((sh_X4_cup N k6 1) + (sh_X4_cup N k6 2)))), (2, .int (le + (sh_X4_cup N k6 6))), (3, .int (bo + v291)), (4, .int (nn + v294)), (6, .int k6), (7, .int ((sh_X4_cup N k6 1) + (sh_X4_cup N k6 2))), (8, .int (sh_X4_cup N k6 5)), (9, .int (sh_X4_cup N k6 4)), (10, .int 134), (11, .int (sh_X4_lasts N k6 134 0)), (12, .int (sh_X4_lasts N k6 134 1)), (13, .int (sh_X4_darkest N k6 134 20))]) hx hb dL_hangs_624 hl (by decide) rfl (fun ls hl => ?_)
                                    refine lv_iincW (v := 267) (lv' := [(10, .int 267), (5, .int 1), (0, .ref d0), (1, .int (al + ((sh_X4_cup N k6 1) + (sh_X4_cup N k6 2)))), (2, .int (le + (sh_X4_cup N k6 6))), (3, .int (bo + v291)), (4, .int (nn + v294)), (6, .int k6), (7, .int ((sh_X4_cup N k6 1) + (sh_X4_cup N k6 2))), (8, .int (sh_X4_cup N k6 5)), (9, .int (sh_X4_cup N k6 4)), (11, .int (sh_X4_lasts N k6 134 0)), (12, .int (sh_X4_lasts N k6 134 1)), (13, .int (sh_X4_darkest N k6 134 20))]) hx hb dL_hangs_626 hl (k := 10) rfl (by decide) (by decide) rfl (fun ls hl => ?_)
                                    refine lv_goto (tgt := 412) hx hb dL_hangs_632 (by decide) ?_
                                    refine lv_iload hx hb dL_hangs_412 (lv_at hl 0 rfl) ?_
                                    refine lv_sipush (v := 400) hx hb dL_hangs_414 (by decide) ?_
                                    refine lv_icmp_ge (tgt := 635) hx hb dL_hangs_417 (by decide) (fun c9 => absurd c9 (by decide)) (fun _ => ?_)
                                    refine lv_iload hx hb dL_hangs_420 (lv_at hl 1 rfl) ?_
                                    refine lv_if_eq (tgt := 635) hx hb dL_hangs_422 (by decide) (fun c9 => absurd c9 (by decide)) (fun _ => ?_)
                                    refine lv_aload_n hx hb dL_hangs_425 rfl (lv_at hl 2 rfl) ?_
                                    refine lv_iload hx hb dL_hangs_426 (lv_at hl 7 rfl) ?_
                                    refine lv_iload hx hb dL_hangs_428 (lv_at hl 0 rfl) ?_
                                    refine lv_iconst (v := 0) hx hb dL_hangs_430 (by decide) ?_
                                    have hPs := k_self hP
                                    have hDs := k_selfD hD
                                    refine k_behi (X := []) (Y := []) (va_runV (As := [.int k6, .int 267, .int 0]) (rest := []) ⟨hx, hb, hml, hown, hts⟩ (c_X4_lasts l D cI cC cQ H.size d0 n0 na s0 sa h1 h2 mm ma t0 p0 pa tk N S oo zz M0 M1 M2 M3 rs de pc pg sg ln po dd lt pl f1s s2s tms k6 267 0) (kcwV hts wd_ml_RL_63 wd_im_yX4_lasts wd_sel_yX4_lasts wd_ini_RX4 wd_code_yX4_lasts rfl rfl rfl hd_X4_lasts ⟨Nat.le_of_ble_eq_true rfl, Nat.le_of_ble_eq_true rfl⟩) ⟨in_blind, va_recv hK (pa_l (pa_r hPs)) (ci := 4) (q0 := 0) rfl rfl, k_pre hK (pa_l (pa_r hPs)) (da_l (da_r hDs)) hN⟩ rfl rfl hl.1 rfl (lv_room (Nat.le_of_ble_eq_true rfl)) dL_hangs_431 ⟨Nat.le_of_ble_eq_true rfl, Nat.le_of_ble_eq_true rfl⟩) hPs hDs hS hA (fun r385 u386 H locs hw387 hP hD hS => ?_)
                                    have hP := k_unP hP
                                    have hD := k_unD hD
                                    have hP : va_P D vwCl (DW cI cC cQ d0 n0 na s0 sa h1 h2 mm ma t0 p0 pa tk N S oo zz M0 M1 M2 M3 rs de pc pg sg ln po dd lt pl f1s s2s tms) H := hP
                                    have hD : va_D A (DW cI cC cQ d0 n0 na s0 sa h1 h2 mm ma t0 p0 pa tk N S oo zz M0 M1 M2 M3 rs de pc pg sg ln po dd lt pl f1s s2s tms) := hD
                                    have hw387 : r385 = (sh_X4_lasts N k6 267 0) := hw387
                                    subst hw387
                                    refine lv_istore (lv' := [(11, .int (sh_X4_lasts N k6 267 0)), (10, .int 267), (5, .int 1), (0, .ref d0), (1, .int (al + ((sh_X4_cup N k6 1) + (sh_X4_cup N k6 2)))), (2, .int (le + (sh_X4_cup N k6 6))), (3, .int (bo + v291)), (4, .int (nn + v294)), (6, .int k6), (7, .int ((sh_X4_cup N k6 1) + (sh_X4_cup N k6 2))), (8, .int (sh_X4_cup N k6 5)), (9, .int (sh_X4_cup N k6 4)), (12, .int (sh_X4_lasts N k6 134 1)), (13, .int (sh_X4_darkest N k6 134 20))]) hx hb dL_hangs_434 hl (by decide) rfl (fun ls hl => ?_)
                                    refine lv_aload_n hx hb dL_hangs_436 rfl (lv_at hl 3 rfl) ?_
                                    refine lv_iload hx hb dL_hangs_437 (lv_at hl 8 rfl) ?_
                                    refine lv_iload hx hb dL_hangs_439 (lv_at hl 1 rfl) ?_
                                    refine lv_iconst (v := 1) hx hb dL_hangs_441 (by decide) ?_
                                    have hPs := k_self hP
                                    have hDs := k_selfD hD
                                    refine k_behi (X := []) (Y := []) (va_runV (As := [.int k6, .int 267, .int 1]) (rest := []) ⟨hx, hb, hml, hown, hts⟩ (c_X4_lasts l D cI cC cQ H.size d0 n0 na s0 sa h1 h2 mm ma t0 p0 pa tk N S oo zz M0 M1 M2 M3 rs de pc pg sg ln po dd lt pl f1s s2s tms k6 267 1) (kcwV hts wd_ml_RL_63 wd_im_yX4_lasts wd_sel_yX4_lasts wd_ini_RX4 wd_code_yX4_lasts rfl rfl rfl hd_X4_lasts ⟨Nat.le_of_ble_eq_true rfl, Nat.le_of_ble_eq_true rfl⟩) ⟨in_blind, va_recv hK (pa_l (pa_r hPs)) (ci := 4) (q0 := 0) rfl rfl, k_pre hK (pa_l (pa_r hPs)) (da_l (da_r hDs)) hN⟩ rfl rfl hl.1 rfl (lv_room (Nat.le_of_ble_eq_true rfl)) dL_hangs_442 ⟨Nat.le_of_ble_eq_true rfl, Nat.le_of_ble_eq_true rfl⟩) hPs hDs hS hA (fun r388 u389 H locs hw390 hP hD hS => ?_)
                                    have hP := k_unP hP
                                    have hD := k_unD hD
                                    have hP : va_P D vwCl (DW cI cC cQ d0 n0 na s0 sa h1 h2 mm ma t0 p0 pa tk N S oo zz M0 M1 M2 M3 rs de pc pg sg ln po dd lt pl f1s s2s tms) H := hP
                                    have hD : va_D A (DW cI cC cQ d0 n0 na s0 sa h1 h2 mm ma t0 p0 pa tk N S oo zz M0 M1 M2 M3 rs de pc pg sg ln po dd lt pl f1s s2s tms) := hD
                                    have hw390 : r388 = (sh_X4_lasts N k6 267 1) := hw390
                                    subst hw390
                                    refine lv_istore (lv' := [(12, .int (sh_X4_lasts N k6 267 1)), (11, .int (sh_X4_lasts N k6 267 0)), (10, .int 267), (5, .int 1), (0, .ref d0), (1, .int (al + ((sh_X4_cup N k6 1) + (sh_X4_cup N k6 2)))), (2, .int (le + (sh_X4_cup N k6 6))), (3, .int (bo + v291)), (4, .int (nn + v294)), (6, .int k6), (7, .int ((sh_X4_cup N k6 1) + (sh_X4_cup N k6 2))), (8, .int (sh_X4_cup N k6 5)), (9, .int (sh_X4_cup N k6 4)), (13, .int (sh_X4_darkest N k6 134 20))]) hx hb dL_hangs_445 hl (by decide) rfl (fun ls hl => ?_)
                                    refine lv_aload_n hx hb dL_hangs_447 rfl (lv_at hl 4 rfl) ?_
                                    refine lv_iload hx hb dL_hangs_448 (lv_at hl 9 rfl) ?_
                                    refine lv_iload hx hb dL_hangs_450 (lv_at hl 2 rfl) ?_
                                    refine lv_bipush (v := 20) hx hb dL_hangs_452 (by decide) ?_
                                    have hPs := k_self hP
                                    have hDs := k_selfD hD
                                    refine k_behi (X := []) (Y := []) (va_runV (As := [.int k6, .int 267, .int 20]) (rest := []) ⟨hx, hb, hml, hown, hts⟩ (c_X4_darkest l D cI cC cQ H.size d0 n0 na s0 sa h1 h2 mm ma t0 p0 pa tk N S oo zz M0 M1 M2 M3 rs de pc pg sg ln po dd lt pl f1s s2s tms k6 267 20) (kcwV hts wd_ml_RL_67 wd_im_yX4_darkest wd_sel_yX4_darkest wd_ini_RX4 wd_code_yX4_darkest rfl rfl rfl hd_X4_darkest ⟨Nat.le_of_ble_eq_true rfl, Nat.le_of_ble_eq_true rfl⟩) ⟨in_blind, va_recv hK (pa_l (pa_r hPs)) (ci := 4) (q0 := 0) rfl rfl, k_pre hK (pa_l (pa_r hPs)) (da_l (da_r hDs)) hN⟩ rfl rfl hl.1 rfl (lv_room (Nat.le_of_ble_eq_true rfl)) dL_hangs_454 ⟨Nat.le_of_ble_eq_true rfl, Nat.le_of_ble_eq_true rfl⟩) hPs hDs hS hA (fun r391 u392 H locs hw393 hP hD hS => ?_)
                                    have hP := k_unP hP
                                    have hD := k_unD hD
                                    have hP : va_P D vwCl (DW cI cC cQ d0 n0 na s0 sa h1 h2 mm ma t0 p0 pa tk N S oo zz M0 M1 M2 M3 rs de pc pg sg ln po dd lt pl f1s s2s tms) H := hP
                                    have hD : va_D A (DW cI cC cQ d0 n0 na s0 sa h1 h2 mm ma t0 p0 pa tk N S oo zz M0 M1 M2 M3 rs de pc pg sg ln po dd lt pl f1s s2s tms) := hD
                                    have hw393 : r391 = (sh_X4_darkest N k6 267 20) := hw393
                                    subst hw393
                                    refine lv_istore (lv' := [(13, .int (sh_X4_darkest N k6 267 20)), (12, .int (sh_X4_lasts N k6 267 1)), (11, .int (sh_X4_lasts N k6 267 0)), (10, .int 267), (5, .int 1), (0, .ref d0), (1, .int (al + ((sh_X4_cup N k6 1) + (sh_X4_cup N k6 2)))), (2, .int (le + (sh_X4_cup N k6 6))), (3, .int (bo + v291)), (4, .int (nn + v294)), (6, .int k6), (7, .int ((sh_X4_cup N k6 1) + (sh_X4_cup N k6 2))), (8, .int (sh_X4_cup N k6 5)), (9, .int (sh_X4_cup N k6 4))]) hx hb dL_hangs_457 hl (by decide) rfl (fun ls hl => ?_)
                                    refine lv_iload hx hb dL_hangs_459 (lv_at hl 2 rfl) ?_
                                    refine lv_if_lt (tgt := 623) hx hb dL_hangs_461 (by decide) (fun c9 => absurd c9 (hg_461 (hgI_in hI c25) ⟨by decide, by decide⟩)) (fun _ => ?_)
                                    refine lv_iload hx hb dL_hangs_464 (lv_at hl 1 rfl) ?_
                                    refine lv_iload hx hb dL_hangs_466 (lv_at hl 2 rfl) ?_
                                    refine lv_icmp_lt (tgt := 623) hx hb dL_hangs_468 (by decide) (fun c9 => absurd c9 (hg_468 (hgI_in hI c25) ⟨by decide, by decide⟩)) (fun _ => ?_)
                                    refine lv_iload hx hb dL_hangs_471 (lv_at hl 1 rfl) ?_
                                    refine lv_sipush (v := 999) hx hb dL_hangs_473 (by decide) ?_
                                    refine lv_icmp_gt (tgt := 623) hx hb dL_hangs_476 (by decide) (fun c9 => absurd c9 (hg_476 (hgI_in hI c25) ⟨by decide, by decide⟩)) (fun _ => ?_)
                                    refine lv_aload_n hx hb dL_hangs_479 rfl (lv_at hl 5 rfl) ?_
                                    refine lv_iload hx hb dL_hangs_480 (lv_at hl 10 rfl) ?_
                                    refine lv_iload hx hb dL_hangs_482 (lv_at hl 3 rfl) ?_
                                    refine lv_bipush (v := 50) hx hb dL_hangs_484 (by decide) ?_
                                    refine lv_iconst (v := 0) hx hb dL_hangs_486 (by decide) ?_
                                    have hPs := k_self hP
                                    have hDs := k_selfD hD
                                    refine k_behi (X := []) (Y := []) (va_runV (As := [.int k6, .int 267, .int 50, .int 0]) (rest := []) ⟨hx, hb, hml, hown, hts⟩ (c_X4_atHand l D cI cC cQ H.size d0 n0 na s0 sa h1 h2 mm ma t0 p0 pa tk N S oo zz M0 M1 M2 M3 rs de pc pg sg ln po dd lt pl f1s s2s tms k6 267 50 0) (kcwV hts wd_ml_RL_71 wd_im_yX4_atHand wd_sel_yX4_atHand wd_ini_RX4 wd_code_yX4_atHand rfl rfl rfl hd_X4_atHand ⟨Nat.le_of_ble_eq_true rfl, Nat.le_of_ble_eq_true rfl⟩) ⟨in_blind, va_recv hK (pa_l (pa_r hPs)) (ci := 4) (q0 := 0) rfl rfl, k_pre hK (pa_l (pa_r hPs)) (da_l (da_r hDs)) hN⟩ rfl rfl hl.1 rfl (lv_room (Nat.le_of_ble_eq_true rfl)) dL_hangs_487 ⟨Nat.le_of_ble_eq_true rfl, Nat.le_of_ble_eq_true rfl⟩) hPs hDs hS hA (fun r394 u395 H locs hw396 hP hD hS => ?_)
                                    have hP := k_unP hP
                                    have hD := k_unD hD
                                    have hP : va_P D vwCl (DW cI cC cQ d0 n0 na s0 sa h1 h2 mm ma t0 p0 pa tk N S oo zz M0 M1 M2 M3 rs de pc pg sg ln po dd lt pl f1s s2s tms) H := hP
                                    have hD : va_D A (DW cI cC cQ d0 n0 na s0 sa h1 h2 mm ma t0 p0 pa tk N S oo zz M0 M1 M2 M3 rs de pc pg sg ln po dd lt pl f1s s2s tms) := hD
                                    have hw396 : r394 = (sh_X4_atHand N k6 267 50 0) := hw396
                                    subst hw396
                                    have K : ∀ (v399 : Int32) (H : Heap) (locs : List Loc) (ls : Array Slot), v399 = (if (sh_X4_atHand N k6 267 50 0) < 0 then 0 else 1) → va_P D vwCl (DW cI cC cQ d0 n0 na s0 sa h1 h2 mm ma t0 p0 pa tk N S oo zz M0 M1 M2 M3 rs de pc pg sg ln po dd lt pl f1s s2s tms) H → va_D A (DW cI cC cQ d0 n0 na s0 sa h1 h2 mm ma t0 p0 pa tk N S oo zz M0 M1 M2 M3 rs de pc pg sg ln po dd lt pl f1s s2s tms) → va_S A s.heap H locs → lv_has ls 14 [(0, .ref d0), (1, .int (al + ((sh_X4_cup N k6 1) + (sh_X4_cup N k6 2)))), (2, .int (le + (sh_X4_cup N k6 6))), (3, .int (bo + v291)), (4, .int (nn + v294)), (5, .int 1), (6, .int k6), (7, .int ((sh_X4_cup N k6 1) + (sh_X4_cup N k6 2))), (8, .int (sh_X4_cup N k6 5)), (9, .int (sh_X4_cup N k6 4)), (10, .int 267), (11, .int (sh_X4_lasts N k6 267 0)), (12, .int (sh_X4_lasts N k6 267 1)), (13, .int (sh_X4_darkest N k6 267 20))] → W p l e rm_L_hangs s m args below meth c H locs 0 0 Q (F0 m 498 ls [.int v399]) := by
                                      intro v399 H locs ls hv398 hP hD hS hl
                                      refine lv_iload hx hb dL_hangs_498 (lv_at hl 11 rfl) ?_
                                      refine lv_bipush (v := 50) hx hb dL_hangs_500 (by decide) ?_
                                      have K : ∀ (v402 : Int32) (H : Heap) (locs : List Loc) (ls : Array Slot), v402 = (if (sh_X4_lasts N k6 267 0) < 50 then 0 else 1) → va_P D vwCl (DW cI cC cQ d0 n0 na s0 sa h1 h2 mm ma t0 p0 pa tk N S oo zz M0 M1 M2 M3 rs de pc pg sg ln po dd lt pl f1s s2s tms) H → va_D A (DW cI cC cQ d0 n0 na s0 sa h1 h2 mm ma t0 p0 pa tk N S oo zz M0 M1 M2 M3 rs de pc pg sg ln po dd lt pl f1s s2s tms) → va_S A s.heap H locs → lv_has ls 14 [(0, .ref d0), (1, .int (al + ((sh_X4_cup N k6 1) + (sh_X4_cup N k6 2)))), (2, .int (le + (sh_X4_cup N k6 6))), (3, .int (bo + v291)), (4, .int (nn + v294)), (5, .int 1), (6, .int k6), (7, .int ((sh_X4_cup N k6 1) + (sh_X4_cup N k6 2))), (8, .int (sh_X4_cup N k6 5)), (9, .int (sh_X4_cup N k6 4)), (10, .int 267), (11, .int (sh_X4_lasts N k6 267 0)), (12, .int (sh_X4_lasts N k6 267 1)), (13, .int (sh_X4_darkest N k6 267 20))] → W p l e rm_L_hangs s m args below meth c H locs 0 0 Q (F0 m 510 ls [.int v402, .int v399]) := by
                                        intro v402 H locs ls hv401 hP hD hS hl
                                        refine lv_icmp_ne (tgt := 623) hx hb dL_hangs_510 (by decide) (fun c9 => absurd (hg_510 g (hgI_in hI c25) ⟨by decide, by decide⟩ hv398 hv401) c9) (fun _ => ?_)
                                        refine lv_aload_n hx hb dL_hangs_513 rfl (lv_at hl 0 rfl) ?_
                                        refine lv_iload hx hb dL_hangs_514 (lv_at hl 6 rfl) ?_
                                        refine lv_iload hx hb dL_hangs_516 (lv_at hl 10 rfl) ?_
                                        refine lv_bipush (v := 7) hx hb dL_hangs_518 (by decide) ?_
                                        refine lv_iconst (v := 0) hx hb dL_hangs_520 (by decide) ?_
                                        have hPs := k_self hP
                                        have hDs := k_selfD hD
                                        refine k_behi (X := []) (Y := []) (va_runV (As := [.int k6, .int 267, .int 7, .int 0]) (rest := []) ⟨hx, hb, hml, hown, hts⟩ (c_X4_atHand l D cI cC cQ H.size d0 n0 na s0 sa h1 h2 mm ma t0 p0 pa tk N S oo zz M0 M1 M2 M3 rs de pc pg sg ln po dd lt pl f1s s2s tms k6 267 7 0) (kcwV hts wd_ml_RL_71 wd_im_yX4_atHand wd_sel_yX4_atHand wd_ini_RX4 wd_code_yX4_atHand rfl rfl rfl hd_X4_atHand ⟨Nat.le_of_ble_eq_true rfl, Nat.le_of_ble_eq_true rfl⟩) ⟨in_blind, va_recv hK (pa_l (pa_r hPs)) (ci := 4) (q0 := 0) rfl rfl, k_pre hK (pa_l (pa_r hPs)) (da_l (da_r hDs)) hN⟩ rfl rfl hl.1 rfl (lv_room (Nat.le_of_ble_eq_true rfl)) dL_hangs_521 ⟨Nat.le_of_ble_eq_true rfl, Nat.le_of_ble_eq_true rfl⟩) hPs hDs hS hA (fun r403 u404 H locs hw405 hP hD hS => ?_)
                                        have hP := k_unP hP
                                        have hD := k_unD hD
                                        have hP : va_P D vwCl (DW cI cC cQ d0 n0 na s0 sa h1 h2 mm ma t0 p0 pa tk N S oo zz M0 M1 M2 M3 rs de pc pg sg ln po dd lt pl f1s s2s tms) H := hP
                                        have hD : va_D A (DW cI cC cQ d0 n0 na s0 sa h1 h2 mm ma t0 p0 pa tk N S oo zz M0 M1 M2 M3 rs de pc pg sg ln po dd lt pl f1s s2s tms) := hD
                                        have hw405 : r403 = (sh_X4_atHand N k6 267 7 0) := hw405
                                        subst hw405
                                        refine lv_aload_n hx hb dL_hangs_524 rfl (lv_at hl 0 rfl) ?_
                                        refine lv_iload hx hb dL_hangs_525 (lv_at hl 6 rfl) ?_
                                        refine lv_iload hx hb dL_hangs_527 (lv_at hl 10 rfl) ?_
                                        refine lv_bipush (v := 7) hx hb dL_hangs_529 (by decide) ?_
                                        refine lv_iconst (v := 1) hx hb dL_hangs_531 (by decide) ?_
                                        have hPs := k_self hP
                                        have hDs := k_selfD hD
                                        refine k_behi (X := []) (Y := []) (va_runV (As := [.int k6, .int 267, .int 7, .int 1]) (rest := [.int (sh_X4_atHand N k6 267 7 0)]) ⟨hx, hb, hml, hown, hts⟩ (c_X4_atHand l D cI cC cQ H.size d0 n0 na s0 sa h1 h2 mm ma t0 p0 pa tk N S oo zz M0 M1 M2 M3 rs de pc pg sg ln po dd lt pl f1s s2s tms k6 267 7 1) (kcwV hts wd_ml_RL_71 wd_im_yX4_atHand wd_sel_yX4_atHand wd_ini_RX4 wd_code_yX4_atHand rfl rfl rfl hd_X4_atHand ⟨Nat.le_of_ble_eq_true rfl, Nat.le_of_ble_eq_true rfl⟩) ⟨in_blind, va_recv hK (pa_l (pa_r hPs)) (ci := 4) (q0 := 0) rfl rfl, k_pre hK (pa_l (pa_r hPs)) (da_l (da_r hDs)) hN⟩ rfl rfl hl.1 rfl (lv_room (Nat.le_of_ble_eq_true rfl)) dL_hangs_532 ⟨Nat.le_of_ble_eq_true rfl, Nat.le_of_ble_eq_true rfl⟩) hPs hDs hS hA (fun r406 u407 H locs hw408 hP hD hS => ?_)
                                        have hP := k_unP hP
                                        have hD := k_unD hD
                                        have hP : va_P D vwCl (DW cI cC cQ d0 n0 na s0 sa h1 h2 mm ma t0 p0 pa tk N S oo zz M0 M1 M2 M3 rs de pc pg sg ln po dd lt pl f1s s2s tms) H := hP
                                        have hD : va_D A (DW cI cC cQ d0 n0 na s0 sa h1 h2 mm ma t0 p0 pa tk N S oo zz M0 M1 M2 M3 rs de pc pg sg ln po dd lt pl f1s s2s tms) := hD
                                        have hw408 : r406 = (sh_X4_atHand N k6 267 7 1) := hw408
                                        subst hw408
                                        refine lv_icmp_ne (tgt := 623) hx hb dL_hangs_535 (by decide) (fun c9 => absurd (hg_535 (hgI_in hI c25) ⟨by decide, by decide⟩) c9) (fun _ => ?_)
                                        refine lv_aload_n hx hb dL_hangs_538 rfl (lv_at hl 0 rfl) ?_
                                        refine lv_iload hx hb dL_hangs_539 (lv_at hl 6 rfl) ?_
                                        refine lv_iload hx hb dL_hangs_541 (lv_at hl 10 rfl) ?_
                                        refine lv_iconst (v := 0) hx hb dL_hangs_543 (by decide) ?_
                                        refine lv_iconst (v := 1) hx hb dL_hangs_544 (by decide) ?_
                                        have hPs := k_self hP
                                        have hDs := k_selfD hD
                                        refine k_behi (X := []) (Y := []) (va_runV (As := [.int k6, .int 267, .int 0, .int 1]) (rest := []) ⟨hx, hb, hml, hown, hts⟩ (c_X4_atHand l D cI cC cQ H.size d0 n0 na s0 sa h1 h2 mm ma t0 p0 pa tk N S oo zz M0 M1 M2 M3 rs de pc pg sg ln po dd lt pl f1s s2s tms k6 267 0 1) (kcwV hts wd_ml_RL_71 wd_im_yX4_atHand wd_sel_yX4_atHand wd_ini_RX4 wd_code_yX4_atHand rfl rfl rfl hd_X4_atHand ⟨Nat.le_of_ble_eq_true rfl, Nat.le_of_ble_eq_true rfl⟩) ⟨in_blind, va_recv hK (pa_l (pa_r hPs)) (ci := 4) (q0 := 0) rfl rfl, k_pre hK (pa_l (pa_r hPs)) (da_l (da_r hDs)) hN⟩ rfl rfl hl.1 rfl (lv_room (Nat.le_of_ble_eq_true rfl)) dL_hangs_545 ⟨Nat.le_of_ble_eq_true rfl, Nat.le_of_ble_eq_true rfl⟩) hPs hDs hS hA (fun r409 u410 H locs hw411 hP hD hS => ?_)
                                        have hP := k_unP hP
                                        have hD := k_unD hD
                                        have hP : va_P D vwCl (DW cI cC cQ d0 n0 na s0 sa h1 h2 mm ma t0 p0 pa tk N S oo zz M0 M1 M2 M3 rs de pc pg sg ln po dd lt pl f1s s2s tms) H := hP
                                        have hD : va_D A (DW cI cC cQ d0 n0 na s0 sa h1 h2 mm ma t0 p0 pa tk N S oo zz M0 M1 M2 M3 rs de pc pg sg ln po dd lt pl f1s s2s tms) := hD
                                        have hw411 : r409 = (sh_X4_atHand N k6 267 0 1) := hw411
                                        subst hw411
                                        refine lv_aload_n hx hb dL_hangs_548 rfl (lv_at hl 0 rfl) ?_
                                        refine lv_iload hx hb dL_hangs_549 (lv_at hl 6 rfl) ?_
                                        refine lv_iconst (v := 1) hx hb dL_hangs_551 (by decide) ?_
                                        have hPs := k_self hP
                                        have hDs := k_selfD hD
                                        refine k_behi (X := []) (Y := []) (va_runV (As := [.int k6, .int 1]) (rest := [.int (sh_X4_atHand N k6 267 0 1)]) ⟨hx, hb, hml, hown, hts⟩ (c_X4_cup l D cI cC cQ H.size d0 n0 na s0 sa h1 h2 mm ma t0 p0 pa tk N S oo zz M0 M1 M2 M3 rs de pc pg sg ln po dd lt pl f1s s2s tms k6 1) (kcwV hts wd_ml_RL_56 wd_im_yX4_cup wd_sel_yX4_cup wd_ini_RX4 wd_code_yX4_cup rfl rfl rfl hd_X4_cup ⟨Nat.le_of_ble_eq_true rfl, Nat.le_of_ble_eq_true rfl⟩) ⟨in_blind, va_recv hK (pa_l (pa_r hPs)) (ci := 4) (q0 := 0) rfl rfl, k_pre hK (pa_l (pa_r hPs)) (da_l (da_r hDs)) hN⟩ rfl rfl hl.1 rfl (lv_room (Nat.le_of_ble_eq_true rfl)) dL_hangs_552 ⟨Nat.le_of_ble_eq_true rfl, Nat.le_of_ble_eq_true rfl⟩) hPs hDs hS hA (fun r412 u413 H locs hw414 hP hD hS => ?_)
                                        have hP := k_unP hP
                                        have hD := k_unD hD
                                        have hP : va_P D vwCl (DW cI cC cQ d0 n0 na s0 sa h1 h2 mm ma t0 p0 pa tk N S oo zz M0 M1 M2 M3 rs de pc pg sg ln po dd lt pl f1s s2s tms) H := hP
                                        have hD : va_D A (DW cI cC cQ d0 n0 na s0 sa h1 h2 mm ma t0 p0 pa tk N S oo zz M0 M1 M2 M3 rs de pc pg sg ln po dd lt pl f1s s2s tms) := hD
                                        have hw414 : r412 = (sh_X4_cup N k6 1) := hw414
                                        subst hw414
                                        refine lv_icmp_ne (tgt := 623) hx hb dL_hangs_555 (by decide) (fun c9 => absurd (hg_555 (hgI_in hI c25) ⟨by decide, by decide⟩) c9) (fun _ => ?_)
                                        refine lv_iload hx hb dL_hangs_558 (lv_at hl 13 rfl) ?_
                                        refine lv_bipush (v := (-4)) hx hb dL_hangs_560 (by decide) ?_
                                        have K : ∀  (H : Heap) (locs : List Loc) (ls : Array Slot), va_P D vwCl (DW cI cC cQ d0 n0 na s0 sa h1 h2 mm ma t0 p0 pa tk N S oo zz M0 M1 M2 M3 rs de pc pg sg ln po dd lt pl f1s s2s tms) H → va_D A (DW cI cC cQ d0 n0 na s0 sa h1 h2 mm ma t0 p0 pa tk N S oo zz M0 M1 M2 M3 rs de pc pg sg ln po dd lt pl f1s s2s tms) → va_S A s.heap H locs → lv_has ls 14 [(0, .ref d0), (1, .int (al + ((sh_X4_cup N k6 1) + (sh_X4_cup N k6 2)))), (2, .int (le + (sh_X4_cup N k6 6))), (3, .int (bo + v291)), (4, .int (nn + v294)), (5, .int 1), (6, .int k6), (7, .int ((sh_X4_cup N k6 1) + (sh_X4_cup N k6 2))), (8, .int (sh_X4_cup N k6 5)), (9, .int (sh_X4_cup N k6 4)), (10, .int 267), (11, .int (sh_X4_lasts N k6 267 0)), (12, .int (sh_X4_lasts N k6 267 1)), (13, .int (sh_X4_darkest N k6 267 20))] → W p l e rm_L_hangs s m args below meth c H locs 0 0 Q (F0 m 577 ls []) := by
                                          intro  H locs ls  hP hD hS hl
                                          refine lv_iload hx hb dL_hangs_577 (lv_at hl 12 rfl) ?_
                                          refine lv_bipush (v := 20) hx hb dL_hangs_579 (by decide) ?_
                                          have K : ∀  (H : Heap) (locs : List Loc) (ls : Array Slot), va_P D vwCl (DW cI cC cQ d0 n0 na s0 sa h1 h2 mm ma t0 p0 pa tk N S oo zz M0 M1 M2 M3 rs de pc pg sg ln po dd lt pl f1s s2s tms) H → va_D A (DW cI cC cQ d0 n0 na s0 sa h1 h2 mm ma t0 p0 pa tk N S oo zz M0 M1 M2 M3 rs de pc pg sg ln po dd lt pl f1s s2s tms) → va_S A s.heap H locs → lv_has ls 14 [(0, .ref d0), (1, .int (al + ((sh_X4_cup N k6 1) + (sh_X4_cup N k6 2)))), (2, .int (le + (sh_X4_cup N k6 6))), (3, .int (bo + v291)), (4, .int (nn + v294)), (5, .int 1), (6, .int k6), (7, .int ((sh_X4_cup N k6 1) + (sh_X4_cup N k6 2))), (8, .int (sh_X4_cup N k6 5)), (9, .int (sh_X4_cup N k6 4)), (10, .int 267), (11, .int (sh_X4_lasts N k6 267 0)), (12, .int (sh_X4_lasts N k6 267 1)), (13, .int (sh_X4_darkest N k6 267 20))] → W p l e rm_L_hangs s m args below meth c H locs 0 0 Q (F0 m 595 ls []) := by
                                            intro  H locs ls  hP hD hS hl
                                            refine lv_iload hx hb dL_hangs_595 (lv_at hl 11 rfl) ?_
                                            have K : ∀  (H : Heap) (locs : List Loc) (ls : Array Slot), va_P D vwCl (DW cI cC cQ d0 n0 na s0 sa h1 h2 mm ma t0 p0 pa tk N S oo zz M0 M1 M2 M3 rs de pc pg sg ln po dd lt pl f1s s2s tms) H → va_D A (DW cI cC cQ d0 n0 na s0 sa h1 h2 mm ma t0 p0 pa tk N S oo zz M0 M1 M2 M3 rs de pc pg sg ln po dd lt pl f1s s2s tms) → va_S A s.heap H locs → lv_has ls 14 [(0, .ref d0), (1, .int (al + ((sh_X4_cup N k6 1) + (sh_X4_cup N k6 2)))), (2, .int (le + (sh_X4_cup N k6 6))), (3, .int (bo + v291)), (4, .int (nn + v294)), (5, .int 1), (6, .int k6), (7, .int ((sh_X4_cup N k6 1) + (sh_X4_cup N k6 2))), (8, .int (sh_X4_cup N k6 5)), (9, .int (sh_X4_cup N k6 4)), (10, .int 267), (11, .int (sh_X4_lasts N k6 267 0)), (12, .int (sh_X4_lasts N k6 267 1)), (13, .int (sh_X4_darkest N k6 267 20))] → W p l e rm_L_hangs s m args below meth c H locs 0 0 Q (F0 m 619 ls []) := by
                                              intro  H locs ls  hP hD hS hl
                                              refine lv_iconst (v := 1) hx hb dL_hangs_619 (by decide) ?_
                                              refine lv_goto (tgt := 624) hx hb dL_hangs_620 (by decide) ?_
                                              refine lv_istore (lv' := [(5, .int 1), (0, .ref d0), (1, .int (al + ((sh_X4_cup N k6 1) + (sh_X4_cup N k6 2)))), (2, .int (le + (sh_X4_cup N k6 6))), (3, .int (bo + v291)), (4, .int (nn + v294)), (6, .int k6), (7, .int ((sh_X4_cup N k6 1) + (sh_X4_cup N k6 2))), (8, .int (sh_X4_cup N k6 5)), (9, .int (sh_X4_cup N k6 4)), (10, .int 267), (11, .int (sh_X4_lasts N k6 267 0)), (12, .int (sh_X4_lasts N k6 267 1)), (13, .int (sh_X4_darkest N k6 267 20))]) hx hb dL_hangs_624 hl (by decide) rfl (fun ls hl => ?_)
                                              refine lv_iincW (v := 400) (lv' := [(10, .int 400), (5, .int 1), (0, .ref d0), (1, .int (al + ((sh_X4_cup N k6 1) + (sh_X4_cup N k6 2)))), (2, .int (le + (sh_X4_cup N k6 6))), (3, .int (bo + v291)), (4, .int (nn + v294)), (6, .int k6), (7, .int ((sh_X4_cup N k6 1) + (sh_X4_cup N k6 2))), (8, .int (sh_X4_cup N k6 5)), (9, .int (sh_X4_cup N k6 4)), (11, .int (sh_X4_lasts N k6 267 0)), (12, .int (sh_X4_lasts N k6 267 1)), (13, .int (sh_X4_darkest N k6 267 20))]) hx hb dL_hangs_626 hl (k := 10) rfl (by decide) (by decide) rfl (fun ls hl => ?_)
                                              refine lv_goto (tgt := 412) hx hb dL_hangs_632 (by decide) ?_
                                              refine lv_iload hx hb dL_hangs_412 (lv_at hl 0 rfl) ?_
                                              refine lv_sipush (v := 400) hx hb dL_hangs_414 (by decide) ?_
                                              refine lv_icmp_ge (tgt := 635) hx hb dL_hangs_417 (by decide) (fun _ => ?_) (fun c9 => absurd c9 (by decide))
                                              refine lv_iinc (v := (k6 + 1)) (lv' := [(6, .int (k6 + 1)), (10, .int 400), (5, .int 1), (0, .ref d0), (1, .int (al + ((sh_X4_cup N k6 1) + (sh_X4_cup N k6 2)))), (2, .int (le + (sh_X4_cup N k6 6))), (3, .int (bo + v291)), (4, .int (nn + v294)), (7, .int ((sh_X4_cup N k6 1) + (sh_X4_cup N k6 2))), (8, .int (sh_X4_cup N k6 5)), (9, .int (sh_X4_cup N k6 4)), (11, .int (sh_X4_lasts N k6 267 0)), (12, .int (sh_X4_lasts N k6 267 1)), (13, .int (sh_X4_darkest N k6 267 20))]) hx hb dL_hangs_635 hl (k := 7) rfl rfl (by decide) rfl (fun ls hl => ?_)
                                              refine lv_goto (tgt := 100) hx hb dL_hangs_638 (by decide) ?_
                                              exact ih ((al + ((sh_X4_cup N k6 1) + (sh_X4_cup N k6 2)))) ((le + (sh_X4_cup N k6 6))) ((bo + v291)) ((nn + v294)) ((k6 + 1)) _ _ _ (k_mu hmu c25) (hgI_up hI c25 hv290 hv293) hP hD hS (lv_sub hl [0, 2, 7, 6, 5, 4, 3] rfl)
                                            refine lv_if_eq (tgt := 619) hx hb dL_hangs_597 (by decide) (fun c422 => ?_) (fun c422 => ?_)
                                            · skip
                                              exact K _ _ _ hP hD hS (lv_sub hl [0, 1, 2, 3, 4, 5, 6, 7, 8, 9, 10, 11, 12, 13] rfl)
                                            · skip
                                              refine lv_aload_n hx hb dL_hangs_600 rfl (lv_at hl 0 rfl) ?_
                                              refine lv_iload hx hb dL_hangs_601 (lv_at hl 6 rfl) ?_
                                              refine lv_iload hx hb dL_hangs_603 (lv_at hl 10 rfl) ?_
                                              refine lv_iconst (v := 0) hx hb dL_hangs_605 (by decide) ?_
                                              have hPs := k_self hP
                                              have hDs := k_selfD hD
                                              refine k_behi (X := []) (Y := []) (va_runV (As := [.int k6, .int 267, .int 0]) (rest := []) ⟨hx, hb, hml, hown, hts⟩ (c_X4_needs l D cI cC cQ H.size d0 n0 na s0 sa h1 h2 mm ma t0 p0 pa tk N S oo zz M0 M1 M2 M3 rs de pc pg sg ln po dd lt pl f1s s2s tms k6 267 0) (kcwV hts wd_ml_RL_75 wd_im_yX4_needs wd_sel_yX4_needs wd_ini_RX4 wd_code_yX4_needs rfl rfl rfl hd_X4_needs ⟨Nat.le_of_ble_eq_true rfl, Nat.le_of_ble_eq_true rfl⟩) ⟨in_blind, va_recv hK (pa_l (pa_r hPs)) (ci := 4) (q0 := 0) rfl rfl, k_pre hK (pa_l (pa_r hPs)) (da_l (da_r hDs)) hN⟩ rfl rfl hl.1 rfl (lv_room (Nat.le_of_ble_eq_true rfl)) dL_hangs_606 ⟨Nat.le_of_ble_eq_true rfl, Nat.le_of_ble_eq_true rfl⟩) hPs hDs hS hA (fun r423 u424 H locs hw425 hP hD hS => ?_)
                                              have hP := k_unP hP
                                              have hD := k_unD hD
                                              have hP : va_P D vwCl (DW cI cC cQ d0 n0 na s0 sa h1 h2 mm ma t0 p0 pa tk N S oo zz M0 M1 M2 M3 rs de pc pg sg ln po dd lt pl f1s s2s tms) H := hP
                                              have hD : va_D A (DW cI cC cQ d0 n0 na s0 sa h1 h2 mm ma t0 p0 pa tk N S oo zz M0 M1 M2 M3 rs de pc pg sg ln po dd lt pl f1s s2s tms) := hD
                                              have hw425 : r423 = (sh_X4_needs N k6 267 0) := hw425
                                              subst hw425
                                              refine lv_aload_n hx hb dL_hangs_609 rfl (lv_at hl 0 rfl) ?_
                                              refine lv_iload hx hb dL_hangs_610 (lv_at hl 6 rfl) ?_
                                              refine lv_iconst (v := 1) hx hb dL_hangs_612 (by decide) ?_
                                              have hPs := k_self hP
                                              have hDs := k_selfD hD
                                              refine k_behi (X := []) (Y := []) (va_runV (As := [.int k6, .int 1]) (rest := [.int (sh_X4_needs N k6 267 0)]) ⟨hx, hb, hml, hown, hts⟩ (c_X4_cup l D cI cC cQ H.size d0 n0 na s0 sa h1 h2 mm ma t0 p0 pa tk N S oo zz M0 M1 M2 M3 rs de pc pg sg ln po dd lt pl f1s s2s tms k6 1) (kcwV hts wd_ml_RL_56 wd_im_yX4_cup wd_sel_yX4_cup wd_ini_RX4 wd_code_yX4_cup rfl rfl rfl hd_X4_cup ⟨Nat.le_of_ble_eq_true rfl, Nat.le_of_ble_eq_true rfl⟩) ⟨in_blind, va_recv hK (pa_l (pa_r hPs)) (ci := 4) (q0 := 0) rfl rfl, k_pre hK (pa_l (pa_r hPs)) (da_l (da_r hDs)) hN⟩ rfl rfl hl.1 rfl (lv_room (Nat.le_of_ble_eq_true rfl)) dL_hangs_613 ⟨Nat.le_of_ble_eq_true rfl, Nat.le_of_ble_eq_true rfl⟩) hPs hDs hS hA (fun r426 u427 H locs hw428 hP hD hS => ?_)
                                              have hP := k_unP hP
                                              have hD := k_unD hD
                                              have hP : va_P D vwCl (DW cI cC cQ d0 n0 na s0 sa h1 h2 mm ma t0 p0 pa tk N S oo zz M0 M1 M2 M3 rs de pc pg sg ln po dd lt pl f1s s2s tms) H := hP
                                              have hD : va_D A (DW cI cC cQ d0 n0 na s0 sa h1 h2 mm ma t0 p0 pa tk N S oo zz M0 M1 M2 M3 rs de pc pg sg ln po dd lt pl f1s s2s tms) := hD
                                              have hw428 : r426 = (sh_X4_cup N k6 1) := hw428
                                              subst hw428
                                              refine lv_icmp_gt (tgt := 623) hx hb dL_hangs_616 (by decide) (fun c9 => absurd c9 (hg_616 (hgI_in hI c25) ⟨by decide, by decide⟩ c422)) (fun _ => ?_)
                                              exact K _ _ _ hP hD hS (lv_sub hl [0, 1, 2, 3, 4, 5, 6, 7, 8, 9, 10, 11, 12, 13] rfl)
                                          refine lv_icmp_lt (tgt := 595) hx hb dL_hangs_581 (by decide) (fun c417 => ?_) (fun c417 => ?_)
                                          · skip
                                            exact K _ _ _ hP hD hS (lv_sub hl [0, 1, 2, 3, 4, 5, 6, 7, 8, 9, 10, 11, 12, 13] rfl)
                                          · skip
                                            refine lv_iload hx hb dL_hangs_584 (lv_at hl 13 rfl) ?_
                                            refine lv_aload_n hx hb dL_hangs_586 rfl (lv_at hl 0 rfl) ?_
                                            refine lv_bipush (v := 8) hx hb dL_hangs_587 (by decide) ?_
                                            have hPs := k_self hP
                                            have hDs := k_selfD hD
                                            refine k_behi (X := []) (Y := []) (va_runV (As := [.int 8]) (rest := [.int (sh_X4_darkest N k6 267 20)]) ⟨hx, hb, hml, hown, hts⟩ (c_X4_count l D cI cC cQ H.size d0 n0 na s0 sa h1 h2 mm ma t0 p0 pa tk N S oo zz M0 M1 M2 M3 rs de pc pg sg ln po dd lt pl f1s s2s tms 8) (kcwV hts wd_ml_RL_53 wd_im_yX4_count wd_sel_yX4_count wd_ini_RX4 wd_code_yX4_count rfl rfl rfl hd_X4_count ⟨Nat.le_of_ble_eq_true rfl, Nat.le_of_ble_eq_true rfl⟩) ⟨in_blind, va_recv hK (pa_l (pa_r hPs)) (ci := 4) (q0 := 0) rfl rfl, k_pre hK (pa_l (pa_r hPs)) (da_l (da_r hDs)) hN⟩ rfl rfl hl.1 rfl (lv_room (Nat.le_of_ble_eq_true rfl)) dL_hangs_589 ⟨Nat.le_of_ble_eq_true rfl, Nat.le_of_ble_eq_true rfl⟩) hPs hDs hS hA (fun r418 u419 H locs hw420 hP hD hS => ?_)
                                            have hP := k_unP hP
                                            have hD := k_unD hD
                                            have hP : va_P D vwCl (DW cI cC cQ d0 n0 na s0 sa h1 h2 mm ma t0 p0 pa tk N S oo zz M0 M1 M2 M3 rs de pc pg sg ln po dd lt pl f1s s2s tms) H := hP
                                            have hD : va_D A (DW cI cC cQ d0 n0 na s0 sa h1 h2 mm ma t0 p0 pa tk N S oo zz M0 M1 M2 M3 rs de pc pg sg ln po dd lt pl f1s s2s tms) := hD
                                            have hw420 : r418 = (sh_X4_count N zz ln 8) := hw420
                                            subst hw420
                                            refine lv_icmp_lt (tgt := 623) hx hb dL_hangs_592 (by decide) (fun c9 => absurd c9 (hg_592 g (hgI_in hI c25) ⟨by decide, by decide⟩ c417)) (fun _ => ?_)
                                            exact K _ _ _ hP hD hS (lv_sub hl [0, 1, 2, 3, 4, 5, 6, 7, 8, 9, 10, 11, 12, 13] rfl)
                                        refine lv_icmp_eq (tgt := 577) hx hb dL_hangs_562 (by decide) (fun c415 => ?_) (fun c415 => ?_)
                                        · skip
                                          exact K _ _ _ hP hD hS (lv_sub hl [0, 1, 2, 3, 4, 5, 6, 7, 8, 9, 10, 11, 12, 13] rfl)
                                        · skip
                                          refine lv_iload hx hb dL_hangs_565 (lv_at hl 13 rfl) ?_
                                          refine lv_if_le (tgt := 623) hx hb dL_hangs_567 (by decide) (fun c9 => absurd c9 (hg_567 (hgI_in hI c25) ⟨by decide, by decide⟩ c415)) (fun _ => ?_)
                                          refine lv_iload hx hb dL_hangs_570 (lv_at hl 13 rfl) ?_
                                          refine lv_bipush (v := 6) hx hb dL_hangs_572 (by decide) ?_
                                          refine lv_icmp_ge (tgt := 623) hx hb dL_hangs_574 (by decide) (fun c9 => absurd c9 (hg_574 (hgI_in hI c25) ⟨by decide, by decide⟩ c415)) (fun _ => ?_)
                                          exact K _ _ _ hP hD hS (lv_sub hl [0, 1, 2, 3, 4, 5, 6, 7, 8, 9, 10, 11, 12, 13] rfl)
                                      refine lv_icmp_lt (tgt := 509) hx hb dL_hangs_502 (by decide) (fun c400 => ?_) (fun c400 => ?_)
                                      · skip
                                        refine lv_iconst (v := 0) hx hb dL_hangs_509 (by decide) ?_
                                        exact K (0) _ _ _ (by rw [if_pos c400]) hP hD hS (lv_sub hl [0, 1, 2, 3, 4, 5, 6, 7, 8, 9, 10, 11, 12, 13] rfl)
                                      · skip
                                        refine lv_iconst (v := 1) hx hb dL_hangs_505 (by decide) ?_
                                        refine lv_goto (tgt := 510) hx hb dL_hangs_506 (by decide) ?_
                                        exact K (1) _ _ _ (by rw [if_neg c400]) hP hD hS (lv_sub hl [0, 1, 2, 3, 4, 5, 6, 7, 8, 9, 10, 11, 12, 13] rfl)
                                    refine lv_if_lt (tgt := 497) hx hb dL_hangs_490 (by decide) (fun c397 => ?_) (fun c397 => ?_)
                                    · skip
                                      refine lv_iconst (v := 0) hx hb dL_hangs_497 (by decide) ?_
                                      exact K (0) _ _ _ (by rw [if_pos c397]) hP hD hS (lv_sub hl [5, 6, 7, 8, 9, 4, 10, 11, 12, 13, 3, 2, 1, 0] rfl)
                                    · skip
                                      refine lv_iconst (v := 1) hx hb dL_hangs_493 (by decide) ?_
                                      refine lv_goto (tgt := 498) hx hb dL_hangs_494 (by decide) ?_
                                      exact K (1) _ _ _ (by rw [if_neg c397]) hP hD hS (lv_sub hl [5, 6, 7, 8, 9, 4, 10, 11, 12, 13, 3, 2, 1, 0] rfl)
                                  refine lv_if_eq (tgt := 619) hx hb dL_hangs_597 (by decide) (fun c377 => ?_) (fun c377 => ?_)
                                  · skip
                                    exact K _ _ _ hP hD hS (lv_sub hl [0, 1, 2, 3, 4, 5, 6, 7, 8, 9, 10, 11, 12, 13] rfl)
                                  · skip
                                    refine lv_aload_n hx hb dL_hangs_600 rfl (lv_at hl 0 rfl) ?_
                                    refine lv_iload hx hb dL_hangs_601 (lv_at hl 6 rfl) ?_
                                    refine lv_iload hx hb dL_hangs_603 (lv_at hl 10 rfl) ?_
                                    refine lv_iconst (v := 0) hx hb dL_hangs_605 (by decide) ?_
                                    have hPs := k_self hP
                                    have hDs := k_selfD hD
                                    refine k_behi (X := []) (Y := []) (va_runV (As := [.int k6, .int 134, .int 0]) (rest := []) ⟨hx, hb, hml, hown, hts⟩ (c_X4_needs l D cI cC cQ H.size d0 n0 na s0 sa h1 h2 mm ma t0 p0 pa tk N S oo zz M0 M1 M2 M3 rs de pc pg sg ln po dd lt pl f1s s2s tms k6 134 0) (kcwV hts wd_ml_RL_75 wd_im_yX4_needs wd_sel_yX4_needs wd_ini_RX4 wd_code_yX4_needs rfl rfl rfl hd_X4_needs ⟨Nat.le_of_ble_eq_true rfl, Nat.le_of_ble_eq_true rfl⟩) ⟨in_blind, va_recv hK (pa_l (pa_r hPs)) (ci := 4) (q0 := 0) rfl rfl, k_pre hK (pa_l (pa_r hPs)) (da_l (da_r hDs)) hN⟩ rfl rfl hl.1 rfl (lv_room (Nat.le_of_ble_eq_true rfl)) dL_hangs_606 ⟨Nat.le_of_ble_eq_true rfl, Nat.le_of_ble_eq_true rfl⟩) hPs hDs hS hA (fun r378 u379 H locs hw380 hP hD hS => ?_)
                                    have hP := k_unP hP
                                    have hD := k_unD hD
                                    have hP : va_P D vwCl (DW cI cC cQ d0 n0 na s0 sa h1 h2 mm ma t0 p0 pa tk N S oo zz M0 M1 M2 M3 rs de pc pg sg ln po dd lt pl f1s s2s tms) H := hP
                                    have hD : va_D A (DW cI cC cQ d0 n0 na s0 sa h1 h2 mm ma t0 p0 pa tk N S oo zz M0 M1 M2 M3 rs de pc pg sg ln po dd lt pl f1s s2s tms) := hD
                                    have hw380 : r378 = (sh_X4_needs N k6 134 0) := hw380
                                    subst hw380
                                    refine lv_aload_n hx hb dL_hangs_609 rfl (lv_at hl 0 rfl) ?_
                                    refine lv_iload hx hb dL_hangs_610 (lv_at hl 6 rfl) ?_
                                    refine lv_iconst (v := 1) hx hb dL_hangs_612 (by decide) ?_
                                    have hPs := k_self hP
                                    have hDs := k_selfD hD
                                    refine k_behi (X := []) (Y := []) (va_runV (As := [.int k6, .int 1]) (rest := [.int (sh_X4_needs N k6 134 0)]) ⟨hx, hb, hml, hown, hts⟩ (c_X4_cup l D cI cC cQ H.size d0 n0 na s0 sa h1 h2 mm ma t0 p0 pa tk N S oo zz M0 M1 M2 M3 rs de pc pg sg ln po dd lt pl f1s s2s tms k6 1) (kcwV hts wd_ml_RL_56 wd_im_yX4_cup wd_sel_yX4_cup wd_ini_RX4 wd_code_yX4_cup rfl rfl rfl hd_X4_cup ⟨Nat.le_of_ble_eq_true rfl, Nat.le_of_ble_eq_true rfl⟩) ⟨in_blind, va_recv hK (pa_l (pa_r hPs)) (ci := 4) (q0 := 0) rfl rfl, k_pre hK (pa_l (pa_r hPs)) (da_l (da_r hDs)) hN⟩ rfl rfl hl.1 rfl (lv_room (Nat.le_of_ble_eq_true rfl)) dL_hangs_613 ⟨Nat.le_of_ble_eq_true rfl, Nat.le_of_ble_eq_true rfl⟩) hPs hDs hS hA (fun r381 u382 H locs hw383 hP hD hS => ?_)
                                    have hP := k_unP hP
                                    have hD := k_unD hD
                                    have hP : va_P D vwCl (DW cI cC cQ d0 n0 na s0 sa h1 h2 mm ma t0 p0 pa tk N S oo zz M0 M1 M2 M3 rs de pc pg sg ln po dd lt pl f1s s2s tms) H := hP
                                    have hD : va_D A (DW cI cC cQ d0 n0 na s0 sa h1 h2 mm ma t0 p0 pa tk N S oo zz M0 M1 M2 M3 rs de pc pg sg ln po dd lt pl f1s s2s tms) := hD
                                    have hw383 : r381 = (sh_X4_cup N k6 1) := hw383
                                    subst hw383
                                    refine lv_icmp_gt (tgt := 623) hx hb dL_hangs_616 (by decide) (fun c9 => absurd c9 (hg_616 (hgI_in hI c25) ⟨by decide, by decide⟩ c377)) (fun _ => ?_)
                                    exact K _ _ _ hP hD hS (lv_sub hl [0, 1, 2, 3, 4, 5, 6, 7, 8, 9, 10, 11, 12, 13] rfl)
                                refine lv_icmp_lt (tgt := 595) hx hb dL_hangs_581 (by decide) (fun c372 => ?_) (fun c372 => ?_)
                                · skip
                                  exact K _ _ _ hP hD hS (lv_sub hl [0, 1, 2, 3, 4, 5, 6, 7, 8, 9, 10, 11, 12, 13] rfl)
                                · skip
                                  refine lv_iload hx hb dL_hangs_584 (lv_at hl 13 rfl) ?_
                                  refine lv_aload_n hx hb dL_hangs_586 rfl (lv_at hl 0 rfl) ?_
                                  refine lv_bipush (v := 8) hx hb dL_hangs_587 (by decide) ?_
                                  have hPs := k_self hP
                                  have hDs := k_selfD hD
                                  refine k_behi (X := []) (Y := []) (va_runV (As := [.int 8]) (rest := [.int (sh_X4_darkest N k6 134 20)]) ⟨hx, hb, hml, hown, hts⟩ (c_X4_count l D cI cC cQ H.size d0 n0 na s0 sa h1 h2 mm ma t0 p0 pa tk N S oo zz M0 M1 M2 M3 rs de pc pg sg ln po dd lt pl f1s s2s tms 8) (kcwV hts wd_ml_RL_53 wd_im_yX4_count wd_sel_yX4_count wd_ini_RX4 wd_code_yX4_count rfl rfl rfl hd_X4_count ⟨Nat.le_of_ble_eq_true rfl, Nat.le_of_ble_eq_true rfl⟩) ⟨in_blind, va_recv hK (pa_l (pa_r hPs)) (ci := 4) (q0 := 0) rfl rfl, k_pre hK (pa_l (pa_r hPs)) (da_l (da_r hDs)) hN⟩ rfl rfl hl.1 rfl (lv_room (Nat.le_of_ble_eq_true rfl)) dL_hangs_589 ⟨Nat.le_of_ble_eq_true rfl, Nat.le_of_ble_eq_true rfl⟩) hPs hDs hS hA (fun r373 u374 H locs hw375 hP hD hS => ?_)
                                  have hP := k_unP hP
                                  have hD := k_unD hD
                                  have hP : va_P D vwCl (DW cI cC cQ d0 n0 na s0 sa h1 h2 mm ma t0 p0 pa tk N S oo zz M0 M1 M2 M3 rs de pc pg sg ln po dd lt pl f1s s2s tms) H := hP
                                  have hD : va_D A (DW cI cC cQ d0 n0 na s0 sa h1 h2 mm ma t0 p0 pa tk N S oo zz M0 M1 M2 M3 rs de pc pg sg ln po dd lt pl f1s s2s tms) := hD
                                  have hw375 : r373 = (sh_X4_count N zz ln 8) := hw375
                                  subst hw375
                                  refine lv_icmp_lt (tgt := 623) hx hb dL_hangs_592 (by decide) (fun c9 => absurd c9 (hg_592 g (hgI_in hI c25) ⟨by decide, by decide⟩ c372)) (fun _ => ?_)
                                  exact K _ _ _ hP hD hS (lv_sub hl [0, 1, 2, 3, 4, 5, 6, 7, 8, 9, 10, 11, 12, 13] rfl)
                              refine lv_icmp_eq (tgt := 577) hx hb dL_hangs_562 (by decide) (fun c370 => ?_) (fun c370 => ?_)
                              · skip
                                exact K _ _ _ hP hD hS (lv_sub hl [0, 1, 2, 3, 4, 5, 6, 7, 8, 9, 10, 11, 12, 13] rfl)
                              · skip
                                refine lv_iload hx hb dL_hangs_565 (lv_at hl 13 rfl) ?_
                                refine lv_if_le (tgt := 623) hx hb dL_hangs_567 (by decide) (fun c9 => absurd c9 (hg_567 (hgI_in hI c25) ⟨by decide, by decide⟩ c370)) (fun _ => ?_)
                                refine lv_iload hx hb dL_hangs_570 (lv_at hl 13 rfl) ?_
                                refine lv_bipush (v := 6) hx hb dL_hangs_572 (by decide) ?_
                                refine lv_icmp_ge (tgt := 623) hx hb dL_hangs_574 (by decide) (fun c9 => absurd c9 (hg_574 (hgI_in hI c25) ⟨by decide, by decide⟩ c370)) (fun _ => ?_)
                                exact K _ _ _ hP hD hS (lv_sub hl [0, 1, 2, 3, 4, 5, 6, 7, 8, 9, 10, 11, 12, 13] rfl)
                            refine lv_icmp_lt (tgt := 509) hx hb dL_hangs_502 (by decide) (fun c355 => ?_) (fun c355 => ?_)
                            · skip
                              refine lv_iconst (v := 0) hx hb dL_hangs_509 (by decide) ?_
                              exact K (0) _ _ _ (by rw [if_pos c355]) hP hD hS (lv_sub hl [0, 1, 2, 3, 4, 5, 6, 7, 8, 9, 10, 11, 12, 13] rfl)
                            · skip
                              refine lv_iconst (v := 1) hx hb dL_hangs_505 (by decide) ?_
                              refine lv_goto (tgt := 510) hx hb dL_hangs_506 (by decide) ?_
                              exact K (1) _ _ _ (by rw [if_neg c355]) hP hD hS (lv_sub hl [0, 1, 2, 3, 4, 5, 6, 7, 8, 9, 10, 11, 12, 13] rfl)
                          refine lv_if_lt (tgt := 497) hx hb dL_hangs_490 (by decide) (fun c352 => ?_) (fun c352 => ?_)
                          · skip
                            refine lv_iconst (v := 0) hx hb dL_hangs_497 (by decide) ?_
                            exact K (0) _ _ _ (by rw [if_pos c352]) hP hD hS (lv_sub hl [5, 6, 7, 8, 9, 4, 10, 11, 12, 13, 3, 2, 1, 0] rfl)
                          · skip
                            refine lv_iconst (v := 1) hx hb dL_hangs_493 (by decide) ?_
                            refine lv_goto (tgt := 498) hx hb dL_hangs_494 (by decide) ?_
                            exact K (1) _ _ _ (by rw [if_neg c352]) hP hD hS (lv_sub hl [5, 6, 7, 8, 9, 4, 10, 11, 12, 13, 3, 2, 1, 0] rfl)
                        refine lv_if_eq (tgt := 619) hx hb dL_hangs_597 (by decide) (fun c332 => ?_) (fun c332 => ?_)
                        · skip
                          exact K _ _ _ hP hD hS (lv_sub hl [0, 1, 2, 3, 4, 5, 6, 7, 8, 9, 10, 11, 12, 13] rfl)
                        · skip
                          refine lv_aload_n hx hb dL_hangs_600 rfl (lv_at hl 0 rfl) ?_
                          refine lv_iload hx hb dL_hangs_601 (lv_at hl 6 rfl) ?_
                          refine lv_iload hx hb dL_hangs_603 (lv_at hl 10 rfl) ?_
                          refine lv_iconst (v := 0) hx hb dL_hangs_605 (by decide) ?_
                          have hPs := k_self hP
                          have hDs := k_selfD hD
                          refine k_behi (X := []) (Y := []) (va_runV (As := [.int k6, .int 1, .int 0]) (rest := []) ⟨hx, hb, hml, hown, hts⟩ (c_X4_needs l D cI cC cQ H.size d0 n0 na s0 sa h1 h2 mm ma t0 p0 pa tk N S oo zz M0 M1 M2 M3 rs de pc pg sg ln po dd lt pl f1s s2s tms k6 1 0) (kcwV hts wd_ml_RL_75 wd_im_yX4_needs wd_sel_yX4_needs wd_ini_RX4 wd_code_yX4_needs rfl rfl rfl hd_X4_needs ⟨Nat.le_of_ble_eq_true rfl, Nat.le_of_ble_eq_true rfl⟩) ⟨in_blind, va_recv hK (pa_l (pa_r hPs)) (ci := 4) (q0 := 0) rfl rfl, k_pre hK (pa_l (pa_r hPs)) (da_l (da_r hDs)) hN⟩ rfl rfl hl.1 rfl (lv_room (Nat.le_of_ble_eq_true rfl)) dL_hangs_606 ⟨Nat.le_of_ble_eq_true rfl, Nat.le_of_ble_eq_true rfl⟩) hPs hDs hS hA (fun r333 u334 H locs hw335 hP hD hS => ?_)
                          have hP := k_unP hP
                          have hD := k_unD hD
                          have hP : va_P D vwCl (DW cI cC cQ d0 n0 na s0 sa h1 h2 mm ma t0 p0 pa tk N S oo zz M0 M1 M2 M3 rs de pc pg sg ln po dd lt pl f1s s2s tms) H := hP
                          have hD : va_D A (DW cI cC cQ d0 n0 na s0 sa h1 h2 mm ma t0 p0 pa tk N S oo zz M0 M1 M2 M3 rs de pc pg sg ln po dd lt pl f1s s2s tms) := hD
                          have hw335 : r333 = (sh_X4_needs N k6 1 0) := hw335
                          subst hw335
                          refine lv_aload_n hx hb dL_hangs_609 rfl (lv_at hl 0 rfl) ?_
                          refine lv_iload hx hb dL_hangs_610 (lv_at hl 6 rfl) ?_
                          refine lv_iconst (v := 1) hx hb dL_hangs_612 (by decide) ?_
                          have hPs := k_self hP
                          have hDs := k_selfD hD
                          refine k_behi (X := []) (Y := []) (va_runV (As := [.int k6, .int 1]) (rest := [.int (sh_X4_needs N k6 1 0)]) ⟨hx, hb, hml, hown, hts⟩ (c_X4_cup l D cI cC cQ H.size d0 n0 na s0 sa h1 h2 mm ma t0 p0 pa tk N S oo zz M0 M1 M2 M3 rs de pc pg sg ln po dd lt pl f1s s2s tms k6 1) (kcwV hts wd_ml_RL_56 wd_im_yX4_cup wd_sel_yX4_cup wd_ini_RX4 wd_code_yX4_cup rfl rfl rfl hd_X4_cup ⟨Nat.le_of_ble_eq_true rfl, Nat.le_of_ble_eq_true rfl⟩) ⟨in_blind, va_recv hK (pa_l (pa_r hPs)) (ci := 4) (q0 := 0) rfl rfl, k_pre hK (pa_l (pa_r hPs)) (da_l (da_r hDs)) hN⟩ rfl rfl hl.1 rfl (lv_room (Nat.le_of_ble_eq_true rfl)) dL_hangs_613 ⟨Nat.le_of_ble_eq_true rfl, Nat.le_of_ble_eq_true rfl⟩) hPs hDs hS hA (fun r336 u337 H locs hw338 hP hD hS => ?_)
                          have hP := k_unP hP
                          have hD := k_unD hD
                          have hP : va_P D vwCl (DW cI cC cQ d0 n0 na s0 sa h1 h2 mm ma t0 p0 pa tk N S oo zz M0 M1 M2 M3 rs de pc pg sg ln po dd lt pl f1s s2s tms) H := hP
                          have hD : va_D A (DW cI cC cQ d0 n0 na s0 sa h1 h2 mm ma t0 p0 pa tk N S oo zz M0 M1 M2 M3 rs de pc pg sg ln po dd lt pl f1s s2s tms) := hD
                          have hw338 : r336 = (sh_X4_cup N k6 1) := hw338
                          subst hw338
                          refine lv_icmp_gt (tgt := 623) hx hb dL_hangs_616 (by decide) (fun c9 => absurd c9 (hg_616 (hgI_in hI c25) ⟨by decide, by decide⟩ c332)) (fun _ => ?_)
                          exact K _ _ _ hP hD hS (lv_sub hl [0, 1, 2, 3, 4, 5, 6, 7, 8, 9, 10, 11, 12, 13] rfl)
                      refine lv_icmp_lt (tgt := 595) hx hb dL_hangs_581 (by decide) (fun c327 => ?_) (fun c327 => ?_)
                      · skip
                        exact K _ _ _ hP hD hS (lv_sub hl [0, 1, 2, 3, 4, 5, 6, 7, 8, 9, 10, 11, 12, 13] rfl)
                      · skip
                        refine lv_iload hx hb dL_hangs_584 (lv_at hl 13 rfl) ?_
                        refine lv_aload_n hx hb dL_hangs_586 rfl (lv_at hl 0 rfl) ?_
                        refine lv_bipush (v := 8) hx hb dL_hangs_587 (by decide) ?_
                        have hPs := k_self hP
                        have hDs := k_selfD hD
                        refine k_behi (X := []) (Y := []) (va_runV (As := [.int 8]) (rest := [.int (sh_X4_darkest N k6 1 20)]) ⟨hx, hb, hml, hown, hts⟩ (c_X4_count l D cI cC cQ H.size d0 n0 na s0 sa h1 h2 mm ma t0 p0 pa tk N S oo zz M0 M1 M2 M3 rs de pc pg sg ln po dd lt pl f1s s2s tms 8) (kcwV hts wd_ml_RL_53 wd_im_yX4_count wd_sel_yX4_count wd_ini_RX4 wd_code_yX4_count rfl rfl rfl hd_X4_count ⟨Nat.le_of_ble_eq_true rfl, Nat.le_of_ble_eq_true rfl⟩) ⟨in_blind, va_recv hK (pa_l (pa_r hPs)) (ci := 4) (q0 := 0) rfl rfl, k_pre hK (pa_l (pa_r hPs)) (da_l (da_r hDs)) hN⟩ rfl rfl hl.1 rfl (lv_room (Nat.le_of_ble_eq_true rfl)) dL_hangs_589 ⟨Nat.le_of_ble_eq_true rfl, Nat.le_of_ble_eq_true rfl⟩) hPs hDs hS hA (fun r328 u329 H locs hw330 hP hD hS => ?_)
                        have hP := k_unP hP
                        have hD := k_unD hD
                        have hP : va_P D vwCl (DW cI cC cQ d0 n0 na s0 sa h1 h2 mm ma t0 p0 pa tk N S oo zz M0 M1 M2 M3 rs de pc pg sg ln po dd lt pl f1s s2s tms) H := hP
                        have hD : va_D A (DW cI cC cQ d0 n0 na s0 sa h1 h2 mm ma t0 p0 pa tk N S oo zz M0 M1 M2 M3 rs de pc pg sg ln po dd lt pl f1s s2s tms) := hD
                        have hw330 : r328 = (sh_X4_count N zz ln 8) := hw330
                        subst hw330
                        refine lv_icmp_lt (tgt := 623) hx hb dL_hangs_592 (by decide) (fun c9 => absurd c9 (hg_592 g (hgI_in hI c25) ⟨by decide, by decide⟩ c327)) (fun _ => ?_)
                        exact K _ _ _ hP hD hS (lv_sub hl [0, 1, 2, 3, 4, 5, 6, 7, 8, 9, 10, 11, 12, 13] rfl)
                    refine lv_icmp_eq (tgt := 577) hx hb dL_hangs_562 (by decide) (fun c325 => ?_) (fun c325 => ?_)
                    · skip
                      exact K _ _ _ hP hD hS (lv_sub hl [0, 1, 2, 3, 4, 5, 6, 7, 8, 9, 10, 11, 12, 13] rfl)
                    · skip
                      refine lv_iload hx hb dL_hangs_565 (lv_at hl 13 rfl) ?_
                      refine lv_if_le (tgt := 623) hx hb dL_hangs_567 (by decide) (fun c9 => absurd c9 (hg_567 (hgI_in hI c25) ⟨by decide, by decide⟩ c325)) (fun _ => ?_)
                      refine lv_iload hx hb dL_hangs_570 (lv_at hl 13 rfl) ?_
                      refine lv_bipush (v := 6) hx hb dL_hangs_572 (by decide) ?_
                      refine lv_icmp_ge (tgt := 623) hx hb dL_hangs_574 (by decide) (fun c9 => absurd c9 (hg_574 (hgI_in hI c25) ⟨by decide, by decide⟩ c325)) (fun _ => ?_)
                      exact K _ _ _ hP hD hS (lv_sub hl [0, 1, 2, 3, 4, 5, 6, 7, 8, 9, 10, 11, 12, 13] rfl)
                  refine lv_icmp_lt (tgt := 509) hx hb dL_hangs_502 (by decide) (fun c310 => ?_) (fun c310 => ?_)
                  · skip
                    refine lv_iconst (v := 0) hx hb dL_hangs_509 (by decide) ?_
                    exact K (0) _ _ _ (by rw [if_pos c310]) hP hD hS (lv_sub hl [0, 1, 2, 3, 4, 5, 6, 7, 8, 9, 10, 11, 12, 13] rfl)
                  · skip
                    refine lv_iconst (v := 1) hx hb dL_hangs_505 (by decide) ?_
                    refine lv_goto (tgt := 510) hx hb dL_hangs_506 (by decide) ?_
                    exact K (1) _ _ _ (by rw [if_neg c310]) hP hD hS (lv_sub hl [0, 1, 2, 3, 4, 5, 6, 7, 8, 9, 10, 11, 12, 13] rfl)
                refine lv_if_lt (tgt := 497) hx hb dL_hangs_490 (by decide) (fun c307 => ?_) (fun c307 => ?_)
                · skip
                  refine lv_iconst (v := 0) hx hb dL_hangs_497 (by decide) ?_
                  exact K (0) _ _ _ (by rw [if_pos c307]) hP hD hS (lv_sub hl [5, 6, 7, 8, 4, 9, 10, 11, 12, 13, 3, 2, 1, 0] rfl)
                · skip
                  refine lv_iconst (v := 1) hx hb dL_hangs_493 (by decide) ?_
                  refine lv_goto (tgt := 498) hx hb dL_hangs_494 (by decide) ?_
                  exact K (1) _ _ _ (by rw [if_neg c307]) hP hD hS (lv_sub hl [5, 6, 7, 8, 4, 9, 10, 11, 12, 13, 3, 2, 1, 0] rfl)
              refine lv_icmp_ne (tgt := 405) hx hb dL_hangs_398 (by decide) (fun c292 => ?_) (fun c292 => ?_)
              · skip
                refine lv_iconst (v := 1) hx hb dL_hangs_405 (by decide) ?_
                exact K (1) _ _ _ (by rw [if_neg c292]) hP hD hS (lv_sub hl [1, 2, 3, 0, 4, 5, 6, 7, 8, 9] rfl)
              · skip
                refine lv_iconst (v := 0) hx hb dL_hangs_401 (by decide) ?_
                refine lv_goto (tgt := 406) hx hb dL_hangs_402 (by decide) ?_
                exact K (0) _ _ _ (by rw [if_pos c292]) hP hD hS (lv_sub hl [1, 2, 3, 0, 4, 5, 6, 7, 8, 9] rfl)
            refine lv_icmp_le (tgt := 389) hx hb dL_hangs_382 (by decide) (fun c289 => ?_) (fun c289 => ?_)
            · skip
              refine lv_iconst (v := 0) hx hb dL_hangs_389 (by decide) ?_
              exact K (0) _ _ _ (by rw [if_pos c289]) hP hD hS (lv_sub hl [3, 1, 0, 4, 5, 2, 6, 7, 8, 9] rfl)
            · skip
              refine lv_iconst (v := 1) hx hb dL_hangs_385 (by decide) ?_
              refine lv_goto (tgt := 390) hx hb dL_hangs_386 (by decide) ?_
              exact K (1) _ _ _ (by rw [if_neg c289]) hP hD hS (lv_sub hl [3, 1, 0, 4, 5, 2, 6, 7, 8, 9] rfl)
          refine lv_icmp_eq (tgt := 348) hx hb dL_hangs_333 (by decide) (fun c278 => ?_) (fun c278 => ?_)
          · skip
            exact K _ _ _ hP hD hS (lv_sub hl [0, 1, 2, 3, 4, 5, 6, 7, 8, 9] rfl)
          · skip
            refine lv_aload_n hx hb dL_hangs_336 rfl (lv_at hl 0 rfl) ?_
            refine lv_iload hx hb dL_hangs_337 (lv_at hl 6 rfl) ?_
            refine lv_iconst (v := 1) hx hb dL_hangs_339 (by decide) ?_
            have hPs := k_self hP
            have hDs := k_selfD hD
            refine k_behi (X := []) (Y := []) (va_runV (As := [.int k6, .int 1]) (rest := []) ⟨hx, hb, hml, hown, hts⟩ (c_X4_refill l D cI cC cQ H.size d0 n0 na s0 sa h1 h2 mm ma t0 p0 pa tk N S oo zz M0 M1 M2 M3 rs de pc pg sg ln po dd lt pl f1s s2s tms k6 1 (hoo) (hzz)) (kcwV hts wd_ml_RL_22 wd_im_yX4_refill wd_sel_yX4_refill wd_ini_RX4 wd_code_yX4_refill rfl rfl rfl hd_X4_refill ⟨Nat.le_of_ble_eq_true rfl, Nat.le_of_ble_eq_true rfl⟩) ⟨in_blind, va_recv hK (pa_l (pa_r hPs)) (ci := 4) (q0 := 0) rfl rfl, k_pre hK (pa_l (pa_r hPs)) (da_l (da_r hDs)) hN⟩ rfl rfl hl.1 rfl (lv_room (Nat.le_of_ble_eq_true rfl)) dL_hangs_340 ⟨Nat.le_of_ble_eq_true rfl, Nat.le_of_ble_eq_true rfl⟩) hPs hDs hS hA (fun r279 u280 H locs hw281 hP hD hS => ?_)
            have hw281 : (r279, u280) = (sh_X4_refill N oo zz M0 M1 M2 M3 k6 1) := hw281
            obtain ⟨rfl, rfl⟩ := Prod.mk.inj (hw281.trans (hg_refill (hgI_in hI c25) c278))
            have hP := k_unP hP
            have hD := k_unD hD
            have hP : va_P D vwCl (DW cI cC cQ d0 n0 na s0 sa h1 h2 mm ma t0 p0 pa tk N S oo zz M0 M1 M2 M3 rs de pc pg sg ln po dd lt pl f1s s2s tms) H := hP
            have hD : va_D A (DW cI cC cQ d0 n0 na s0 sa h1 h2 mm ma t0 p0 pa tk N S oo zz M0 M1 M2 M3 rs de pc pg sg ln po dd lt pl f1s s2s tms) := hD
            refine lv_bipush (v := (-2)) hx hb dL_hangs_343 (by decide) ?_
            refine lv_icmp_ne (tgt := 352) hx hb dL_hangs_345 (by decide) (fun c9 => absurd c9 (by decide)) (fun _ => ?_)
            exact K _ _ _ hP hD hS (lv_sub hl [0, 1, 2, 3, 4, 5, 6, 7, 8, 9] rfl)
        refine lv_icmp_eq (tgt := 329) hx hb dL_hangs_303 (by decide) (fun c273 => ?_) (fun c273 => ?_)
        · skip
          exact K _ _ _ hP hD hS (lv_sub hl [9, 8, 7, 6, 5, 4, 3, 2, 1, 0] rfl)
        · skip
          refine lv_iload hx hb dL_hangs_306 (lv_at hl 0 rfl) ?_
          refine lv_if_lt (tgt := 352) hx hb dL_hangs_308 (by decide) (fun c9 => absurd c9 (hg_308 (hgI_in hI c25) c273)) (fun _ => ?_)
          refine lv_iload hx hb dL_hangs_311 (lv_at hl 0 rfl) ?_
          refine lv_iconst (v := 2) hx hb dL_hangs_313 (by decide) ?_
          refine lv_icmp_ge (tgt := 352) hx hb dL_hangs_314 (by decide) (fun c9 => absurd c9 (hg_314 (hgI_in hI c25) c273)) (fun _ => ?_)
          refine lv_aload_n hx hb dL_hangs_317 rfl (lv_at hl 9 rfl) ?_
          refine lv_iload hx hb dL_hangs_318 (lv_at hl 0 rfl) ?_
          refine lv_iconst (v := 0) hx hb dL_hangs_320 (by decide) ?_
          have hPs := k_self hP
          have hDs := k_selfD hD
          refine k_behi (X := []) (Y := []) (va_runV (As := [.int (sh_X4_cup N k6 4), .int 0]) (rest := []) ⟨hx, hb, hml, hown, hts⟩ (c_X4_printer l D cI cC cQ H.size d0 n0 na s0 sa h1 h2 mm ma t0 p0 pa tk N S oo zz M0 M1 M2 M3 rs de pc pg sg ln po dd lt pl f1s s2s tms (sh_X4_cup N k6 4) 0) (kcwV hts wd_ml_RL_60 wd_im_yX4_printer wd_sel_yX4_printer wd_ini_RX4 wd_code_yX4_printer rfl rfl rfl hd_X4_printer ⟨Nat.le_of_ble_eq_true rfl, Nat.le_of_ble_eq_true rfl⟩) ⟨in_blind, va_recv hK (pa_l (pa_r hPs)) (ci := 4) (q0 := 0) rfl rfl, k_pre hK (pa_l (pa_r hPs)) (da_l (da_r hDs)) hN⟩ rfl rfl hl.1 rfl (lv_room (Nat.le_of_ble_eq_true rfl)) dL_hangs_321 ⟨Nat.le_of_ble_eq_true rfl, Nat.le_of_ble_eq_true rfl⟩) hPs hDs hS hA (fun r274 u275 H locs hw276 hP hD hS => ?_)
          have hP := k_unP hP
          have hD := k_unD hD
          have hP : va_P D vwCl (DW cI cC cQ d0 n0 na s0 sa h1 h2 mm ma t0 p0 pa tk N S oo zz M0 M1 M2 M3 rs de pc pg sg ln po dd lt pl f1s s2s tms) H := hP
          have hD : va_D A (DW cI cC cQ d0 n0 na s0 sa h1 h2 mm ma t0 p0 pa tk N S oo zz M0 M1 M2 M3 rs de pc pg sg ln po dd lt pl f1s s2s tms) := hD
          have hw276 : r274 = (sh_X4_printer N (sh_X4_cup N k6 4) 0) := hw276
          subst hw276
          refine lv_iload hx hb dL_hangs_324 (lv_at hl 3 rfl) ?_
          refine lv_icmp_ne (tgt := 352) hx hb dL_hangs_326 (by decide) (fun c9 => absurd (hg_326 (hgI_in hI c25) c273) c9) (fun _ => ?_)
          exact K _ _ _ hP hD hS (lv_sub hl [9, 8, 7, 6, 5, 4, 3, 2, 1, 0] rfl)
  exact L100 (((4 : Int32).toInt - (0 : Int32).toInt).toNat + 1) (0) (0) (0) (0) (0) _ _ _ (Nat.lt_succ_self _) (hgI_0) hP hD hS (lv_sub hl [0, 1, 2, 3, 4, 5, 6] rfl)
