theorem sm_30 {N : TMa} {zz ln lnq k : Int32} (c : ¬ sh_X4_count N zz ln k = sh_X4_count N zz lnq k) : k = 12 := by
  by_cases h : k = 12
  · exact h
  · refine absurd ?_ c
    unfold sh_X4_count
    simp only [if_neg h]
abbrev rm_L_same : Room := { frames := 5, cells := 0, slots := 0, locals := 106 }
theorem hd_L_same : hdT yL_same 2 := by decide +kernel
set_option maxHeartbeats 40000000 in
set_option maxRecDepth 100000 in
theorem sm_1 {p : Program} {l : Launch} {e : Env} {s : State} {m : MethodId} {args : Array Value} {below : List Frame} {meth : Method} {c : Code} {A : Nat → Prop} {Q : State → Prop} {D : va_G} {cI cC cQ : ClassId} {d0 : Nat} {n0 : Nat} {na : Nat → Nat} {s0 : Nat} {sa : Nat → Nat} {h1 : Nat} {h2 : Nat} {mm : Nat → Nat} {ma : Nat → Nat → Nat} {t0 : Nat} {p0 : Nat} {pa : Nat → Nat} {d0q : Nat} {n0q : Nat} {naq : Nat → Nat} {s0q : Nat} {saq : Nat → Nat} {h1q : Nat} {h2q : Nat} {mmq : Nat → Nat} {maq : Nat → Nat → Nat} {t0q : Nat} {p0q : Nat} {paq : Nat → Nat} {tk : Int32} {N : TMa} {S : TMa} {oo : Int32} {zz : Int32} {M0 : TMa} {M1 : TMa} {M2 : TMa} {M3 : TMa} {rs : Int32} {de : Int32} {pc : Int32} {pg : Int32} {sg : Nat → Int32} {ln : Int32} {po : Int32} {dd : Int32} {lt : Nat → Int32} {pl : Nat → Int32} {f1s : Nat → Int32} {s2s : Nat → Int32} {tms : Nat → Int32} {lnq : Int32} {poq : Int32} {ddq : Int32} {ltq : Nat → Int32} {plq : Nat → Int32} {k3 : Int32} (F : FxM p s m c args A D cI cC cQ cL_same 4) (h14 : ¬ 14 ≤ k3) (go : AtL p l e rm_L_same s m args below meth c A Q D 0 0 4 ((DW cI cC cQ d0 n0 na s0 sa h1 h2 mm ma t0 p0 pa tk N S oo zz M0 M1 M2 M3 rs de pc pg sg ln po dd lt pl f1s s2s tms) ++ (DW cI cC cQ d0q n0q naq s0q saq h1q h2q mmq maq t0q p0q paq tk N S oo zz M0 M1 M2 M3 rs de pc pg sg lnq poq ddq ltq plq f1s s2s tms)) [(3, .int (k3 + 1)), (2, .int 1), (1, .ref d0q), (0, .ref d0)] 4 []) : AtL p l e rm_L_same s m args below meth c A Q D 0 0 4 ((DW cI cC cQ d0 n0 na s0 sa h1 h2 mm ma t0 p0 pa tk N S oo zz M0 M1 M2 M3 rs de pc pg sg ln po dd lt pl f1s s2s tms) ++ (DW cI cC cQ d0q n0q naq s0q saq h1q h2q mmq maq t0q p0q paq tk N S oo zz M0 M1 M2 M3 rs de pc pg sg lnq poq ddq ltq plq f1s s2s tms)) [(3, .int k3), (2, .int 1), (1, .ref d0q), (0, .ref d0)] 4 [] := by
  intro H locs ls hP hD hS hl
  obtain ⟨hx, hb, hml, hown, hts, hN, hA, hK⟩ := F
  refine lv_iload_n hx hb dL_same_4 rfl (lv_at hl 0 rfl) ?_
  refine lv_bipush (v := 14) hx hb dL_same_5 (by decide) ?_
  refine lv_icmp_ge (tgt := 45) hx hb dL_same_7 (by decide) (fun c9 => absurd c9 (h14)) (fun _ => ?_)
  refine lv_iload_n hx hb dL_same_10 rfl (lv_at hl 1 rfl) ?_
  refine lv_if_eq (tgt := 45) hx hb dL_same_11 (by decide) (fun c9 => absurd c9 (by decide)) (fun _ => ?_)
  refine lv_aload_n hx hb dL_same_14 rfl (lv_at hl 3 rfl) ?_
  refine lv_iload_n hx hb dL_same_15 rfl (lv_at hl 0 rfl) ?_
  have hPs : va_P D vwCl (([] : va_W) ++ ((DW cI cC cQ d0 n0 na s0 sa h1 h2 mm ma t0 p0 pa tk N S oo zz M0 M1 M2 M3 rs de pc pg sg ln po dd lt pl f1s s2s tms) ++ (DW cI cC cQ d0q n0q naq s0q saq h1q h2q mmq maq t0q p0q paq tk N S oo zz M0 M1 M2 M3 rs de pc pg sg lnq poq ddq ltq plq f1s s2s tms))) H := hP
  have hDs : va_D A (([] : va_W) ++ ((DW cI cC cQ d0 n0 na s0 sa h1 h2 mm ma t0 p0 pa tk N S oo zz M0 M1 M2 M3 rs de pc pg sg ln po dd lt pl f1s s2s tms) ++ (DW cI cC cQ d0q n0q naq s0q saq h1q h2q mmq maq t0q p0q paq tk N S oo zz M0 M1 M2 M3 rs de pc pg sg lnq poq ddq ltq plq f1s s2s tms))) := hD
  refine k_behq (X := ([] : va_W)) (Y := (DW cI cC cQ d0q n0q naq s0q saq h1q h2q mmq maq t0q p0q paq tk N S oo zz M0 M1 M2 M3 rs de pc pg sg lnq poq ddq ltq plq f1s s2s tms)) (va_runV (As := [.int k3]) (rest := []) ⟨hx, hb, hml, hown, hts⟩ (c_X4_count l D cI cC cQ H.size d0 n0 na s0 sa h1 h2 mm ma t0 p0 pa tk N S oo zz M0 M1 M2 M3 rs de pc pg sg ln po dd lt pl f1s s2s tms k3) (kcwV hts wd_ml_RL_53 wd_im_yX4_count wd_sel_yX4_count wd_ini_RX4 wd_code_yX4_count rfl rfl rfl hd_X4_count ⟨Nat.le_of_ble_eq_true rfl, Nat.le_of_ble_eq_true rfl⟩) ⟨in_blind, va_recv hK (pa_l (pa_r hPs)) (ci := 4) (q0 := 0) rfl rfl, k_pre hK (pa_l (pa_r hPs)) (da_l (da_r hDs)) hN⟩ rfl rfl hl.1 rfl (lv_room (Nat.le_of_ble_eq_true rfl)) dL_same_16 ⟨Nat.le_of_ble_eq_true rfl, Nat.le_of_ble_eq_true rfl⟩) hPs hDs hS hA (fun u2 H locs hP hD hS => ?_)
  have hP : va_P D vwCl ((DW cI cC cQ d0 n0 na s0 sa h1 h2 mm ma t0 p0 pa tk N S oo zz M0 M1 M2 M3 rs de pc pg sg ln po dd lt pl f1s s2s tms) ++ (DW cI cC cQ d0q n0q naq s0q saq h1q h2q mmq maq t0q p0q paq tk N S oo zz M0 M1 M2 M3 rs de pc pg sg lnq poq ddq ltq plq f1s s2s tms)) H := hP
  have hD : va_D A ((DW cI cC cQ d0 n0 na s0 sa h1 h2 mm ma t0 p0 pa tk N S oo zz M0 M1 M2 M3 rs de pc pg sg ln po dd lt pl f1s s2s tms) ++ (DW cI cC cQ d0q n0q naq s0q saq h1q h2q mmq maq t0q p0q paq tk N S oo zz M0 M1 M2 M3 rs de pc pg sg lnq poq ddq ltq plq f1s s2s tms)) := hD
  refine lv_aload_n hx hb dL_same_19 rfl (lv_at hl 2 rfl) ?_
  refine lv_iload_n hx hb dL_same_20 rfl (lv_at hl 0 rfl) ?_
  have hPs := k_endP hP
  have hDs := k_endD hD
  refine k_behq (X := (DW cI cC cQ d0 n0 na s0 sa h1 h2 mm ma t0 p0 pa tk N S oo zz M0 M1 M2 M3 rs de pc pg sg ln po dd lt pl f1s s2s tms)) (Y := ([] : va_W)) (va_runV (As := [.int k3]) (rest := [.int (sh_X4_count N zz ln k3)]) ⟨hx, hb, hml, hown, hts⟩ (c_X4_count l D cI cC cQ H.size d0q n0q naq s0q saq h1q h2q mmq maq t0q p0q paq tk N S oo zz M0 M1 M2 M3 rs de pc pg sg lnq poq ddq ltq plq f1s s2s tms k3) (kcwV hts wd_ml_RL_53 wd_im_yX4_count wd_sel_yX4_count wd_ini_RX4 wd_code_yX4_count rfl rfl rfl hd_X4_count ⟨Nat.le_of_ble_eq_true rfl, Nat.le_of_ble_eq_true rfl⟩) ⟨in_blind, va_recv hK (pa_l (pa_r hPs)) (ci := 4) (q0 := 0) rfl rfl, k_pre hK (pa_l (pa_r hPs)) (da_l (da_r hDs)) hN⟩ rfl rfl hl.1 rfl (lv_room (Nat.le_of_ble_eq_true rfl)) dL_same_21 ⟨Nat.le_of_ble_eq_true rfl, Nat.le_of_ble_eq_true rfl⟩) hPs hDs hS hA (fun u5 H locs hP hD hS => ?_)
  have hP := k_unendP hP
  have hD := k_unendD hD
  have hP : va_P D vwCl ((DW cI cC cQ d0 n0 na s0 sa h1 h2 mm ma t0 p0 pa tk N S oo zz M0 M1 M2 M3 rs de pc pg sg ln po dd lt pl f1s s2s tms) ++ (DW cI cC cQ d0q n0q naq s0q saq h1q h2q mmq maq t0q p0q paq tk N S oo zz M0 M1 M2 M3 rs de pc pg sg lnq poq ddq ltq plq f1s s2s tms)) H := hP
  have hD : va_D A ((DW cI cC cQ d0 n0 na s0 sa h1 h2 mm ma t0 p0 pa tk N S oo zz M0 M1 M2 M3 rs de pc pg sg ln po dd lt pl f1s s2s tms) ++ (DW cI cC cQ d0q n0q naq s0q saq h1q h2q mmq maq t0q p0q paq tk N S oo zz M0 M1 M2 M3 rs de pc pg sg lnq poq ddq ltq plq f1s s2s tms)) := hD
  have K : ∀  (H : Heap) (locs : List Loc) (ls : Array Slot), va_P D vwCl ((DW cI cC cQ d0 n0 na s0 sa h1 h2 mm ma t0 p0 pa tk N S oo zz M0 M1 M2 M3 rs de pc pg sg ln po dd lt pl f1s s2s tms) ++ (DW cI cC cQ d0q n0q naq s0q saq h1q h2q mmq maq t0q p0q paq tk N S oo zz M0 M1 M2 M3 rs de pc pg sg lnq poq ddq ltq plq f1s s2s tms)) H → va_D A ((DW cI cC cQ d0 n0 na s0 sa h1 h2 mm ma t0 p0 pa tk N S oo zz M0 M1 M2 M3 rs de pc pg sg ln po dd lt pl f1s s2s tms) ++ (DW cI cC cQ d0q n0q naq s0q saq h1q h2q mmq maq t0q p0q paq tk N S oo zz M0 M1 M2 M3 rs de pc pg sg lnq poq ddq ltq plq f1s s2s tms)) → va_S A s.heap H locs → lv_has ls 4 [(0, .ref d0), (1, .ref d0q), (2, .int 1), (3, .int k3)] → W p l e rm_L_same s m args below meth c H locs 0 0 Q (F0 m 33 ls []) := by
    intro  H locs ls  hP hD hS hl
    refine lv_iconst (v := 1) hx hb dL_same_33 (by decide) ?_
    refine lv_goto (tgt := 38) hx hb dL_same_34 (by decide) ?_
    refine lv_istore_n (lv' := [(2, .int 1), (0, .ref d0), (1, .ref d0q), (3, .int k3)]) hx hb dL_same_38 rfl hl (by decide) rfl (fun ls hl => ?_)
    refine lv_iinc (v := (k3 + 1)) (lv' := [(3, .int (k3 + 1)), (2, .int 1), (0, .ref d0), (1, .ref d0q)]) hx hb dL_same_39 hl (k := 3) rfl rfl (by decide) rfl (fun ls hl => ?_)
    refine lv_goto (tgt := 4) hx hb dL_same_42 (by decide) ?_
    exact go  _ _ _ hP hD hS (lv_sub hl [0, 1, 3, 2] rfl)
  refine lv_icmp_eq (tgt := 33) hx hb dL_same_24 (by decide) (fun c7 => ?_) (fun c7 => ?_)
  · skip
    exact K _ _ _ hP hD hS (lv_sub hl [3, 2, 1, 0] rfl)
  · skip
    refine lv_iload_n hx hb dL_same_27 rfl (lv_at hl 0 rfl) ?_
    refine lv_bipush (v := 12) hx hb dL_same_28 (by decide) ?_
    refine lv_icmp_ne (tgt := 37) hx hb dL_same_30 (by decide) (fun c9 => absurd (sm_30 c7) c9) (fun _ => ?_)
    exact K _ _ _ hP hD hS (lv_sub hl [3, 2, 1, 0] rfl)
set_option maxHeartbeats 40000000 in
set_option maxRecDepth 100000 in
theorem sm_2 {p : Program} {l : Launch} {e : Env} {s : State} {m : MethodId} {args : Array Value} {below : List Frame} {meth : Method} {c : Code} {A : Nat → Prop} {Q : State → Prop} {D : va_G} {cI cC cQ : ClassId} {d0 : Nat} {n0 : Nat} {na : Nat → Nat} {s0 : Nat} {sa : Nat → Nat} {h1 : Nat} {h2 : Nat} {mm : Nat → Nat} {ma : Nat → Nat → Nat} {t0 : Nat} {p0 : Nat} {pa : Nat → Nat} {d0q : Nat} {n0q : Nat} {naq : Nat → Nat} {s0q : Nat} {saq : Nat → Nat} {h1q : Nat} {h2q : Nat} {mmq : Nat → Nat} {maq : Nat → Nat → Nat} {t0q : Nat} {p0q : Nat} {paq : Nat → Nat} {tk : Int32} {N : TMa} {S : TMa} {oo : Int32} {zz : Int32} {M0 : TMa} {M1 : TMa} {M2 : TMa} {M3 : TMa} {rs : Int32} {de : Int32} {pc : Int32} {pg : Int32} {sg : Nat → Int32} {ln : Int32} {po : Int32} {dd : Int32} {lt : Nat → Int32} {pl : Nat → Int32} {f1s : Nat → Int32} {s2s : Nat → Int32} {tms : Nat → Int32} {lnq : Int32} {poq : Int32} {ddq : Int32} {ltq : Nat → Int32} {plq : Nat → Int32} {k3 : Int32} (F : FxM p s m c args A D cI cC cQ cL_same 4) (h14 : 14 ≤ k3) (go : AtL p l e rm_L_same s m args below meth c A Q D 0 0 4 ((DW cI cC cQ d0 n0 na s0 sa h1 h2 mm ma t0 p0 pa tk N S oo zz M0 M1 M2 M3 rs de pc pg sg ln po dd lt pl f1s s2s tms) ++ (DW cI cC cQ d0q n0q naq s0q saq h1q h2q mmq maq t0q p0q paq tk N S oo zz M0 M1 M2 M3 rs de pc pg sg lnq poq ddq ltq plq f1s s2s tms)) [(3, .int 0), (2, .int 1), (1, .ref d0q), (0, .ref d0)] 47 []) : AtL p l e rm_L_same s m args below meth c A Q D 0 0 4 ((DW cI cC cQ d0 n0 na s0 sa h1 h2 mm ma t0 p0 pa tk N S oo zz M0 M1 M2 M3 rs de pc pg sg ln po dd lt pl f1s s2s tms) ++ (DW cI cC cQ d0q n0q naq s0q saq h1q h2q mmq maq t0q p0q paq tk N S oo zz M0 M1 M2 M3 rs de pc pg sg lnq poq ddq ltq plq f1s s2s tms)) [(3, .int k3), (2, .int 1), (1, .ref d0q), (0, .ref d0)] 4 [] := by
  intro H locs ls hP hD hS hl
  obtain ⟨hx, hb, hml, hown, hts, hN, hA, hK⟩ := F
  refine lv_iload_n hx hb dL_same_4 rfl (lv_at hl 0 rfl) ?_
  refine lv_bipush (v := 14) hx hb dL_same_5 (by decide) ?_
  refine lv_icmp_ge (tgt := 45) hx hb dL_same_7 (by decide) (fun _ => ?_) (fun c9 => absurd (h14) c9)
  refine lv_iconst (v := 0) hx hb dL_same_45 (by decide) ?_
  refine lv_istore_n (lv' := [(3, .int 0), (2, .int 1), (1, .ref d0q), (0, .ref d0)]) hx hb dL_same_46 rfl hl (by decide) rfl (fun ls hl => ?_)
  exact go  _ _ _ hP hD hS (lv_sub hl [0, 1, 2, 3] rfl)
set_option maxHeartbeats 40000000 in
set_option maxRecDepth 100000 in
theorem sm_3 {p : Program} {l : Launch} {e : Env} {s : State} {m : MethodId} {args : Array Value} {below : List Frame} {meth : Method} {c : Code} {A : Nat → Prop} {Q : State → Prop} {D : va_G} {cI cC cQ : ClassId} {d0 : Nat} {n0 : Nat} {na : Nat → Nat} {s0 : Nat} {sa : Nat → Nat} {h1 : Nat} {h2 : Nat} {mm : Nat → Nat} {ma : Nat → Nat → Nat} {t0 : Nat} {p0 : Nat} {pa : Nat → Nat} {d0q : Nat} {n0q : Nat} {naq : Nat → Nat} {s0q : Nat} {saq : Nat → Nat} {h1q : Nat} {h2q : Nat} {mmq : Nat → Nat} {maq : Nat → Nat → Nat} {t0q : Nat} {p0q : Nat} {paq : Nat → Nat} {tk : Int32} {N : TMa} {S : TMa} {oo : Int32} {zz : Int32} {M0 : TMa} {M1 : TMa} {M2 : TMa} {M3 : TMa} {rs : Int32} {de : Int32} {pc : Int32} {pg : Int32} {sg : Nat → Int32} {ln : Int32} {po : Int32} {dd : Int32} {lt : Nat → Int32} {pl : Nat → Int32} {f1s : Nat → Int32} {s2s : Nat → Int32} {tms : Nat → Int32} {lnq : Int32} {poq : Int32} {ddq : Int32} {ltq : Nat → Int32} {plq : Nat → Int32} {k3 : Int32} (F : FxM p s m c args A D cI cC cQ cL_same 4) (h4 : ¬ 4 ≤ k3) (go : AtL p l e rm_L_same s m args below meth c A Q D 0 0 4 ((DW cI cC cQ d0 n0 na s0 sa h1 h2 mm ma t0 p0 pa tk N S oo zz M0 M1 M2 M3 rs de pc pg sg ln po dd lt pl f1s s2s tms) ++ (DW cI cC cQ d0q n0q naq s0q saq h1q h2q mmq maq t0q p0q paq tk N S oo zz M0 M1 M2 M3 rs de pc pg sg lnq poq ddq ltq plq f1s s2s tms)) [(3, .int (k3 + 1)), (2, .int 1), (1, .ref d0q), (0, .ref d0)] 47 []) : AtL p l e rm_L_same s m args below meth c A Q D 0 0 4 ((DW cI cC cQ d0 n0 na s0 sa h1 h2 mm ma t0 p0 pa tk N S oo zz M0 M1 M2 M3 rs de pc pg sg ln po dd lt pl f1s s2s tms) ++ (DW cI cC cQ d0q n0q naq s0q saq h1q h2q mmq maq t0q p0q paq tk N S oo zz M0 M1 M2 M3 rs de pc pg sg lnq poq ddq ltq plq f1s s2s tms)) [(3, .int k3), (2, .int 1), (1, .ref d0q), (0, .ref d0)] 47 [] := by
  intro H locs ls hP hD hS hl
  obtain ⟨hx, hb, hml, hown, hts, hN, hA, hK⟩ := F
  refine lv_iload_n hx hb dL_same_47 rfl (lv_at hl 0 rfl) ?_
  refine lv_iconst (v := 4) hx hb dL_same_48 (by decide) ?_
  refine lv_icmp_ge (tgt := 156) hx hb dL_same_49 (by decide) (fun c9 => absurd c9 (h4)) (fun _ => ?_)
  refine lv_iload_n hx hb dL_same_52 rfl (lv_at hl 1 rfl) ?_
  refine lv_if_eq (tgt := 156) hx hb dL_same_53 (by decide) (fun c9 => absurd c9 (by decide)) (fun _ => ?_)
  refine lv_aload_n hx hb dL_same_56 rfl (lv_at hl 3 rfl) ?_
  refine lv_iload_n hx hb dL_same_57 rfl (lv_at hl 0 rfl) ?_
  have hPs : va_P D vwCl (([] : va_W) ++ ((DW cI cC cQ d0 n0 na s0 sa h1 h2 mm ma t0 p0 pa tk N S oo zz M0 M1 M2 M3 rs de pc pg sg ln po dd lt pl f1s s2s tms) ++ (DW cI cC cQ d0q n0q naq s0q saq h1q h2q mmq maq t0q p0q paq tk N S oo zz M0 M1 M2 M3 rs de pc pg sg lnq poq ddq ltq plq f1s s2s tms))) H := hP
  have hDs : va_D A (([] : va_W) ++ ((DW cI cC cQ d0 n0 na s0 sa h1 h2 mm ma t0 p0 pa tk N S oo zz M0 M1 M2 M3 rs de pc pg sg ln po dd lt pl f1s s2s tms) ++ (DW cI cC cQ d0q n0q naq s0q saq h1q h2q mmq maq t0q p0q paq tk N S oo zz M0 M1 M2 M3 rs de pc pg sg lnq poq ddq ltq plq f1s s2s tms))) := hD
  refine k_behq (X := ([] : va_W)) (Y := (DW cI cC cQ d0q n0q naq s0q saq h1q h2q mmq maq t0q p0q paq tk N S oo zz M0 M1 M2 M3 rs de pc pg sg lnq poq ddq ltq plq f1s s2s tms)) (va_runV (As := [.int k3]) (rest := []) ⟨hx, hb, hml, hown, hts⟩ (c_X4_why l D cI cC cQ H.size d0 n0 na s0 sa h1 h2 mm ma t0 p0 pa tk N S oo zz M0 M1 M2 M3 rs de pc pg sg ln po dd lt pl f1s s2s tms k3) (kcwV hts wd_ml_RL_88 wd_im_yX4_why wd_sel_yX4_why wd_ini_RX4 wd_code_yX4_why rfl rfl rfl hd_X4_why ⟨Nat.le_of_ble_eq_true rfl, Nat.le_of_ble_eq_true rfl⟩) ⟨in_blind, va_recv hK (pa_l (pa_r hPs)) (ci := 4) (q0 := 0) rfl rfl, k_pre hK (pa_l (pa_r hPs)) (da_l (da_r hDs)) hN⟩ rfl rfl hl.1 rfl (lv_room (Nat.le_of_ble_eq_true rfl)) dL_same_58 ⟨Nat.le_of_ble_eq_true rfl, Nat.le_of_ble_eq_true rfl⟩) hPs hDs hS hA (fun u2 H locs hP hD hS => ?_)
  have hP : va_P D vwCl ((DW cI cC cQ d0 n0 na s0 sa h1 h2 mm ma t0 p0 pa tk N S oo zz M0 M1 M2 M3 rs de pc pg sg ln po dd lt pl f1s s2s tms) ++ (DW cI cC cQ d0q n0q naq s0q saq h1q h2q mmq maq t0q p0q paq tk N S oo zz M0 M1 M2 M3 rs de pc pg sg lnq poq ddq ltq plq f1s s2s tms)) H := hP
  have hD : va_D A ((DW cI cC cQ d0 n0 na s0 sa h1 h2 mm ma t0 p0 pa tk N S oo zz M0 M1 M2 M3 rs de pc pg sg ln po dd lt pl f1s s2s tms) ++ (DW cI cC cQ d0q n0q naq s0q saq h1q h2q mmq maq t0q p0q paq tk N S oo zz M0 M1 M2 M3 rs de pc pg sg lnq poq ddq ltq plq f1s s2s tms)) := hD
  refine lv_aload_n hx hb dL_same_61 rfl (lv_at hl 2 rfl) ?_
  refine lv_iload_n hx hb dL_same_62 rfl (lv_at hl 0 rfl) ?_
  have hPs := k_endP hP
  have hDs := k_endD hD
  refine k_behq (X := (DW cI cC cQ d0 n0 na s0 sa h1 h2 mm ma t0 p0 pa tk N S oo zz M0 M1 M2 M3 rs de pc pg sg ln po dd lt pl f1s s2s tms)) (Y := ([] : va_W)) (va_runV (As := [.int k3]) (rest := [.int (sh_X4_why rs de pc pg k3)]) ⟨hx, hb, hml, hown, hts⟩ (c_X4_why l D cI cC cQ H.size d0q n0q naq s0q saq h1q h2q mmq maq t0q p0q paq tk N S oo zz M0 M1 M2 M3 rs de pc pg sg lnq poq ddq ltq plq f1s s2s tms k3) (kcwV hts wd_ml_RL_88 wd_im_yX4_why wd_sel_yX4_why wd_ini_RX4 wd_code_yX4_why rfl rfl rfl hd_X4_why ⟨Nat.le_of_ble_eq_true rfl, Nat.le_of_ble_eq_true rfl⟩) ⟨in_blind, va_recv hK (pa_l (pa_r hPs)) (ci := 4) (q0 := 0) rfl rfl, k_pre hK (pa_l (pa_r hPs)) (da_l (da_r hDs)) hN⟩ rfl rfl hl.1 rfl (lv_room (Nat.le_of_ble_eq_true rfl)) dL_same_63 ⟨Nat.le_of_ble_eq_true rfl, Nat.le_of_ble_eq_true rfl⟩) hPs hDs hS hA (fun u5 H locs hP hD hS => ?_)
  have hP := k_unendP hP
  have hD := k_unendD hD
  have hP : va_P D vwCl ((DW cI cC cQ d0 n0 na s0 sa h1 h2 mm ma t0 p0 pa tk N S oo zz M0 M1 M2 M3 rs de pc pg sg ln po dd lt pl f1s s2s tms) ++ (DW cI cC cQ d0q n0q naq s0q saq h1q h2q mmq maq t0q p0q paq tk N S oo zz M0 M1 M2 M3 rs de pc pg sg lnq poq ddq ltq plq f1s s2s tms)) H := hP
  have hD : va_D A ((DW cI cC cQ d0 n0 na s0 sa h1 h2 mm ma t0 p0 pa tk N S oo zz M0 M1 M2 M3 rs de pc pg sg ln po dd lt pl f1s s2s tms) ++ (DW cI cC cQ d0q n0q naq s0q saq h1q h2q mmq maq t0q p0q paq tk N S oo zz M0 M1 M2 M3 rs de pc pg sg lnq poq ddq ltq plq f1s s2s tms)) := hD
  refine lv_icmp_ne (tgt := 148) hx hb dL_same_66 (by decide) (fun c9 => absurd (rfl) c9) (fun _ => ?_)
  refine lv_aload_n hx hb dL_same_69 rfl (lv_at hl 3 rfl) ?_
  refine lv_iload_n hx hb dL_same_70 rfl (lv_at hl 0 rfl) ?_
  refine lv_iconst (v := 0) hx hb dL_same_71 (by decide) ?_
  have hPs : va_P D vwCl (([] : va_W) ++ ((DW cI cC cQ d0 n0 na s0 sa h1 h2 mm ma t0 p0 pa tk N S oo zz M0 M1 M2 M3 rs de pc pg sg ln po dd lt pl f1s s2s tms) ++ (DW cI cC cQ d0q n0q naq s0q saq h1q h2q mmq maq t0q p0q paq tk N S oo zz M0 M1 M2 M3 rs de pc pg sg lnq poq ddq ltq plq f1s s2s tms))) H := hP
  have hDs : va_D A (([] : va_W) ++ ((DW cI cC cQ d0 n0 na s0 sa h1 h2 mm ma t0 p0 pa tk N S oo zz M0 M1 M2 M3 rs de pc pg sg ln po dd lt pl f1s s2s tms) ++ (DW cI cC cQ d0q n0q naq s0q saq h1q h2q mmq maq t0q p0q paq tk N S oo zz M0 M1 M2 M3 rs de pc pg sg lnq poq ddq ltq plq f1s s2s tms))) := hD
  refine k_behq (X := ([] : va_W)) (Y := (DW cI cC cQ d0q n0q naq s0q saq h1q h2q mmq maq t0q p0q paq tk N S oo zz M0 M1 M2 M3 rs de pc pg sg lnq poq ddq ltq plq f1s s2s tms)) (va_runV (As := [.int k3, .int 0]) (rest := []) ⟨hx, hb, hml, hown, hts⟩ (c_X4_cup l D cI cC cQ H.size d0 n0 na s0 sa h1 h2 mm ma t0 p0 pa tk N S oo zz M0 M1 M2 M3 rs de pc pg sg ln po dd lt pl f1s s2s tms k3 0) (kcwV hts wd_ml_RL_56 wd_im_yX4_cup wd_sel_yX4_cup wd_ini_RX4 wd_code_yX4_cup rfl rfl rfl hd_X4_cup ⟨Nat.le_of_ble_eq_true rfl, Nat.le_of_ble_eq_true rfl⟩) ⟨in_blind, va_recv hK (pa_l (pa_r hPs)) (ci := 4) (q0 := 0) rfl rfl, k_pre hK (pa_l (pa_r hPs)) (da_l (da_r hDs)) hN⟩ rfl rfl hl.1 rfl (lv_room (Nat.le_of_ble_eq_true rfl)) dL_same_72 ⟨Nat.le_of_ble_eq_true rfl, Nat.le_of_ble_eq_true rfl⟩) hPs hDs hS hA (fun u8 H locs hP hD hS => ?_)
  have hP : va_P D vwCl ((DW cI cC cQ d0 n0 na s0 sa h1 h2 mm ma t0 p0 pa tk N S oo zz M0 M1 M2 M3 rs de pc pg sg ln po dd lt pl f1s s2s tms) ++ (DW cI cC cQ d0q n0q naq s0q saq h1q h2q mmq maq t0q p0q paq tk N S oo zz M0 M1 M2 M3 rs de pc pg sg lnq poq ddq ltq plq f1s s2s tms)) H := hP
  have hD : va_D A ((DW cI cC cQ d0 n0 na s0 sa h1 h2 mm ma t0 p0 pa tk N S oo zz M0 M1 M2 M3 rs de pc pg sg ln po dd lt pl f1s s2s tms) ++ (DW cI cC cQ d0q n0q naq s0q saq h1q h2q mmq maq t0q p0q paq tk N S oo zz M0 M1 M2 M3 rs de pc pg sg lnq poq ddq ltq plq f1s s2s tms)) := hD
  refine lv_aload_n hx hb dL_same_75 rfl (lv_at hl 2 rfl) ?_
  refine lv_iload_n hx hb dL_same_76 rfl (lv_at hl 0 rfl) ?_
  refine lv_iconst (v := 0) hx hb dL_same_77 (by decide) ?_
  have hPs := k_endP hP
  have hDs := k_endD hD
  refine k_behq (X := (DW cI cC cQ d0 n0 na s0 sa h1 h2 mm ma t0 p0 pa tk N S oo zz M0 M1 M2 M3 rs de pc pg sg ln po dd lt pl f1s s2s tms)) (Y := ([] : va_W)) (va_runV (As := [.int k3, .int 0]) (rest := [.int (sh_X4_cup N k3 0)]) ⟨hx, hb, hml, hown, hts⟩ (c_X4_cup l D cI cC cQ H.size d0q n0q naq s0q saq h1q h2q mmq maq t0q p0q paq tk N S oo zz M0 M1 M2 M3 rs de pc pg sg lnq poq ddq ltq plq f1s s2s tms k3 0) (kcwV hts wd_ml_RL_56 wd_im_yX4_cup wd_sel_yX4_cup wd_ini_RX4 wd_code_yX4_cup rfl rfl rfl hd_X4_cup ⟨Nat.le_of_ble_eq_true rfl, Nat.le_of_ble_eq_true rfl⟩) ⟨in_blind, va_recv hK (pa_l (pa_r hPs)) (ci := 4) (q0 := 0) rfl rfl, k_pre hK (pa_l (pa_r hPs)) (da_l (da_r hDs)) hN⟩ rfl rfl hl.1 rfl (lv_room (Nat.le_of_ble_eq_true rfl)) dL_same_78 ⟨Nat.le_of_ble_eq_true rfl, Nat.le_of_ble_eq_true rfl⟩) hPs hDs hS hA (fun u11 H locs hP hD hS => ?_)
  have hP := k_unendP hP
  have hD := k_unendD hD
  have hP : va_P D vwCl ((DW cI cC cQ d0 n0 na s0 sa h1 h2 mm ma t0 p0 pa tk N S oo zz M0 M1 M2 M3 rs de pc pg sg ln po dd lt pl f1s s2s tms) ++ (DW cI cC cQ d0q n0q naq s0q saq h1q h2q mmq maq t0q p0q paq tk N S oo zz M0 M1 M2 M3 rs de pc pg sg lnq poq ddq ltq plq f1s s2s tms)) H := hP
  have hD : va_D A ((DW cI cC cQ d0 n0 na s0 sa h1 h2 mm ma t0 p0 pa tk N S oo zz M0 M1 M2 M3 rs de pc pg sg ln po dd lt pl f1s s2s tms) ++ (DW cI cC cQ d0q n0q naq s0q saq h1q h2q mmq maq t0q p0q paq tk N S oo zz M0 M1 M2 M3 rs de pc pg sg lnq poq ddq ltq plq f1s s2s tms)) := hD
  refine lv_icmp_ne (tgt := 148) hx hb dL_same_81 (by decide) (fun c9 => absurd (rfl) c9) (fun _ => ?_)
  refine lv_aload_n hx hb dL_same_84 rfl (lv_at hl 3 rfl) ?_
  refine lv_iload_n hx hb dL_same_85 rfl (lv_at hl 0 rfl) ?_
  refine lv_iconst (v := 1) hx hb dL_same_86 (by decide) ?_
  have hPs : va_P D vwCl (([] : va_W) ++ ((DW cI cC cQ d0 n0 na s0 sa h1 h2 mm ma t0 p0 pa tk N S oo zz M0 M1 M2 M3 rs de pc pg sg ln po dd lt pl f1s s2s tms) ++ (DW cI cC cQ d0q n0q naq s0q saq h1q h2q mmq maq t0q p0q paq tk N S oo zz M0 M1 M2 M3 rs de pc pg sg lnq poq ddq ltq plq f1s s2s tms))) H := hP
  have hDs : va_D A (([] : va_W) ++ ((DW cI cC cQ d0 n0 na s0 sa h1 h2 mm ma t0 p0 pa tk N S oo zz M0 M1 M2 M3 rs de pc pg sg ln po dd lt pl f1s s2s tms) ++ (DW cI cC cQ d0q n0q naq s0q saq h1q h2q mmq maq t0q p0q paq tk N S oo zz M0 M1 M2 M3 rs de pc pg sg lnq poq ddq ltq plq f1s s2s tms))) := hD
  refine k_behq (X := ([] : va_W)) (Y := (DW cI cC cQ d0q n0q naq s0q saq h1q h2q mmq maq t0q p0q paq tk N S oo zz M0 M1 M2 M3 rs de pc pg sg lnq poq ddq ltq plq f1s s2s tms)) (va_runV (As := [.int k3, .int 1]) (rest := []) ⟨hx, hb, hml, hown, hts⟩ (c_X4_cup l D cI cC cQ H.size d0 n0 na s0 sa h1 h2 mm ma t0 p0 pa tk N S oo zz M0 M1 M2 M3 rs de pc pg sg ln po dd lt pl f1s s2s tms k3 1) (kcwV hts wd_ml_RL_56 wd_im_yX4_cup wd_sel_yX4_cup wd_ini_RX4 wd_code_yX4_cup rfl rfl rfl hd_X4_cup ⟨Nat.le_of_ble_eq_true rfl, Nat.le_of_ble_eq_true rfl⟩) ⟨in_blind, va_recv hK (pa_l (pa_r hPs)) (ci := 4) (q0 := 0) rfl rfl, k_pre hK (pa_l (pa_r hPs)) (da_l (da_r hDs)) hN⟩ rfl rfl hl.1 rfl (lv_room (Nat.le_of_ble_eq_true rfl)) dL_same_87 ⟨Nat.le_of_ble_eq_true rfl, Nat.le_of_ble_eq_true rfl⟩) hPs hDs hS hA (fun u14 H locs hP hD hS => ?_)
  have hP : va_P D vwCl ((DW cI cC cQ d0 n0 na s0 sa h1 h2 mm ma t0 p0 pa tk N S oo zz M0 M1 M2 M3 rs de pc pg sg ln po dd lt pl f1s s2s tms) ++ (DW cI cC cQ d0q n0q naq s0q saq h1q h2q mmq maq t0q p0q paq tk N S oo zz M0 M1 M2 M3 rs de pc pg sg lnq poq ddq ltq plq f1s s2s tms)) H := hP
  have hD : va_D A ((DW cI cC cQ d0 n0 na s0 sa h1 h2 mm ma t0 p0 pa tk N S oo zz M0 M1 M2 M3 rs de pc pg sg ln po dd lt pl f1s s2s tms) ++ (DW cI cC cQ d0q n0q naq s0q saq h1q h2q mmq maq t0q p0q paq tk N S oo zz M0 M1 M2 M3 rs de pc pg sg lnq poq ddq ltq plq f1s s2s tms)) := hD
  refine lv_aload_n hx hb dL_same_90 rfl (lv_at hl 2 rfl) ?_
  refine lv_iload_n hx hb dL_same_91 rfl (lv_at hl 0 rfl) ?_
  refine lv_iconst (v := 1) hx hb dL_same_92 (by decide) ?_
  have hPs := k_endP hP
  have hDs := k_endD hD
  refine k_behq (X := (DW cI cC cQ d0 n0 na s0 sa h1 h2 mm ma t0 p0 pa tk N S oo zz M0 M1 M2 M3 rs de pc pg sg ln po dd lt pl f1s s2s tms)) (Y := ([] : va_W)) (va_runV (As := [.int k3, .int 1]) (rest := [.int (sh_X4_cup N k3 1)]) ⟨hx, hb, hml, hown, hts⟩ (c_X4_cup l D cI cC cQ H.size d0q n0q naq s0q saq h1q h2q mmq maq t0q p0q paq tk N S oo zz M0 M1 M2 M3 rs de pc pg sg lnq poq ddq ltq plq f1s s2s tms k3 1) (kcwV hts wd_ml_RL_56 wd_im_yX4_cup wd_sel_yX4_cup wd_ini_RX4 wd_code_yX4_cup rfl rfl rfl hd_X4_cup ⟨Nat.le_of_ble_eq_true rfl, Nat.le_of_ble_eq_true rfl⟩) ⟨in_blind, va_recv hK (pa_l (pa_r hPs)) (ci := 4) (q0 := 0) rfl rfl, k_pre hK (pa_l (pa_r hPs)) (da_l (da_r hDs)) hN⟩ rfl rfl hl.1 rfl (lv_room (Nat.le_of_ble_eq_true rfl)) dL_same_93 ⟨Nat.le_of_ble_eq_true rfl, Nat.le_of_ble_eq_true rfl⟩) hPs hDs hS hA (fun u17 H locs hP hD hS => ?_)
  have hP := k_unendP hP
  have hD := k_unendD hD
  have hP : va_P D vwCl ((DW cI cC cQ d0 n0 na s0 sa h1 h2 mm ma t0 p0 pa tk N S oo zz M0 M1 M2 M3 rs de pc pg sg ln po dd lt pl f1s s2s tms) ++ (DW cI cC cQ d0q n0q naq s0q saq h1q h2q mmq maq t0q p0q paq tk N S oo zz M0 M1 M2 M3 rs de pc pg sg lnq poq ddq ltq plq f1s s2s tms)) H := hP
  have hD : va_D A ((DW cI cC cQ d0 n0 na s0 sa h1 h2 mm ma t0 p0 pa tk N S oo zz M0 M1 M2 M3 rs de pc pg sg ln po dd lt pl f1s s2s tms) ++ (DW cI cC cQ d0q n0q naq s0q saq h1q h2q mmq maq t0q p0q paq tk N S oo zz M0 M1 M2 M3 rs de pc pg sg lnq poq ddq ltq plq f1s s2s tms)) := hD
  refine lv_icmp_ne (tgt := 148) hx hb dL_same_96 (by decide) (fun c9 => absurd (rfl) c9) (fun _ => ?_)
  refine lv_aload_n hx hb dL_same_99 rfl (lv_at hl 3 rfl) ?_
  refine lv_iload_n hx hb dL_same_100 rfl (lv_at hl 0 rfl) ?_
  refine lv_iconst (v := 2) hx hb dL_same_101 (by decide) ?_
  have hPs : va_P D vwCl (([] : va_W) ++ ((DW cI cC cQ d0 n0 na s0 sa h1 h2 mm ma t0 p0 pa tk N S oo zz M0 M1 M2 M3 rs de pc pg sg ln po dd lt pl f1s s2s tms) ++ (DW cI cC cQ d0q n0q naq s0q saq h1q h2q mmq maq t0q p0q paq tk N S oo zz M0 M1 M2 M3 rs de pc pg sg lnq poq ddq ltq plq f1s s2s tms))) H := hP
  have hDs : va_D A (([] : va_W) ++ ((DW cI cC cQ d0 n0 na s0 sa h1 h2 mm ma t0 p0 pa tk N S oo zz M0 M1 M2 M3 rs de pc pg sg ln po dd lt pl f1s s2s tms) ++ (DW cI cC cQ d0q n0q naq s0q saq h1q h2q mmq maq t0q p0q paq tk N S oo zz M0 M1 M2 M3 rs de pc pg sg lnq poq ddq ltq plq f1s s2s tms))) := hD
  refine k_behq (X := ([] : va_W)) (Y := (DW cI cC cQ d0q n0q naq s0q saq h1q h2q mmq maq t0q p0q paq tk N S oo zz M0 M1 M2 M3 rs de pc pg sg lnq poq ddq ltq plq f1s s2s tms)) (va_runV (As := [.int k3, .int 2]) (rest := []) ⟨hx, hb, hml, hown, hts⟩ (c_X4_cup l D cI cC cQ H.size d0 n0 na s0 sa h1 h2 mm ma t0 p0 pa tk N S oo zz M0 M1 M2 M3 rs de pc pg sg ln po dd lt pl f1s s2s tms k3 2) (kcwV hts wd_ml_RL_56 wd_im_yX4_cup wd_sel_yX4_cup wd_ini_RX4 wd_code_yX4_cup rfl rfl rfl hd_X4_cup ⟨Nat.le_of_ble_eq_true rfl, Nat.le_of_ble_eq_true rfl⟩) ⟨in_blind, va_recv hK (pa_l (pa_r hPs)) (ci := 4) (q0 := 0) rfl rfl, k_pre hK (pa_l (pa_r hPs)) (da_l (da_r hDs)) hN⟩ rfl rfl hl.1 rfl (lv_room (Nat.le_of_ble_eq_true rfl)) dL_same_102 ⟨Nat.le_of_ble_eq_true rfl, Nat.le_of_ble_eq_true rfl⟩) hPs hDs hS hA (fun u20 H locs hP hD hS => ?_)
  have hP : va_P D vwCl ((DW cI cC cQ d0 n0 na s0 sa h1 h2 mm ma t0 p0 pa tk N S oo zz M0 M1 M2 M3 rs de pc pg sg ln po dd lt pl f1s s2s tms) ++ (DW cI cC cQ d0q n0q naq s0q saq h1q h2q mmq maq t0q p0q paq tk N S oo zz M0 M1 M2 M3 rs de pc pg sg lnq poq ddq ltq plq f1s s2s tms)) H := hP
  have hD : va_D A ((DW cI cC cQ d0 n0 na s0 sa h1 h2 mm ma t0 p0 pa tk N S oo zz M0 M1 M2 M3 rs de pc pg sg ln po dd lt pl f1s s2s tms) ++ (DW cI cC cQ d0q n0q naq s0q saq h1q h2q mmq maq t0q p0q paq tk N S oo zz M0 M1 M2 M3 rs de pc pg sg lnq poq ddq ltq plq f1s s2s tms)) := hD
  refine lv_aload_n hx hb dL_same_105 rfl (lv_at hl 2 rfl) ?_
  refine lv_iload_n hx hb dL_same_106 rfl (lv_at hl 0 rfl) ?_
  refine lv_iconst (v := 2) hx hb dL_same_107 (by decide) ?_
  have hPs := k_endP hP
  have hDs := k_endD hD
  refine k_behq (X := (DW cI cC cQ d0 n0 na s0 sa h1 h2 mm ma t0 p0 pa tk N S oo zz M0 M1 M2 M3 rs de pc pg sg ln po dd lt pl f1s s2s tms)) (Y := ([] : va_W)) (va_runV (As := [.int k3, .int 2]) (rest := [.int (sh_X4_cup N k3 2)]) ⟨hx, hb, hml, hown, hts⟩ (c_X4_cup l D cI cC cQ H.size d0q n0q naq s0q saq h1q h2q mmq maq t0q p0q paq tk N S oo zz M0 M1 M2 M3 rs de pc pg sg lnq poq ddq ltq plq f1s s2s tms k3 2) (kcwV hts wd_ml_RL_56 wd_im_yX4_cup wd_sel_yX4_cup wd_ini_RX4 wd_code_yX4_cup rfl rfl rfl hd_X4_cup ⟨Nat.le_of_ble_eq_true rfl, Nat.le_of_ble_eq_true rfl⟩) ⟨in_blind, va_recv hK (pa_l (pa_r hPs)) (ci := 4) (q0 := 0) rfl rfl, k_pre hK (pa_l (pa_r hPs)) (da_l (da_r hDs)) hN⟩ rfl rfl hl.1 rfl (lv_room (Nat.le_of_ble_eq_true rfl)) dL_same_108 ⟨Nat.le_of_ble_eq_true rfl, Nat.le_of_ble_eq_true rfl⟩) hPs hDs hS hA (fun u23 H locs hP hD hS => ?_)
  have hP := k_unendP hP
  have hD := k_unendD hD
  have hP : va_P D vwCl ((DW cI cC cQ d0 n0 na s0 sa h1 h2 mm ma t0 p0 pa tk N S oo zz M0 M1 M2 M3 rs de pc pg sg ln po dd lt pl f1s s2s tms) ++ (DW cI cC cQ d0q n0q naq s0q saq h1q h2q mmq maq t0q p0q paq tk N S oo zz M0 M1 M2 M3 rs de pc pg sg lnq poq ddq ltq plq f1s s2s tms)) H := hP
  have hD : va_D A ((DW cI cC cQ d0 n0 na s0 sa h1 h2 mm ma t0 p0 pa tk N S oo zz M0 M1 M2 M3 rs de pc pg sg ln po dd lt pl f1s s2s tms) ++ (DW cI cC cQ d0q n0q naq s0q saq h1q h2q mmq maq t0q p0q paq tk N S oo zz M0 M1 M2 M3 rs de pc pg sg lnq poq ddq ltq plq f1s s2s tms)) := hD
  refine lv_icmp_ne (tgt := 148) hx hb dL_same_111 (by decide) (fun c9 => absurd (rfl) c9) (fun _ => ?_)
  refine lv_aload_n hx hb dL_same_114 rfl (lv_at hl 3 rfl) ?_
  refine lv_iload_n hx hb dL_same_115 rfl (lv_at hl 0 rfl) ?_
  refine lv_iconst (v := 3) hx hb dL_same_116 (by decide) ?_
  have hPs : va_P D vwCl (([] : va_W) ++ ((DW cI cC cQ d0 n0 na s0 sa h1 h2 mm ma t0 p0 pa tk N S oo zz M0 M1 M2 M3 rs de pc pg sg ln po dd lt pl f1s s2s tms) ++ (DW cI cC cQ d0q n0q naq s0q saq h1q h2q mmq maq t0q p0q paq tk N S oo zz M0 M1 M2 M3 rs de pc pg sg lnq poq ddq ltq plq f1s s2s tms))) H := hP
  have hDs : va_D A (([] : va_W) ++ ((DW cI cC cQ d0 n0 na s0 sa h1 h2 mm ma t0 p0 pa tk N S oo zz M0 M1 M2 M3 rs de pc pg sg ln po dd lt pl f1s s2s tms) ++ (DW cI cC cQ d0q n0q naq s0q saq h1q h2q mmq maq t0q p0q paq tk N S oo zz M0 M1 M2 M3 rs de pc pg sg lnq poq ddq ltq plq f1s s2s tms))) := hD
  refine k_behq (X := ([] : va_W)) (Y := (DW cI cC cQ d0q n0q naq s0q saq h1q h2q mmq maq t0q p0q paq tk N S oo zz M0 M1 M2 M3 rs de pc pg sg lnq poq ddq ltq plq f1s s2s tms)) (va_runV (As := [.int k3, .int 3]) (rest := []) ⟨hx, hb, hml, hown, hts⟩ (c_X4_cup l D cI cC cQ H.size d0 n0 na s0 sa h1 h2 mm ma t0 p0 pa tk N S oo zz M0 M1 M2 M3 rs de pc pg sg ln po dd lt pl f1s s2s tms k3 3) (kcwV hts wd_ml_RL_56 wd_im_yX4_cup wd_sel_yX4_cup wd_ini_RX4 wd_code_yX4_cup rfl rfl rfl hd_X4_cup ⟨Nat.le_of_ble_eq_true rfl, Nat.le_of_ble_eq_true rfl⟩) ⟨in_blind, va_recv hK (pa_l (pa_r hPs)) (ci := 4) (q0 := 0) rfl rfl, k_pre hK (pa_l (pa_r hPs)) (da_l (da_r hDs)) hN⟩ rfl rfl hl.1 rfl (lv_room (Nat.le_of_ble_eq_true rfl)) dL_same_117 ⟨Nat.le_of_ble_eq_true rfl, Nat.le_of_ble_eq_true rfl⟩) hPs hDs hS hA (fun u26 H locs hP hD hS => ?_)
  have hP : va_P D vwCl ((DW cI cC cQ d0 n0 na s0 sa h1 h2 mm ma t0 p0 pa tk N S oo zz M0 M1 M2 M3 rs de pc pg sg ln po dd lt pl f1s s2s tms) ++ (DW cI cC cQ d0q n0q naq s0q saq h1q h2q mmq maq t0q p0q paq tk N S oo zz M0 M1 M2 M3 rs de pc pg sg lnq poq ddq ltq plq f1s s2s tms)) H := hP
  have hD : va_D A ((DW cI cC cQ d0 n0 na s0 sa h1 h2 mm ma t0 p0 pa tk N S oo zz M0 M1 M2 M3 rs de pc pg sg ln po dd lt pl f1s s2s tms) ++ (DW cI cC cQ d0q n0q naq s0q saq h1q h2q mmq maq t0q p0q paq tk N S oo zz M0 M1 M2 M3 rs de pc pg sg lnq poq ddq ltq plq f1s s2s tms)) := hD
  refine lv_aload_n hx hb dL_same_120 rfl (lv_at hl 2 rfl) ?_
  refine lv_iload_n hx hb dL_same_121 rfl (lv_at hl 0 rfl) ?_
  refine lv_iconst (v := 3) hx hb dL_same_122 (by decide) ?_
  have hPs := k_endP hP
  have hDs := k_endD hD
  refine k_behq (X := (DW cI cC cQ d0 n0 na s0 sa h1 h2 mm ma t0 p0 pa tk N S oo zz M0 M1 M2 M3 rs de pc pg sg ln po dd lt pl f1s s2s tms)) (Y := ([] : va_W)) (va_runV (As := [.int k3, .int 3]) (rest := [.int (sh_X4_cup N k3 3)]) ⟨hx, hb, hml, hown, hts⟩ (c_X4_cup l D cI cC cQ H.size d0q n0q naq s0q saq h1q h2q mmq maq t0q p0q paq tk N S oo zz M0 M1 M2 M3 rs de pc pg sg lnq poq ddq ltq plq f1s s2s tms k3 3) (kcwV hts wd_ml_RL_56 wd_im_yX4_cup wd_sel_yX4_cup wd_ini_RX4 wd_code_yX4_cup rfl rfl rfl hd_X4_cup ⟨Nat.le_of_ble_eq_true rfl, Nat.le_of_ble_eq_true rfl⟩) ⟨in_blind, va_recv hK (pa_l (pa_r hPs)) (ci := 4) (q0 := 0) rfl rfl, k_pre hK (pa_l (pa_r hPs)) (da_l (da_r hDs)) hN⟩ rfl rfl hl.1 rfl (lv_room (Nat.le_of_ble_eq_true rfl)) dL_same_123 ⟨Nat.le_of_ble_eq_true rfl, Nat.le_of_ble_eq_true rfl⟩) hPs hDs hS hA (fun u29 H locs hP hD hS => ?_)
  have hP := k_unendP hP
  have hD := k_unendD hD
  have hP : va_P D vwCl ((DW cI cC cQ d0 n0 na s0 sa h1 h2 mm ma t0 p0 pa tk N S oo zz M0 M1 M2 M3 rs de pc pg sg ln po dd lt pl f1s s2s tms) ++ (DW cI cC cQ d0q n0q naq s0q saq h1q h2q mmq maq t0q p0q paq tk N S oo zz M0 M1 M2 M3 rs de pc pg sg lnq poq ddq ltq plq f1s s2s tms)) H := hP
  have hD : va_D A ((DW cI cC cQ d0 n0 na s0 sa h1 h2 mm ma t0 p0 pa tk N S oo zz M0 M1 M2 M3 rs de pc pg sg ln po dd lt pl f1s s2s tms) ++ (DW cI cC cQ d0q n0q naq s0q saq h1q h2q mmq maq t0q p0q paq tk N S oo zz M0 M1 M2 M3 rs de pc pg sg lnq poq ddq ltq plq f1s s2s tms)) := hD
  refine lv_icmp_ne (tgt := 148) hx hb dL_same_126 (by decide) (fun c9 => absurd (rfl) c9) (fun _ => ?_)
  refine lv_aload_n hx hb dL_same_129 rfl (lv_at hl 3 rfl) ?_
  refine lv_iload_n hx hb dL_same_130 rfl (lv_at hl 0 rfl) ?_
  refine lv_iconst (v := 4) hx hb dL_same_131 (by decide) ?_
  have hPs : va_P D vwCl (([] : va_W) ++ ((DW cI cC cQ d0 n0 na s0 sa h1 h2 mm ma t0 p0 pa tk N S oo zz M0 M1 M2 M3 rs de pc pg sg ln po dd lt pl f1s s2s tms) ++ (DW cI cC cQ d0q n0q naq s0q saq h1q h2q mmq maq t0q p0q paq tk N S oo zz M0 M1 M2 M3 rs de pc pg sg lnq poq ddq ltq plq f1s s2s tms))) H := hP
  have hDs : va_D A (([] : va_W) ++ ((DW cI cC cQ d0 n0 na s0 sa h1 h2 mm ma t0 p0 pa tk N S oo zz M0 M1 M2 M3 rs de pc pg sg ln po dd lt pl f1s s2s tms) ++ (DW cI cC cQ d0q n0q naq s0q saq h1q h2q mmq maq t0q p0q paq tk N S oo zz M0 M1 M2 M3 rs de pc pg sg lnq poq ddq ltq plq f1s s2s tms))) := hD
  refine k_behq (X := ([] : va_W)) (Y := (DW cI cC cQ d0q n0q naq s0q saq h1q h2q mmq maq t0q p0q paq tk N S oo zz M0 M1 M2 M3 rs de pc pg sg lnq poq ddq ltq plq f1s s2s tms)) (va_runV (As := [.int k3, .int 4]) (rest := []) ⟨hx, hb, hml, hown, hts⟩ (c_X4_cup l D cI cC cQ H.size d0 n0 na s0 sa h1 h2 mm ma t0 p0 pa tk N S oo zz M0 M1 M2 M3 rs de pc pg sg ln po dd lt pl f1s s2s tms k3 4) (kcwV hts wd_ml_RL_56 wd_im_yX4_cup wd_sel_yX4_cup wd_ini_RX4 wd_code_yX4_cup rfl rfl rfl hd_X4_cup ⟨Nat.le_of_ble_eq_true rfl, Nat.le_of_ble_eq_true rfl⟩) ⟨in_blind, va_recv hK (pa_l (pa_r hPs)) (ci := 4) (q0 := 0) rfl rfl, k_pre hK (pa_l (pa_r hPs)) (da_l (da_r hDs)) hN⟩ rfl rfl hl.1 rfl (lv_room (Nat.le_of_ble_eq_true rfl)) dL_same_132 ⟨Nat.le_of_ble_eq_true rfl, Nat.le_of_ble_eq_true rfl⟩) hPs hDs hS hA (fun u32 H locs hP hD hS => ?_)
  have hP : va_P D vwCl ((DW cI cC cQ d0 n0 na s0 sa h1 h2 mm ma t0 p0 pa tk N S oo zz M0 M1 M2 M3 rs de pc pg sg ln po dd lt pl f1s s2s tms) ++ (DW cI cC cQ d0q n0q naq s0q saq h1q h2q mmq maq t0q p0q paq tk N S oo zz M0 M1 M2 M3 rs de pc pg sg lnq poq ddq ltq plq f1s s2s tms)) H := hP
  have hD : va_D A ((DW cI cC cQ d0 n0 na s0 sa h1 h2 mm ma t0 p0 pa tk N S oo zz M0 M1 M2 M3 rs de pc pg sg ln po dd lt pl f1s s2s tms) ++ (DW cI cC cQ d0q n0q naq s0q saq h1q h2q mmq maq t0q p0q paq tk N S oo zz M0 M1 M2 M3 rs de pc pg sg lnq poq ddq ltq plq f1s s2s tms)) := hD
  refine lv_aload_n hx hb dL_same_135 rfl (lv_at hl 2 rfl) ?_
  refine lv_iload_n hx hb dL_same_136 rfl (lv_at hl 0 rfl) ?_
  refine lv_iconst (v := 4) hx hb dL_same_137 (by decide) ?_
  have hPs := k_endP hP
  have hDs := k_endD hD
  refine k_behq (X := (DW cI cC cQ d0 n0 na s0 sa h1 h2 mm ma t0 p0 pa tk N S oo zz M0 M1 M2 M3 rs de pc pg sg ln po dd lt pl f1s s2s tms)) (Y := ([] : va_W)) (va_runV (As := [.int k3, .int 4]) (rest := [.int (sh_X4_cup N k3 4)]) ⟨hx, hb, hml, hown, hts⟩ (c_X4_cup l D cI cC cQ H.size d0q n0q naq s0q saq h1q h2q mmq maq t0q p0q paq tk N S oo zz M0 M1 M2 M3 rs de pc pg sg lnq poq ddq ltq plq f1s s2s tms k3 4) (kcwV hts wd_ml_RL_56 wd_im_yX4_cup wd_sel_yX4_cup wd_ini_RX4 wd_code_yX4_cup rfl rfl rfl hd_X4_cup ⟨Nat.le_of_ble_eq_true rfl, Nat.le_of_ble_eq_true rfl⟩) ⟨in_blind, va_recv hK (pa_l (pa_r hPs)) (ci := 4) (q0 := 0) rfl rfl, k_pre hK (pa_l (pa_r hPs)) (da_l (da_r hDs)) hN⟩ rfl rfl hl.1 rfl (lv_room (Nat.le_of_ble_eq_true rfl)) dL_same_138 ⟨Nat.le_of_ble_eq_true rfl, Nat.le_of_ble_eq_true rfl⟩) hPs hDs hS hA (fun u35 H locs hP hD hS => ?_)
  have hP := k_unendP hP
  have hD := k_unendD hD
  have hP : va_P D vwCl ((DW cI cC cQ d0 n0 na s0 sa h1 h2 mm ma t0 p0 pa tk N S oo zz M0 M1 M2 M3 rs de pc pg sg ln po dd lt pl f1s s2s tms) ++ (DW cI cC cQ d0q n0q naq s0q saq h1q h2q mmq maq t0q p0q paq tk N S oo zz M0 M1 M2 M3 rs de pc pg sg lnq poq ddq ltq plq f1s s2s tms)) H := hP
  have hD : va_D A ((DW cI cC cQ d0 n0 na s0 sa h1 h2 mm ma t0 p0 pa tk N S oo zz M0 M1 M2 M3 rs de pc pg sg ln po dd lt pl f1s s2s tms) ++ (DW cI cC cQ d0q n0q naq s0q saq h1q h2q mmq maq t0q p0q paq tk N S oo zz M0 M1 M2 M3 rs de pc pg sg lnq poq ddq ltq plq f1s s2s tms)) := hD
  refine lv_icmp_ne (tgt := 148) hx hb dL_same_141 (by decide) (fun c9 => absurd (rfl) c9) (fun _ => ?_)
  refine lv_iconst (v := 1) hx hb dL_same_144 (by decide) ?_
  refine lv_goto (tgt := 149) hx hb dL_same_145 (by decide) ?_
  refine lv_istore_n (lv' := [(2, .int 1), (3, .int k3), (1, .ref d0q), (0, .ref d0)]) hx hb dL_same_149 rfl hl (by decide) rfl (fun ls hl => ?_)
  refine lv_iinc (v := (k3 + 1)) (lv' := [(3, .int (k3 + 1)), (2, .int 1), (1, .ref d0q), (0, .ref d0)]) hx hb dL_same_150 hl (k := 1) rfl rfl (by decide) rfl (fun ls hl => ?_)
  refine lv_goto (tgt := 47) hx hb dL_same_153 (by decide) ?_
  exact go  _ _ _ hP hD hS (lv_sub hl [0, 1, 2, 3] rfl)
set_option maxHeartbeats 40000000 in
set_option maxRecDepth 100000 in
theorem sm_4 {p : Program} {l : Launch} {e : Env} {s : State} {m : MethodId} {args : Array Value} {below : List Frame} {meth : Method} {c : Code} {A : Nat → Prop} {Q : State → Prop} {D : va_G} {cI cC cQ : ClassId} {d0 : Nat} {n0 : Nat} {na : Nat → Nat} {s0 : Nat} {sa : Nat → Nat} {h1 : Nat} {h2 : Nat} {mm : Nat → Nat} {ma : Nat → Nat → Nat} {t0 : Nat} {p0 : Nat} {pa : Nat → Nat} {d0q : Nat} {n0q : Nat} {naq : Nat → Nat} {s0q : Nat} {saq : Nat → Nat} {h1q : Nat} {h2q : Nat} {mmq : Nat → Nat} {maq : Nat → Nat → Nat} {t0q : Nat} {p0q : Nat} {paq : Nat → Nat} {tk : Int32} {N : TMa} {S : TMa} {oo : Int32} {zz : Int32} {M0 : TMa} {M1 : TMa} {M2 : TMa} {M3 : TMa} {rs : Int32} {de : Int32} {pc : Int32} {pg : Int32} {sg : Nat → Int32} {ln : Int32} {po : Int32} {dd : Int32} {lt : Nat → Int32} {pl : Nat → Int32} {f1s : Nat → Int32} {s2s : Nat → Int32} {tms : Nat → Int32} {lnq : Int32} {poq : Int32} {ddq : Int32} {ltq : Nat → Int32} {plq : Nat → Int32} {k3 : Int32} (F : FxM p s m c args A D cI cC cQ cL_same 4) (h4 : 4 ≤ k3) (go : AtL p l e rm_L_same s m args below meth c A Q D 0 0 4 ((DW cI cC cQ d0 n0 na s0 sa h1 h2 mm ma t0 p0 pa tk N S oo zz M0 M1 M2 M3 rs de pc pg sg ln po dd lt pl f1s s2s tms) ++ (DW cI cC cQ d0q n0q naq s0q saq h1q h2q mmq maq t0q p0q paq tk N S oo zz M0 M1 M2 M3 rs de pc pg sg lnq poq ddq ltq plq f1s s2s tms)) [(3, .int 0), (2, .int 1), (1, .ref d0q), (0, .ref d0)] 158 []) : AtL p l e rm_L_same s m args below meth c A Q D 0 0 4 ((DW cI cC cQ d0 n0 na s0 sa h1 h2 mm ma t0 p0 pa tk N S oo zz M0 M1 M2 M3 rs de pc pg sg ln po dd lt pl f1s s2s tms) ++ (DW cI cC cQ d0q n0q naq s0q saq h1q h2q mmq maq t0q p0q paq tk N S oo zz M0 M1 M2 M3 rs de pc pg sg lnq poq ddq ltq plq f1s s2s tms)) [(3, .int k3), (2, .int 1), (1, .ref d0q), (0, .ref d0)] 47 [] := by
  intro H locs ls hP hD hS hl
  obtain ⟨hx, hb, hml, hown, hts, hN, hA, hK⟩ := F
  refine lv_iload_n hx hb dL_same_47 rfl (lv_at hl 0 rfl) ?_
  refine lv_iconst (v := 4) hx hb dL_same_48 (by decide) ?_
  refine lv_icmp_ge (tgt := 156) hx hb dL_same_49 (by decide) (fun _ => ?_) (fun c9 => absurd (h4) c9)
  refine lv_iconst (v := 0) hx hb dL_same_156 (by decide) ?_
  refine lv_istore_n (lv' := [(3, .int 0), (2, .int 1), (1, .ref d0q), (0, .ref d0)]) hx hb dL_same_157 rfl hl (by decide) rfl (fun ls hl => ?_)
  exact go  _ _ _ hP hD hS (lv_sub hl [0, 1, 2, 3] rfl)
set_option maxHeartbeats 40000000 in
set_option maxRecDepth 100000 in
theorem sm_5 {p : Program} {l : Launch} {e : Env} {s : State} {m : MethodId} {args : Array Value} {below : List Frame} {meth : Method} {c : Code} {A : Nat → Prop} {Q : State → Prop} {D : va_G} {cI cC cQ : ClassId} {d0 : Nat} {n0 : Nat} {na : Nat → Nat} {s0 : Nat} {sa : Nat → Nat} {h1 : Nat} {h2 : Nat} {mm : Nat → Nat} {ma : Nat → Nat → Nat} {t0 : Nat} {p0 : Nat} {pa : Nat → Nat} {d0q : Nat} {n0q : Nat} {naq : Nat → Nat} {s0q : Nat} {saq : Nat → Nat} {h1q : Nat} {h2q : Nat} {mmq : Nat → Nat} {maq : Nat → Nat → Nat} {t0q : Nat} {p0q : Nat} {paq : Nat → Nat} {tk : Int32} {N : TMa} {S : TMa} {oo : Int32} {zz : Int32} {M0 : TMa} {M1 : TMa} {M2 : TMa} {M3 : TMa} {rs : Int32} {de : Int32} {pc : Int32} {pg : Int32} {sg : Nat → Int32} {ln : Int32} {po : Int32} {dd : Int32} {lt : Nat → Int32} {pl : Nat → Int32} {f1s : Nat → Int32} {s2s : Nat → Int32} {tms : Nat → Int32} {lnq : Int32} {poq : Int32} {ddq : Int32} {ltq : Nat → Int32} {plq : Nat → Int32} {k3 : Int32} (F : FxM p s m c args A D cI cC cQ cL_same 4) (h6 : ¬ 6 ≤ k3) (go : AtL p l e rm_L_same s m args below meth c A Q D 0 0 4 ((DW cI cC cQ d0 n0 na s0 sa h1 h2 mm ma t0 p0 pa tk N S oo zz M0 M1 M2 M3 rs de pc pg sg ln po dd lt pl f1s s2s tms) ++ (DW cI cC cQ d0q n0q naq s0q saq h1q h2q mmq maq t0q p0q paq tk N S oo zz M0 M1 M2 M3 rs de pc pg sg lnq poq ddq ltq plq f1s s2s tms)) [(3, .int (k3 + 1)), (2, .int 1), (1, .ref d0q), (0, .ref d0)] 158 []) : AtL p l e rm_L_same s m args below meth c A Q D 0 0 4 ((DW cI cC cQ d0 n0 na s0 sa h1 h2 mm ma t0 p0 pa tk N S oo zz M0 M1 M2 M3 rs de pc pg sg ln po dd lt pl f1s s2s tms) ++ (DW cI cC cQ d0q n0q naq s0q saq h1q h2q mmq maq t0q p0q paq tk N S oo zz M0 M1 M2 M3 rs de pc pg sg lnq poq ddq ltq plq f1s s2s tms)) [(3, .int k3), (2, .int 1), (1, .ref d0q), (0, .ref d0)] 158 [] := by
  intro H locs ls hP hD hS hl
  obtain ⟨hx, hb, hml, hown, hts, hN, hA, hK⟩ := F
  refine lv_iload_n hx hb dL_same_158 rfl (lv_at hl 0 rfl) ?_
  refine lv_bipush (v := 6) hx hb dL_same_159 (by decide) ?_
  refine lv_icmp_ge (tgt := 210) hx hb dL_same_161 (by decide) (fun c9 => absurd c9 (h6)) (fun _ => ?_)
  refine lv_iload_n hx hb dL_same_164 rfl (lv_at hl 1 rfl) ?_
  refine lv_if_eq (tgt := 210) hx hb dL_same_165 (by decide) (fun c9 => absurd c9 (by decide)) (fun _ => ?_)
  refine lv_aload_n hx hb dL_same_168 rfl (lv_at hl 3 rfl) ?_
  refine lv_iconst (v := 0) hx hb dL_same_169 (by decide) ?_
  refine lv_iload_n hx hb dL_same_170 rfl (lv_at hl 0 rfl) ?_
  have hPs : va_P D vwCl (([] : va_W) ++ ((DW cI cC cQ d0 n0 na s0 sa h1 h2 mm ma t0 p0 pa tk N S oo zz M0 M1 M2 M3 rs de pc pg sg ln po dd lt pl f1s s2s tms) ++ (DW cI cC cQ d0q n0q naq s0q saq h1q h2q mmq maq t0q p0q paq tk N S oo zz M0 M1 M2 M3 rs de pc pg sg lnq poq ddq ltq plq f1s s2s tms))) H := hP
  have hDs : va_D A (([] : va_W) ++ ((DW cI cC cQ d0 n0 na s0 sa h1 h2 mm ma t0 p0 pa tk N S oo zz M0 M1 M2 M3 rs de pc pg sg ln po dd lt pl f1s s2s tms) ++ (DW cI cC cQ d0q n0q naq s0q saq h1q h2q mmq maq t0q p0q paq tk N S oo zz M0 M1 M2 M3 rs de pc pg sg lnq poq ddq ltq plq f1s s2s tms))) := hD
  refine k_behq (X := ([] : va_W)) (Y := (DW cI cC cQ d0q n0q naq s0q saq h1q h2q mmq maq t0q p0q paq tk N S oo zz M0 M1 M2 M3 rs de pc pg sg lnq poq ddq ltq plq f1s s2s tms)) (va_runV (As := [.int 0, .int k3]) (rest := []) ⟨hx, hb, hml, hown, hts⟩ (c_X4_printer l D cI cC cQ H.size d0 n0 na s0 sa h1 h2 mm ma t0 p0 pa tk N S oo zz M0 M1 M2 M3 rs de pc pg sg ln po dd lt pl f1s s2s tms 0 k3) (kcwV hts wd_ml_RL_60 wd_im_yX4_printer wd_sel_yX4_printer wd_ini_RX4 wd_code_yX4_printer rfl rfl rfl hd_X4_printer ⟨Nat.le_of_ble_eq_true rfl, Nat.le_of_ble_eq_true rfl⟩) ⟨in_blind, va_recv hK (pa_l (pa_r hPs)) (ci := 4) (q0 := 0) rfl rfl, k_pre hK (pa_l (pa_r hPs)) (da_l (da_r hDs)) hN⟩ rfl rfl hl.1 rfl (lv_room (Nat.le_of_ble_eq_true rfl)) dL_same_171 ⟨Nat.le_of_ble_eq_true rfl, Nat.le_of_ble_eq_true rfl⟩) hPs hDs hS hA (fun u2 H locs hP hD hS => ?_)
  have hP : va_P D vwCl ((DW cI cC cQ d0 n0 na s0 sa h1 h2 mm ma t0 p0 pa tk N S oo zz M0 M1 M2 M3 rs de pc pg sg ln po dd lt pl f1s s2s tms) ++ (DW cI cC cQ d0q n0q naq s0q saq h1q h2q mmq maq t0q p0q paq tk N S oo zz M0 M1 M2 M3 rs de pc pg sg lnq poq ddq ltq plq f1s s2s tms)) H := hP
  have hD : va_D A ((DW cI cC cQ d0 n0 na s0 sa h1 h2 mm ma t0 p0 pa tk N S oo zz M0 M1 M2 M3 rs de pc pg sg ln po dd lt pl f1s s2s tms) ++ (DW cI cC cQ d0q n0q naq s0q saq h1q h2q mmq maq t0q p0q paq tk N S oo zz M0 M1 M2 M3 rs de pc pg sg lnq poq ddq ltq plq f1s s2s tms)) := hD
  refine lv_aload_n hx hb dL_same_174 rfl (lv_at hl 2 rfl) ?_
  refine lv_iconst (v := 0) hx hb dL_same_175 (by decide) ?_
  refine lv_iload_n hx hb dL_same_176 rfl (lv_at hl 0 rfl) ?_
  have hPs := k_endP hP
  have hDs := k_endD hD
  refine k_behq (X := (DW cI cC cQ d0 n0 na s0 sa h1 h2 mm ma t0 p0 pa tk N S oo zz M0 M1 M2 M3 rs de pc pg sg ln po dd lt pl f1s s2s tms)) (Y := ([] : va_W)) (va_runV (As := [.int 0, .int k3]) (rest := [.int (sh_X4_printer N 0 k3)]) ⟨hx, hb, hml, hown, hts⟩ (c_X4_printer l D cI cC cQ H.size d0q n0q naq s0q saq h1q h2q mmq maq t0q p0q paq tk N S oo zz M0 M1 M2 M3 rs de pc pg sg lnq poq ddq ltq plq f1s s2s tms 0 k3) (kcwV hts wd_ml_RL_60 wd_im_yX4_printer wd_sel_yX4_printer wd_ini_RX4 wd_code_yX4_printer rfl rfl rfl hd_X4_printer ⟨Nat.le_of_ble_eq_true rfl, Nat.le_of_ble_eq_true rfl⟩) ⟨in_blind, va_recv hK (pa_l (pa_r hPs)) (ci := 4) (q0 := 0) rfl rfl, k_pre hK (pa_l (pa_r hPs)) (da_l (da_r hDs)) hN⟩ rfl rfl hl.1 rfl (lv_room (Nat.le_of_ble_eq_true rfl)) dL_same_177 ⟨Nat.le_of_ble_eq_true rfl, Nat.le_of_ble_eq_true rfl⟩) hPs hDs hS hA (fun u5 H locs hP hD hS => ?_)
  have hP := k_unendP hP
  have hD := k_unendD hD
  have hP : va_P D vwCl ((DW cI cC cQ d0 n0 na s0 sa h1 h2 mm ma t0 p0 pa tk N S oo zz M0 M1 M2 M3 rs de pc pg sg ln po dd lt pl f1s s2s tms) ++ (DW cI cC cQ d0q n0q naq s0q saq h1q h2q mmq maq t0q p0q paq tk N S oo zz M0 M1 M2 M3 rs de pc pg sg lnq poq ddq ltq plq f1s s2s tms)) H := hP
  have hD : va_D A ((DW cI cC cQ d0 n0 na s0 sa h1 h2 mm ma t0 p0 pa tk N S oo zz M0 M1 M2 M3 rs de pc pg sg ln po dd lt pl f1s s2s tms) ++ (DW cI cC cQ d0q n0q naq s0q saq h1q h2q mmq maq t0q p0q paq tk N S oo zz M0 M1 M2 M3 rs de pc pg sg lnq poq ddq ltq plq f1s s2s tms)) := hD
  refine lv_icmp_ne (tgt := 202) hx hb dL_same_180 (by decide) (fun c9 => absurd (rfl) c9) (fun _ => ?_)
  refine lv_aload_n hx hb dL_same_183 rfl (lv_at hl 3 rfl) ?_
  refine lv_iconst (v := 1) hx hb dL_same_184 (by decide) ?_
  refine lv_iload_n hx hb dL_same_185 rfl (lv_at hl 0 rfl) ?_
  have hPs : va_P D vwCl (([] : va_W) ++ ((DW cI cC cQ d0 n0 na s0 sa h1 h2 mm ma t0 p0 pa tk N S oo zz M0 M1 M2 M3 rs de pc pg sg ln po dd lt pl f1s s2s tms) ++ (DW cI cC cQ d0q n0q naq s0q saq h1q h2q mmq maq t0q p0q paq tk N S oo zz M0 M1 M2 M3 rs de pc pg sg lnq poq ddq ltq plq f1s s2s tms))) H := hP
  have hDs : va_D A (([] : va_W) ++ ((DW cI cC cQ d0 n0 na s0 sa h1 h2 mm ma t0 p0 pa tk N S oo zz M0 M1 M2 M3 rs de pc pg sg ln po dd lt pl f1s s2s tms) ++ (DW cI cC cQ d0q n0q naq s0q saq h1q h2q mmq maq t0q p0q paq tk N S oo zz M0 M1 M2 M3 rs de pc pg sg lnq poq ddq ltq plq f1s s2s tms))) := hD
  refine k_behq (X := ([] : va_W)) (Y := (DW cI cC cQ d0q n0q naq s0q saq h1q h2q mmq maq t0q p0q paq tk N S oo zz M0 M1 M2 M3 rs de pc pg sg lnq poq ddq ltq plq f1s s2s tms)) (va_runV (As := [.int 1, .int k3]) (rest := []) ⟨hx, hb, hml, hown, hts⟩ (c_X4_printer l D cI cC cQ H.size d0 n0 na s0 sa h1 h2 mm ma t0 p0 pa tk N S oo zz M0 M1 M2 M3 rs de pc pg sg ln po dd lt pl f1s s2s tms 1 k3) (kcwV hts wd_ml_RL_60 wd_im_yX4_printer wd_sel_yX4_printer wd_ini_RX4 wd_code_yX4_printer rfl rfl rfl hd_X4_printer ⟨Nat.le_of_ble_eq_true rfl, Nat.le_of_ble_eq_true rfl⟩) ⟨in_blind, va_recv hK (pa_l (pa_r hPs)) (ci := 4) (q0 := 0) rfl rfl, k_pre hK (pa_l (pa_r hPs)) (da_l (da_r hDs)) hN⟩ rfl rfl hl.1 rfl (lv_room (Nat.le_of_ble_eq_true rfl)) dL_same_186 ⟨Nat.le_of_ble_eq_true rfl, Nat.le_of_ble_eq_true rfl⟩) hPs hDs hS hA (fun u8 H locs hP hD hS => ?_)
  have hP : va_P D vwCl ((DW cI cC cQ d0 n0 na s0 sa h1 h2 mm ma t0 p0 pa tk N S oo zz M0 M1 M2 M3 rs de pc pg sg ln po dd lt pl f1s s2s tms) ++ (DW cI cC cQ d0q n0q naq s0q saq h1q h2q mmq maq t0q p0q paq tk N S oo zz M0 M1 M2 M3 rs de pc pg sg lnq poq ddq ltq plq f1s s2s tms)) H := hP
  have hD : va_D A ((DW cI cC cQ d0 n0 na s0 sa h1 h2 mm ma t0 p0 pa tk N S oo zz M0 M1 M2 M3 rs de pc pg sg ln po dd lt pl f1s s2s tms) ++ (DW cI cC cQ d0q n0q naq s0q saq h1q h2q mmq maq t0q p0q paq tk N S oo zz M0 M1 M2 M3 rs de pc pg sg lnq poq ddq ltq plq f1s s2s tms)) := hD
  refine lv_aload_n hx hb dL_same_189 rfl (lv_at hl 2 rfl) ?_
  refine lv_iconst (v := 1) hx hb dL_same_190 (by decide) ?_
  refine lv_iload_n hx hb dL_same_191 rfl (lv_at hl 0 rfl) ?_
  have hPs := k_endP hP
  have hDs := k_endD hD
  refine k_behq (X := (DW cI cC cQ d0 n0 na s0 sa h1 h2 mm ma t0 p0 pa tk N S oo zz M0 M1 M2 M3 rs de pc pg sg ln po dd lt pl f1s s2s tms)) (Y := ([] : va_W)) (va_runV (As := [.int 1, .int k3]) (rest := [.int (sh_X4_printer N 1 k3)]) ⟨hx, hb, hml, hown, hts⟩ (c_X4_printer l D cI cC cQ H.size d0q n0q naq s0q saq h1q h2q mmq maq t0q p0q paq tk N S oo zz M0 M1 M2 M3 rs de pc pg sg lnq poq ddq ltq plq f1s s2s tms 1 k3) (kcwV hts wd_ml_RL_60 wd_im_yX4_printer wd_sel_yX4_printer wd_ini_RX4 wd_code_yX4_printer rfl rfl rfl hd_X4_printer ⟨Nat.le_of_ble_eq_true rfl, Nat.le_of_ble_eq_true rfl⟩) ⟨in_blind, va_recv hK (pa_l (pa_r hPs)) (ci := 4) (q0 := 0) rfl rfl, k_pre hK (pa_l (pa_r hPs)) (da_l (da_r hDs)) hN⟩ rfl rfl hl.1 rfl (lv_room (Nat.le_of_ble_eq_true rfl)) dL_same_192 ⟨Nat.le_of_ble_eq_true rfl, Nat.le_of_ble_eq_true rfl⟩) hPs hDs hS hA (fun u11 H locs hP hD hS => ?_)
  have hP := k_unendP hP
  have hD := k_unendD hD
  have hP : va_P D vwCl ((DW cI cC cQ d0 n0 na s0 sa h1 h2 mm ma t0 p0 pa tk N S oo zz M0 M1 M2 M3 rs de pc pg sg ln po dd lt pl f1s s2s tms) ++ (DW cI cC cQ d0q n0q naq s0q saq h1q h2q mmq maq t0q p0q paq tk N S oo zz M0 M1 M2 M3 rs de pc pg sg lnq poq ddq ltq plq f1s s2s tms)) H := hP
  have hD : va_D A ((DW cI cC cQ d0 n0 na s0 sa h1 h2 mm ma t0 p0 pa tk N S oo zz M0 M1 M2 M3 rs de pc pg sg ln po dd lt pl f1s s2s tms) ++ (DW cI cC cQ d0q n0q naq s0q saq h1q h2q mmq maq t0q p0q paq tk N S oo zz M0 M1 M2 M3 rs de pc pg sg lnq poq ddq ltq plq f1s s2s tms)) := hD
  refine lv_icmp_ne (tgt := 202) hx hb dL_same_195 (by decide) (fun c9 => absurd (rfl) c9) (fun _ => ?_)
  refine lv_iconst (v := 1) hx hb dL_same_198 (by decide) ?_
  refine lv_goto (tgt := 203) hx hb dL_same_199 (by decide) ?_
  refine lv_istore_n (lv' := [(2, .int 1), (3, .int k3), (1, .ref d0q), (0, .ref d0)]) hx hb dL_same_203 rfl hl (by decide) rfl (fun ls hl => ?_)
  refine lv_iinc (v := (k3 + 1)) (lv' := [(3, .int (k3 + 1)), (2, .int 1), (1, .ref d0q), (0, .ref d0)]) hx hb dL_same_204 hl (k := 1) rfl rfl (by decide) rfl (fun ls hl => ?_)
  refine lv_goto (tgt := 158) hx hb dL_same_207 (by decide) ?_
  exact go  _ _ _ hP hD hS (lv_sub hl [0, 1, 2, 3] rfl)
set_option maxHeartbeats 40000000 in
set_option maxRecDepth 100000 in
theorem sm_6 {p : Program} {l : Launch} {e : Env} {s : State} {m : MethodId} {args : Array Value} {below : List Frame} {meth : Method} {c : Code} {A : Nat → Prop} {Q : State → Prop} {D : va_G} {cI cC cQ : ClassId} {d0 : Nat} {n0 : Nat} {na : Nat → Nat} {s0 : Nat} {sa : Nat → Nat} {h1 : Nat} {h2 : Nat} {mm : Nat → Nat} {ma : Nat → Nat → Nat} {t0 : Nat} {p0 : Nat} {pa : Nat → Nat} {d0q : Nat} {n0q : Nat} {naq : Nat → Nat} {s0q : Nat} {saq : Nat → Nat} {h1q : Nat} {h2q : Nat} {mmq : Nat → Nat} {maq : Nat → Nat → Nat} {t0q : Nat} {p0q : Nat} {paq : Nat → Nat} {tk : Int32} {N : TMa} {S : TMa} {oo : Int32} {zz : Int32} {M0 : TMa} {M1 : TMa} {M2 : TMa} {M3 : TMa} {rs : Int32} {de : Int32} {pc : Int32} {pg : Int32} {sg : Nat → Int32} {ln : Int32} {po : Int32} {dd : Int32} {lt : Nat → Int32} {pl : Nat → Int32} {f1s : Nat → Int32} {s2s : Nat → Int32} {tms : Nat → Int32} {lnq : Int32} {poq : Int32} {ddq : Int32} {ltq : Nat → Int32} {plq : Nat → Int32} {k3 : Int32} (F : FxM p s m c args A D cI cC cQ cL_same 4) (h6 : 6 ≤ k3) (go : AtL p l e rm_L_same s m args below meth c A Q D 0 0 4 ((DW cI cC cQ d0 n0 na s0 sa h1 h2 mm ma t0 p0 pa tk N S oo zz M0 M1 M2 M3 rs de pc pg sg ln po dd lt pl f1s s2s tms) ++ (DW cI cC cQ d0q n0q naq s0q saq h1q h2q mmq maq t0q p0q paq tk N S oo zz M0 M1 M2 M3 rs de pc pg sg lnq poq ddq ltq plq f1s s2s tms)) [(0, .ref d0)] 211 [.int 1]) : AtL p l e rm_L_same s m args below meth c A Q D 0 0 4 ((DW cI cC cQ d0 n0 na s0 sa h1 h2 mm ma t0 p0 pa tk N S oo zz M0 M1 M2 M3 rs de pc pg sg ln po dd lt pl f1s s2s tms) ++ (DW cI cC cQ d0q n0q naq s0q saq h1q h2q mmq maq t0q p0q paq tk N S oo zz M0 M1 M2 M3 rs de pc pg sg lnq poq ddq ltq plq f1s s2s tms)) [(3, .int k3), (2, .int 1), (1, .ref d0q), (0, .ref d0)] 158 [] := by
  intro H locs ls hP hD hS hl
  obtain ⟨hx, hb, hml, hown, hts, hN, hA, hK⟩ := F
  refine lv_iload_n hx hb dL_same_158 rfl (lv_at hl 0 rfl) ?_
  refine lv_bipush (v := 6) hx hb dL_same_159 (by decide) ?_
  refine lv_icmp_ge (tgt := 210) hx hb dL_same_161 (by decide) (fun _ => ?_) (fun c9 => absurd (h6) c9)
  refine lv_iload_n hx hb dL_same_210 rfl (lv_at hl 1 rfl) ?_
  exact go  _ _ _ hP hD hS (lv_sub hl [3] rfl)
set_option maxHeartbeats 40000000 in
set_option maxRecDepth 100000 in
theorem sm_0 {p : Program} {l : Launch} {e : Env} {s : State} {m : MethodId} {args : Array Value} {below : List Frame} {meth : Method} {c : Code} {A : Nat → Prop} {Q : State → Prop} {D : va_G} {cI cC cQ : ClassId} {d0 : Nat} {n0 : Nat} {na : Nat → Nat} {s0 : Nat} {sa : Nat → Nat} {h1 : Nat} {h2 : Nat} {mm : Nat → Nat} {ma : Nat → Nat → Nat} {t0 : Nat} {p0 : Nat} {pa : Nat → Nat} {d0q : Nat} {n0q : Nat} {naq : Nat → Nat} {s0q : Nat} {saq : Nat → Nat} {h1q : Nat} {h2q : Nat} {mmq : Nat → Nat} {maq : Nat → Nat → Nat} {t0q : Nat} {p0q : Nat} {paq : Nat → Nat} {tk : Int32} {N : TMa} {S : TMa} {oo : Int32} {zz : Int32} {M0 : TMa} {M1 : TMa} {M2 : TMa} {M3 : TMa} {rs : Int32} {de : Int32} {pc : Int32} {pg : Int32} {sg : Nat → Int32} {ln : Int32} {po : Int32} {dd : Int32} {lt : Nat → Int32} {pl : Nat → Int32} {f1s : Nat → Int32} {s2s : Nat → Int32} {tms : Nat → Int32} {lnq : Int32} {poq : Int32} {ddq : Int32} {ltq : Nat → Int32} {plq : Nat → Int32}  (F : FxM p s m c args A D cI cC cQ cL_same 4) (go : AtL p l e rm_L_same s m args below meth c A Q D 0 0 4 ((DW cI cC cQ d0 n0 na s0 sa h1 h2 mm ma t0 p0 pa tk N S oo zz M0 M1 M2 M3 rs de pc pg sg ln po dd lt pl f1s s2s tms) ++ (DW cI cC cQ d0q n0q naq s0q saq h1q h2q mmq maq t0q p0q paq tk N S oo zz M0 M1 M2 M3 rs de pc pg sg lnq poq ddq ltq plq f1s s2s tms)) [(3, .int 0), (2, .int 1), (1, .ref d0q), (0, .ref d0)] 4 []) : AtL p l e rm_L_same s m args below meth c A Q D 0 0 4 ((DW cI cC cQ d0 n0 na s0 sa h1 h2 mm ma t0 p0 pa tk N S oo zz M0 M1 M2 M3 rs de pc pg sg ln po dd lt pl f1s s2s tms) ++ (DW cI cC cQ d0q n0q naq s0q saq h1q h2q mmq maq t0q p0q paq tk N S oo zz M0 M1 M2 M3 rs de pc pg sg lnq poq ddq ltq plq f1s s2s tms)) [(1, .ref d0q), (0, .ref d0)] 0 [] := by
  intro H locs ls hP hD hS hl
  obtain ⟨hx, hb, hml, hown, hts, hN, hA, hK⟩ := F
  refine lv_iconst (v := 1) hx hb dL_same_0 (by decide) ?_
  refine lv_istore_n (lv' := [(2, .int 1), (1, .ref d0q), (0, .ref d0)]) hx hb dL_same_1 rfl hl (by decide) rfl (fun ls hl => ?_)
  refine lv_iconst (v := 0) hx hb dL_same_2 (by decide) ?_
  refine lv_istore_n (lv' := [(3, .int 0), (2, .int 1), (1, .ref d0q), (0, .ref d0)]) hx hb dL_same_3 rfl hl (by decide) rfl (fun ls hl => ?_)
  exact go  _ _ _ hP hD hS (lv_sub hl [0, 1, 2, 3] rfl)
set_option maxHeartbeats 40000000 in
set_option maxRecDepth 100000 in
theorem sm_all {p : Program} {l : Launch} {e : Env} {s : State} {m : MethodId} {args : Array Value} {below : List Frame} {meth : Method} {c : Code} {A : Nat → Prop} {Q : State → Prop} {D : va_G} {cI cC cQ : ClassId} {d0 : Nat} {n0 : Nat} {na : Nat → Nat} {s0 : Nat} {sa : Nat → Nat} {h1 : Nat} {h2 : Nat} {mm : Nat → Nat} {ma : Nat → Nat → Nat} {t0 : Nat} {p0 : Nat} {pa : Nat → Nat} {d0q : Nat} {n0q : Nat} {naq : Nat → Nat} {s0q : Nat} {saq : Nat → Nat} {h1q : Nat} {h2q : Nat} {mmq : Nat → Nat} {maq : Nat → Nat → Nat} {t0q : Nat} {p0q : Nat} {paq : Nat → Nat} {tk : Int32} {N : TMa} {S : TMa} {oo : Int32} {zz : Int32} {M0 : TMa} {M1 : TMa} {M2 : TMa} {M3 : TMa} {rs : Int32} {de : Int32} {pc : Int32} {pg : Int32} {sg : Nat → Int32} {ln : Int32} {po : Int32} {dd : Int32} {lt : Nat → Int32} {pl : Nat → Int32} {f1s : Nat → Int32} {s2s : Nat → Int32} {tms : Nat → Int32} {lnq : Int32} {poq : Int32} {ddq : Int32} {ltq : Nat → Int32} {plq : Nat → Int32} (F : FxM p s m c args A D cI cC cQ cL_same 4) (go : AtL p l e rm_L_same s m args below meth c A Q D 0 0 4 ((DW cI cC cQ d0 n0 na s0 sa h1 h2 mm ma t0 p0 pa tk N S oo zz M0 M1 M2 M3 rs de pc pg sg ln po dd lt pl f1s s2s tms) ++ (DW cI cC cQ d0q n0q naq s0q saq h1q h2q mmq maq t0q p0q paq tk N S oo zz M0 M1 M2 M3 rs de pc pg sg lnq poq ddq ltq plq f1s s2s tms)) [(0, .ref d0)] 211 [.int 1]) : AtL p l e rm_L_same s m args below meth c A Q D 0 0 4 ((DW cI cC cQ d0 n0 na s0 sa h1 h2 mm ma t0 p0 pa tk N S oo zz M0 M1 M2 M3 rs de pc pg sg ln po dd lt pl f1s s2s tms) ++ (DW cI cC cQ d0q n0q naq s0q saq h1q h2q mmq maq t0q p0q paq tk N S oo zz M0 M1 M2 M3 rs de pc pg sg lnq poq ddq ltq plq f1s s2s tms)) [(1, .ref d0q), (0, .ref d0)] 0 [] := by
  refine sm_0 F ?_
  have L3 : ∀ (fu : Nat) (k3 : Int32), ((6 : Int32).toInt - k3.toInt).toNat < fu → AtL p l e rm_L_same s m args below meth c A Q D 0 0 4 ((DW cI cC cQ d0 n0 na s0 sa h1 h2 mm ma t0 p0 pa tk N S oo zz M0 M1 M2 M3 rs de pc pg sg ln po dd lt pl f1s s2s tms) ++ (DW cI cC cQ d0q n0q naq s0q saq h1q h2q mmq maq t0q p0q paq tk N S oo zz M0 M1 M2 M3 rs de pc pg sg lnq poq ddq ltq plq f1s s2s tms)) [(3, .int k3), (2, .int 1), (1, .ref d0q), (0, .ref d0)] 158 [] := by
    intro fu
    induction fu with
    | zero => intro k3 h; exact absurd h (Nat.not_lt_zero _)
    | succ fu ih =>
      intro k3 hmu
      by_cases h : 6 ≤ k3
      · exact sm_6 F h go
      · exact sm_5 F h (ih _ (k_mu hmu h))
  have L2 : ∀ (fu : Nat) (k3 : Int32), ((4 : Int32).toInt - k3.toInt).toNat < fu → AtL p l e rm_L_same s m args below meth c A Q D 0 0 4 ((DW cI cC cQ d0 n0 na s0 sa h1 h2 mm ma t0 p0 pa tk N S oo zz M0 M1 M2 M3 rs de pc pg sg ln po dd lt pl f1s s2s tms) ++ (DW cI cC cQ d0q n0q naq s0q saq h1q h2q mmq maq t0q p0q paq tk N S oo zz M0 M1 M2 M3 rs de pc pg sg lnq poq ddq ltq plq f1s s2s tms)) [(3, .int k3), (2, .int 1), (1, .ref d0q), (0, .ref d0)] 47 [] := by
    intro fu
    induction fu with
    | zero => intro k3 h; exact absurd h (Nat.not_lt_zero _)
    | succ fu ih =>
      intro k3 hmu
      by_cases h : 4 ≤ k3
      · exact sm_4 F h (L3 _ 0 (Nat.lt_succ_self _))
      · exact sm_3 F h (ih _ (k_mu hmu h))
  have L1 : ∀ (fu : Nat) (k3 : Int32), ((14 : Int32).toInt - k3.toInt).toNat < fu → AtL p l e rm_L_same s m args below meth c A Q D 0 0 4 ((DW cI cC cQ d0 n0 na s0 sa h1 h2 mm ma t0 p0 pa tk N S oo zz M0 M1 M2 M3 rs de pc pg sg ln po dd lt pl f1s s2s tms) ++ (DW cI cC cQ d0q n0q naq s0q saq h1q h2q mmq maq t0q p0q paq tk N S oo zz M0 M1 M2 M3 rs de pc pg sg lnq poq ddq ltq plq f1s s2s tms)) [(3, .int k3), (2, .int 1), (1, .ref d0q), (0, .ref d0)] 4 [] := by
    intro fu
    induction fu with
    | zero => intro k3 h; exact absurd h (Nat.not_lt_zero _)
    | succ fu ih =>
      intro k3 hmu
      by_cases h : 14 ≤ k3
      · exact sm_2 F h (L2 _ 0 (Nat.lt_succ_self _))
      · exact sm_1 F h (ih _ (k_mu hmu h))
  exact L1 _ 0 (Nat.lt_succ_self _)
set_option maxHeartbeats 40000000 in
set_option maxRecDepth 100000 in
theorem c_L_same (l : Launch) (D : va_G) (cI cC cQ : ClassId) (sz : Nat) (d0 : Nat) (n0 : Nat) (na : Nat → Nat) (s0 : Nat) (sa : Nat → Nat) (h1 : Nat) (h2 : Nat) (mm : Nat → Nat) (ma : Nat → Nat → Nat) (t0 : Nat) (p0 : Nat) (pa : Nat → Nat) (d0q : Nat) (n0q : Nat) (naq : Nat → Nat) (s0q : Nat) (saq : Nat → Nat) (h1q : Nat) (h2q : Nat) (mmq : Nat → Nat) (maq : Nat → Nat → Nat) (t0q : Nat) (p0q : Nat) (paq : Nat → Nat) (tk : Int32) (N : TMa) (S : TMa) (oo : Int32) (zz : Int32) (M0 : TMa) (M1 : TMa) (M2 : TMa) (M3 : TMa) (rs : Int32) (de : Int32) (pc : Int32) (pg : Int32) (sg : Nat → Int32) (ln : Int32) (po : Int32) (dd : Int32) (lt : Nat → Int32) (pl : Nat → Int32) (f1s : Nat → Int32) (s2s : Nat → Int32) (tms : Nat → Int32) (lnq : Int32) (poq : Int32) (ddq : Int32) (ltq : Nat → Int32) (plq : Nat → Int32) : Met l yL_same (wsO yL_same cL_same 4 (some .boolean)) rm_L_same (va_Pc [.ref d0, .ref d0q] (inW D (TYS cI cC cQ) ((DW cI cC cQ d0 n0 na s0 sa h1 h2 mm ma t0 p0 pa tk N S oo zz M0 M1 M2 M3 rs de pc pg sg ln po dd lt pl f1s s2s tms) ++ (DW cI cC cQ d0q n0q naq s0q saq h1q h2q mmq maq t0q p0q paq tk N S oo zz M0 M1 M2 M3 rs de pc pg sg lnq poq ddq ltq plq f1s s2s tms)) sz)) (va_Qi (fun (r : Int32) (_ : Unit) => r = 1) (fun (u : Unit) => atW D (TYS cI cC cQ) (va_A ((DW cI cC cQ d0 n0 na s0 sa h1 h2 mm ma t0 p0 pa tk N S oo zz M0 M1 M2 M3 rs de pc pg sg ln po dd lt pl f1s s2s tms) ++ (DW cI cC cQ d0q n0q naq s0q saq h1q h2q mmq maq t0q p0q paq tk N S oo zz M0 M1 M2 M3 rs de pc pg sg lnq poq ddq ltq plq f1s s2s tms)) sz) ((DW cI cC cQ d0 n0 na s0 sa h1 h2 mm ma t0 p0 pa tk N S oo zz M0 M1 M2 M3 rs de pc pg sg ln po dd lt pl f1s s2s tms) ++ (DW cI cC cQ d0q n0q naq s0q saq h1q h2q mmq maq t0q p0q paq tk N S oo zz M0 M1 M2 M3 rs de pc pg sg lnq poq ddq ltq plq f1s s2s tms))) (va_A ((DW cI cC cQ d0 n0 na s0 sa h1 h2 mm ma t0 p0 pa tk N S oo zz M0 M1 M2 M3 rs de pc pg sg ln po dd lt pl f1s s2s tms) ++ (DW cI cC cQ d0q n0q naq s0q saq h1q h2q mmq maq t0q p0q paq tk N S oo zz M0 M1 M2 M3 rs de pc pg sg lnq poq ddq ltq plq f1s s2s tms)) sz)) 0 0 (va_A ((DW cI cC cQ d0 n0 na s0 sa h1 h2 mm ma t0 p0 pa tk N S oo zz M0 M1 M2 M3 rs de pc pg sg ln po dd lt pl f1s s2s tms) ++ (DW cI cC cQ d0q n0q naq s0q saq h1q h2q mmq maq t0q p0q paq tk N S oo zz M0 M1 M2 M3 rs de pc pg sg lnq poq ddq ltq plq f1s s2s tms)) sz) := by
  refine k_meti .boolean rfl (by decide) (Nat.le_of_ble_eq_true rfl) ?_
  intro p e s m args below meth c A ls Q H locs hargs hret hx hb hts hown hml hname hN hA hS hP hK hD hl
  have hl : lv_has ls 4 [(0, .ref d0), (1, .ref d0q)] := hl
  exact sm_all (p := p) (e := e) (args := args) (below := below) (meth := meth) (Q := Q) ⟨hx, hb, hml, hown, hts, hN, hA, hK⟩ (fun H locs ls hP hD hS hl => hret _ _ _ _ 1 () dL_same_211 rfl rfl hP hD hS) H locs ls hP hD hS (lv_sub hl [1, 0] rfl)
