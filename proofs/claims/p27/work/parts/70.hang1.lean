section KCALQ
variable {p : Program} {l : Launch} {e : Env} {R : Room} {s : State} {m : MethodId} {args : Array Value} {below : List Frame} {meth : Method} {c : Code} {H : Heap} {locs : List Loc} {cells slots : Nat} {Q : State → Prop} {ls : Array Slot} {pc : Nat} {st0 rest : List Value} {cc : ByteArray} {D : va_G} {tys : List (ClassId × FieldType)} {A : Nat → Prop} {X Y C : va_W}
/-- behind a call whose answer is known -/
theorem k_behq {S : Type} {v : Int32} {C' : S → va_W} {a : Array Value} (hr : va_Run p l e R s m args below meth c H locs cells slots 0 0 (F0 m pc ls st0) rest (va_Qi (fun (r : Int32) (_ : S) => r = v) (fun u => atW D tys (va_A C H.size) (C' u)) (va_A C H.size) a) (va_A C H.size))
    (hP : va_P D vwCl (X ++ (C ++ Y)) H) (hD : va_D A (X ++ (C ++ Y))) (hS : va_S A s.heap H locs) (hA : ∀ q : Nat, s.heap.size ≤ q → A q)
    (kk : ∀ (u : S) (H : Heap) (locs : List Loc), va_P D vwCl (X ++ (C' u ++ Y)) H → va_D A (X ++ (C' u ++ Y)) → va_S A s.heap H locs → W p l e R s m args below meth c H locs cells slots Q (F0 m (pc + 3) ls (.int v :: rest))) : W p l e R s m args below meth c H locs cells slots Q (F0 m pc ls st0) :=
  k_behi hr hP hD hS hA (fun r u H locs hw hP hD hS => by
    have hw : r = v := hw
    rw [hw]
    exact kk u H locs hP hD hS)
theorem k_behdq {S : Type} {v : UInt64} {C' : S → va_W} {a : Array Value} (hr : va_Run p l e R s m args below meth c H locs cells slots 0 0 (F0 m pc ls st0) rest (va_Qd (fun (r : UInt64) (_ : S) => r = v) (fun u => atW D tys (va_A C H.size) (C' u)) (va_A C H.size) a) (va_A C H.size))
    (hP : va_P D vwCl (X ++ (C ++ Y)) H) (hD : va_D A (X ++ (C ++ Y))) (hS : va_S A s.heap H locs) (hA : ∀ q : Nat, s.heap.size ≤ q → A q)
    (kk : ∀ (u : S) (H : Heap) (locs : List Loc), va_P D vwCl (X ++ (C' u ++ Y)) H → va_D A (X ++ (C' u ++ Y)) → va_S A s.heap H locs → W p l e R s m args below meth c H locs cells slots Q (F0 m (pc + 3) ls (.double v :: rest))) : W p l e R s m args below meth c H locs cells slots Q (F0 m pc ls st0) :=
  k_behd hr hP hD hS hA (fun r u H locs hw hP hD hS => by
    have hw : r = v := hw
    rw [hw]
    exact kk u H locs hP hD hS)
end KCALQ
/-- the machine, the words, the types: what stays while a method runs -/
def FxM (p : Program) (s : State) (m : MethodId) (c : Code) (args : Array Value) (A : Nat → Prop) (D : va_G) (cI cC cQ : ClassId) (cc : ByteArray) (n : Nat) : Prop :=
  p.tables.exec = Jvm.exec ∧ c.code = cc ∧ c.maxLocals = n ∧ s.vm.findClass RL = some m.cls ∧ (∀ w ∈ lwA, w.before args s = true) ∧ nbW s ∧ (∀ q : Nat, s.heap.size ≤ q → A q) ∧ va_K D vwCl (TYS cI cC cQ) s
/-- from any heap that holds the world w, at pc with these locals and this stack -/
def AtL (p : Program) (l : Launch) (e : Env) (R : Room) (s : State) (m : MethodId) (args : Array Value) (below : List Frame) (meth : Method) (c : Code) (A : Nat → Prop) (Q : State → Prop) (D : va_G) (ce so n : Nat) (w : va_W) (lv : List (Nat × Value)) (pc : Nat) (st : List Value) : Prop :=
  ∀ (H : Heap) (locs : List Loc) (ls : Array Slot), va_P D vwCl w H → va_D A w → va_S A s.heap H locs → lv_has ls n lv → W p l e R s m args below meth c H locs ce so Q (F0 m pc ls st)
theorem k_endP {D : va_G} {cl : List vw_C} {X C : va_W} {H : Heap} (h : va_P D cl (X ++ C) H) : va_P D cl (X ++ (C ++ ([] : va_W))) H := by rw [List.append_nil]; exact h
theorem k_endD {A : Nat → Prop} {X C : va_W} (h : va_D A (X ++ C)) : va_D A (X ++ (C ++ ([] : va_W))) := by rw [List.append_nil]; exact h
theorem k_unendP {D : va_G} {cl : List vw_C} {X C : va_W} {H : Heap} (h : va_P D cl (X ++ (C ++ ([] : va_W))) H) : va_P D cl (X ++ C) H := by rw [List.append_nil] at h; exact h
theorem k_unendD {A : Nat → Prop} {X C : va_W} (h : va_D A (X ++ (C ++ ([] : va_W)))) : va_D A (X ++ C) := by rw [List.append_nil] at h; exact h

theorem hg_1016a2 {N : TMa} {p6 : Int32} (hp : p6 = (0 + (sh_X4_printer N 0 1 + sh_X4_printer N 0 2)) + (sh_X4_printer N 1 1 + sh_X4_printer N 1 2)) (c : p6 = 0) : Op.cmpValue (FP.dcmp (sh_X4_darkness N) FP.dconst1) .l = 0 := hg_1016a (hp.symm.trans c)
theorem hg_906b {N : TMa} {b : Int32} (hb : b = sh_X4_bestFor N 100 5) (c : ¬ b = -4) : ¬ sh_X4_lasts N b 100 1 < 5 := by
  rw [hb] at c ⊢
  with_reducible exact hg_906 c
theorem hg_1016b2 {N : TMa} (g : okN N) {p6 d7 : Int32} (hp : p6 = (0 + (sh_X4_printer N 0 1 + sh_X4_printer N 0 2)) + (sh_X4_printer N 1 1 + sh_X4_printer N 1 2)) (hd : d7 = (0 + sh_X4_printer N 0 1) + sh_X4_printer N 1 1) (c : ¬ p6 = 0) : Op.cmpValue (FP.dcmp (sh_X4_darkness N) (FP.ddiv (FP.i2d d7) (FP.i2d p6))) .l = 0 := by
  subst hp hd
  exact hg_1016b g c
abbrev rm_L_hangs : Room := { frames := 5, cells := 0, slots := 0, locals := 106 }
theorem hd_L_hangs : hdT yL_hangs 1 := by decide +kernel
set_option maxHeartbeats 40000000 in
set_option maxRecDepth 100000 in
theorem hs_0 {p : Program} {l : Launch} {e : Env} {s : State} {m : MethodId} {args : Array Value} {below : List Frame} {meth : Method} {c : Code} {A : Nat → Prop} {Q : State → Prop} {D : va_G} {cI cC cQ : ClassId} {d0 : Nat} {n0 : Nat} {na : Nat → Nat} {s0 : Nat} {sa : Nat → Nat} {h1 : Nat} {h2 : Nat} {mm : Nat → Nat} {ma : Nat → Nat → Nat} {t0 : Nat} {p0 : Nat} {pa : Nat → Nat} {tk : Int32} {N : TMa} {S : TMa} {oo : Int32} {zz : Int32} {M0 : TMa} {M1 : TMa} {M2 : TMa} {M3 : TMa} {rs : Int32} {de : Int32} {pc : Int32} {pg : Int32} {sg : Nat → Int32} {ln : Int32} {po : Int32} {dd : Int32} {lt : Nat → Int32} {pl : Nat → Int32} {f1s : Nat → Int32} {s2s : Nat → Int32} {tms : Nat → Int32}  (F : FxM p s m c args A D cI cC cQ cL_hangs 14) (g : okN N) (go : AtL p l e rm_L_hangs s m args below meth c A Q D 0 0 14 (DW cI cC cQ d0 n0 na s0 sa h1 h2 mm ma t0 p0 pa tk N S oo zz M0 M1 M2 M3 rs de pc pg sg ln po dd lt pl f1s s2s tms) [(6, .int 0), (5, .int 1), (4, .int 0), (3, .int 0), (2, .int 0), (1, .int 0), (0, .ref d0)] 100 []) : AtL p l e rm_L_hangs s m args below meth c A Q D 0 0 14 (DW cI cC cQ d0 n0 na s0 sa h1 h2 mm ma t0 p0 pa tk N S oo zz M0 M1 M2 M3 rs de pc pg sg ln po dd lt pl f1s s2s tms) [(0, .ref d0)] 0 [] := by
  intro H locs ls hP hD hS hl
  obtain ⟨hx, hb, hml, hown, hts, hN, hA, hK⟩ := F
  refine lv_iconst (v := 0) hx hb dL_hangs_0 (by decide) ?_
  refine lv_istore_n (lv' := [(1, .int 0), (0, .ref d0)]) hx hb dL_hangs_1 rfl hl (by decide) rfl (fun ls hl => ?_)
  refine lv_iconst (v := 0) hx hb dL_hangs_2 (by decide) ?_
  refine lv_istore_n (lv' := [(2, .int 0), (1, .int 0), (0, .ref d0)]) hx hb dL_hangs_3 rfl hl (by decide) rfl (fun ls hl => ?_)
  refine lv_iconst (v := 0) hx hb dL_hangs_4 (by decide) ?_
  refine lv_istore_n (lv' := [(3, .int 0), (2, .int 0), (1, .int 0), (0, .ref d0)]) hx hb dL_hangs_5 rfl hl (by decide) rfl (fun ls hl => ?_)
  refine lv_iconst (v := 0) hx hb dL_hangs_6 (by decide) ?_
  refine lv_istore (lv' := [(4, .int 0), (3, .int 0), (2, .int 0), (1, .int 0), (0, .ref d0)]) hx hb dL_hangs_7 hl (by decide) rfl (fun ls hl => ?_)
  refine lv_aload_n hx hb dL_hangs_9 rfl (lv_at hl 4 rfl) ?_
  refine lv_bipush (v := 8) hx hb dL_hangs_10 (by decide) ?_
  have hPs := k_self hP
  have hDs := k_selfD hD
  refine k_behq (X := []) (Y := []) (va_runV (As := [.int 8]) (rest := []) ⟨hx, hb, hml, hown, hts⟩ (c_X4_count l D cI cC cQ H.size d0 n0 na s0 sa h1 h2 mm ma t0 p0 pa tk N S oo zz M0 M1 M2 M3 rs de pc pg sg ln po dd lt pl f1s s2s tms 8) (kcwV hts wd_ml_RL_53 wd_im_yX4_count wd_sel_yX4_count wd_ini_RX4 wd_code_yX4_count rfl rfl rfl hd_X4_count ⟨Nat.le_of_ble_eq_true rfl, Nat.le_of_ble_eq_true rfl⟩) ⟨in_blind, va_recv hK (pa_l (pa_r hPs)) (ci := 4) (q0 := 0) rfl rfl, k_pre hK (pa_l (pa_r hPs)) (da_l (da_r hDs)) hN⟩ rfl rfl hl.1 rfl (lv_room (Nat.le_of_ble_eq_true rfl)) dL_hangs_12 ⟨Nat.le_of_ble_eq_true rfl, Nat.le_of_ble_eq_true rfl⟩) hPs hDs hS hA (fun u2 H locs hP hD hS => ?_)
  have hP := k_unP hP
  have hD := k_unD hD
  have hP : va_P D vwCl (DW cI cC cQ d0 n0 na s0 sa h1 h2 mm ma t0 p0 pa tk N S oo zz M0 M1 M2 M3 rs de pc pg sg ln po dd lt pl f1s s2s tms) H := hP
  have hD : va_D A (DW cI cC cQ d0 n0 na s0 sa h1 h2 mm ma t0 p0 pa tk N S oo zz M0 M1 M2 M3 rs de pc pg sg ln po dd lt pl f1s s2s tms) := hD
  refine lv_if_le (tgt := 94) hx hb dL_hangs_15 (by decide) (fun c9 => absurd c9 (hg_15 g)) (fun _ => ?_)
  refine lv_aload_n hx hb dL_hangs_18 rfl (lv_at hl 4 rfl) ?_
  refine lv_bipush (v := 8) hx hb dL_hangs_19 (by decide) ?_
  have hPs := k_self hP
  have hDs := k_selfD hD
  refine k_behq (X := []) (Y := []) (va_runV (As := [.int 8]) (rest := []) ⟨hx, hb, hml, hown, hts⟩ (c_X4_count l D cI cC cQ H.size d0 n0 na s0 sa h1 h2 mm ma t0 p0 pa tk N S oo zz M0 M1 M2 M3 rs de pc pg sg ln po dd lt pl f1s s2s tms 8) (kcwV hts wd_ml_RL_53 wd_im_yX4_count wd_sel_yX4_count wd_ini_RX4 wd_code_yX4_count rfl rfl rfl hd_X4_count ⟨Nat.le_of_ble_eq_true rfl, Nat.le_of_ble_eq_true rfl⟩) ⟨in_blind, va_recv hK (pa_l (pa_r hPs)) (ci := 4) (q0 := 0) rfl rfl, k_pre hK (pa_l (pa_r hPs)) (da_l (da_r hDs)) hN⟩ rfl rfl hl.1 rfl (lv_room (Nat.le_of_ble_eq_true rfl)) dL_hangs_21 ⟨Nat.le_of_ble_eq_true rfl, Nat.le_of_ble_eq_true rfl⟩) hPs hDs hS hA (fun u5 H locs hP hD hS => ?_)
  have hP := k_unP hP
  have hD := k_unD hD
  have hP : va_P D vwCl (DW cI cC cQ d0 n0 na s0 sa h1 h2 mm ma t0 p0 pa tk N S oo zz M0 M1 M2 M3 rs de pc pg sg ln po dd lt pl f1s s2s tms) H := hP
  have hD : va_D A (DW cI cC cQ d0 n0 na s0 sa h1 h2 mm ma t0 p0 pa tk N S oo zz M0 M1 M2 M3 rs de pc pg sg ln po dd lt pl f1s s2s tms) := hD
  refine lv_bipush (v := 6) hx hb dL_hangs_24 (by decide) ?_
  refine lv_icmp_ge (tgt := 94) hx hb dL_hangs_26 (by decide) (fun c9 => absurd c9 (hg_26 g)) (fun _ => ?_)
  refine lv_aload_n hx hb dL_hangs_29 rfl (lv_at hl 4 rfl) ?_
  refine lv_bipush (v := 9) hx hb dL_hangs_30 (by decide) ?_
  have hPs := k_self hP
  have hDs := k_selfD hD
  refine k_behq (X := []) (Y := []) (va_runV (As := [.int 9]) (rest := []) ⟨hx, hb, hml, hown, hts⟩ (c_X4_count l D cI cC cQ H.size d0 n0 na s0 sa h1 h2 mm ma t0 p0 pa tk N S oo zz M0 M1 M2 M3 rs de pc pg sg ln po dd lt pl f1s s2s tms 9) (kcwV hts wd_ml_RL_53 wd_im_yX4_count wd_sel_yX4_count wd_ini_RX4 wd_code_yX4_count rfl rfl rfl hd_X4_count ⟨Nat.le_of_ble_eq_true rfl, Nat.le_of_ble_eq_true rfl⟩) ⟨in_blind, va_recv hK (pa_l (pa_r hPs)) (ci := 4) (q0 := 0) rfl rfl, k_pre hK (pa_l (pa_r hPs)) (da_l (da_r hDs)) hN⟩ rfl rfl hl.1 rfl (lv_room (Nat.le_of_ble_eq_true rfl)) dL_hangs_32 ⟨Nat.le_of_ble_eq_true rfl, Nat.le_of_ble_eq_true rfl⟩) hPs hDs hS hA (fun u8 H locs hP hD hS => ?_)
  have hP := k_unP hP
  have hD := k_unD hD
  have hP : va_P D vwCl (DW cI cC cQ d0 n0 na s0 sa h1 h2 mm ma t0 p0 pa tk N S oo zz M0 M1 M2 M3 rs de pc pg sg ln po dd lt pl f1s s2s tms) H := hP
  have hD : va_D A (DW cI cC cQ d0 n0 na s0 sa h1 h2 mm ma t0 p0 pa tk N S oo zz M0 M1 M2 M3 rs de pc pg sg ln po dd lt pl f1s s2s tms) := hD
  refine lv_iconst (v := 1) hx hb dL_hangs_35 (by decide) ?_
  refine lv_icmp_le (tgt := 94) hx hb dL_hangs_36 (by decide) (fun c9 => absurd c9 (hg_36 g)) (fun _ => ?_)
  refine lv_aload_n hx hb dL_hangs_39 rfl (lv_at hl 4 rfl) ?_
  refine lv_bipush (v := 9) hx hb dL_hangs_40 (by decide) ?_
  have hPs := k_self hP
  have hDs := k_selfD hD
  refine k_behq (X := []) (Y := []) (va_runV (As := [.int 9]) (rest := []) ⟨hx, hb, hml, hown, hts⟩ (c_X4_count l D cI cC cQ H.size d0 n0 na s0 sa h1 h2 mm ma t0 p0 pa tk N S oo zz M0 M1 M2 M3 rs de pc pg sg ln po dd lt pl f1s s2s tms 9) (kcwV hts wd_ml_RL_53 wd_im_yX4_count wd_sel_yX4_count wd_ini_RX4 wd_code_yX4_count rfl rfl rfl hd_X4_count ⟨Nat.le_of_ble_eq_true rfl, Nat.le_of_ble_eq_true rfl⟩) ⟨in_blind, va_recv hK (pa_l (pa_r hPs)) (ci := 4) (q0 := 0) rfl rfl, k_pre hK (pa_l (pa_r hPs)) (da_l (da_r hDs)) hN⟩ rfl rfl hl.1 rfl (lv_room (Nat.le_of_ble_eq_true rfl)) dL_hangs_42 ⟨Nat.le_of_ble_eq_true rfl, Nat.le_of_ble_eq_true rfl⟩) hPs hDs hS hA (fun u11 H locs hP hD hS => ?_)
  have hP := k_unP hP
  have hD := k_unD hD
  have hP : va_P D vwCl (DW cI cC cQ d0 n0 na s0 sa h1 h2 mm ma t0 p0 pa tk N S oo zz M0 M1 M2 M3 rs de pc pg sg ln po dd lt pl f1s s2s tms) H := hP
  have hD : va_D A (DW cI cC cQ d0 n0 na s0 sa h1 h2 mm ma t0 p0 pa tk N S oo zz M0 M1 M2 M3 rs de pc pg sg ln po dd lt pl f1s s2s tms) := hD
  refine lv_bipush (v := 51) hx hb dL_hangs_45 (by decide) ?_
  refine lv_icmp_ge (tgt := 94) hx hb dL_hangs_47 (by decide) (fun c9 => absurd c9 (hg_47 g)) (fun _ => ?_)
  refine lv_aload_n hx hb dL_hangs_50 rfl (lv_at hl 4 rfl) ?_
  refine lv_bipush (v := 10) hx hb dL_hangs_51 (by decide) ?_
  have hPs := k_self hP
  have hDs := k_selfD hD
  refine k_behq (X := []) (Y := []) (va_runV (As := [.int 10]) (rest := []) ⟨hx, hb, hml, hown, hts⟩ (c_X4_count l D cI cC cQ H.size d0 n0 na s0 sa h1 h2 mm ma t0 p0 pa tk N S oo zz M0 M1 M2 M3 rs de pc pg sg ln po dd lt pl f1s s2s tms 10) (kcwV hts wd_ml_RL_53 wd_im_yX4_count wd_sel_yX4_count wd_ini_RX4 wd_code_yX4_count rfl rfl rfl hd_X4_count ⟨Nat.le_of_ble_eq_true rfl, Nat.le_of_ble_eq_true rfl⟩) ⟨in_blind, va_recv hK (pa_l (pa_r hPs)) (ci := 4) (q0 := 0) rfl rfl, k_pre hK (pa_l (pa_r hPs)) (da_l (da_r hDs)) hN⟩ rfl rfl hl.1 rfl (lv_room (Nat.le_of_ble_eq_true rfl)) dL_hangs_53 ⟨Nat.le_of_ble_eq_true rfl, Nat.le_of_ble_eq_true rfl⟩) hPs hDs hS hA (fun u14 H locs hP hD hS => ?_)
  have hP := k_unP hP
  have hD := k_unD hD
  have hP : va_P D vwCl (DW cI cC cQ d0 n0 na s0 sa h1 h2 mm ma t0 p0 pa tk N S oo zz M0 M1 M2 M3 rs de pc pg sg ln po dd lt pl f1s s2s tms) H := hP
  have hD : va_D A (DW cI cC cQ d0 n0 na s0 sa h1 h2 mm ma t0 p0 pa tk N S oo zz M0 M1 M2 M3 rs de pc pg sg ln po dd lt pl f1s s2s tms) := hD
  refine lv_if_lt (tgt := 94) hx hb dL_hangs_56 (by decide) (fun c9 => absurd c9 (hg_56 g)) (fun _ => ?_)
  refine lv_aload_n hx hb dL_hangs_59 rfl (lv_at hl 4 rfl) ?_
  refine lv_bipush (v := 10) hx hb dL_hangs_60 (by decide) ?_
  have hPs := k_self hP
  have hDs := k_selfD hD
  refine k_behq (X := []) (Y := []) (va_runV (As := [.int 10]) (rest := []) ⟨hx, hb, hml, hown, hts⟩ (c_X4_count l D cI cC cQ H.size d0 n0 na s0 sa h1 h2 mm ma t0 p0 pa tk N S oo zz M0 M1 M2 M3 rs de pc pg sg ln po dd lt pl f1s s2s tms 10) (kcwV hts wd_ml_RL_53 wd_im_yX4_count wd_sel_yX4_count wd_ini_RX4 wd_code_yX4_count rfl rfl rfl hd_X4_count ⟨Nat.le_of_ble_eq_true rfl, Nat.le_of_ble_eq_true rfl⟩) ⟨in_blind, va_recv hK (pa_l (pa_r hPs)) (ci := 4) (q0 := 0) rfl rfl, k_pre hK (pa_l (pa_r hPs)) (da_l (da_r hDs)) hN⟩ rfl rfl hl.1 rfl (lv_room (Nat.le_of_ble_eq_true rfl)) dL_hangs_62 ⟨Nat.le_of_ble_eq_true rfl, Nat.le_of_ble_eq_true rfl⟩) hPs hDs hS hA (fun u17 H locs hP hD hS => ?_)
  have hP := k_unP hP
  have hD := k_unD hD
  have hP : va_P D vwCl (DW cI cC cQ d0 n0 na s0 sa h1 h2 mm ma t0 p0 pa tk N S oo zz M0 M1 M2 M3 rs de pc pg sg ln po dd lt pl f1s s2s tms) H := hP
  have hD : va_D A (DW cI cC cQ d0 n0 na s0 sa h1 h2 mm ma t0 p0 pa tk N S oo zz M0 M1 M2 M3 rs de pc pg sg ln po dd lt pl f1s s2s tms) := hD
  refine lv_iconst (v := 2) hx hb dL_hangs_65 (by decide) ?_
  refine lv_icmp_ge (tgt := 94) hx hb dL_hangs_66 (by decide) (fun c9 => absurd c9 (hg_66 g)) (fun _ => ?_)
  refine lv_aload_n hx hb dL_hangs_69 rfl (lv_at hl 4 rfl) ?_
  refine lv_bipush (v := 11) hx hb dL_hangs_70 (by decide) ?_
  have hPs := k_self hP
  have hDs := k_selfD hD
  refine k_behq (X := []) (Y := []) (va_runV (As := [.int 11]) (rest := []) ⟨hx, hb, hml, hown, hts⟩ (c_X4_count l D cI cC cQ H.size d0 n0 na s0 sa h1 h2 mm ma t0 p0 pa tk N S oo zz M0 M1 M2 M3 rs de pc pg sg ln po dd lt pl f1s s2s tms 11) (kcwV hts wd_ml_RL_53 wd_im_yX4_count wd_sel_yX4_count wd_ini_RX4 wd_code_yX4_count rfl rfl rfl hd_X4_count ⟨Nat.le_of_ble_eq_true rfl, Nat.le_of_ble_eq_true rfl⟩) ⟨in_blind, va_recv hK (pa_l (pa_r hPs)) (ci := 4) (q0 := 0) rfl rfl, k_pre hK (pa_l (pa_r hPs)) (da_l (da_r hDs)) hN⟩ rfl rfl hl.1 rfl (lv_room (Nat.le_of_ble_eq_true rfl)) dL_hangs_72 ⟨Nat.le_of_ble_eq_true rfl, Nat.le_of_ble_eq_true rfl⟩) hPs hDs hS hA (fun u20 H locs hP hD hS => ?_)
  have hP := k_unP hP
  have hD := k_unD hD
  have hP : va_P D vwCl (DW cI cC cQ d0 n0 na s0 sa h1 h2 mm ma t0 p0 pa tk N S oo zz M0 M1 M2 M3 rs de pc pg sg ln po dd lt pl f1s s2s tms) H := hP
  have hD : va_D A (DW cI cC cQ d0 n0 na s0 sa h1 h2 mm ma t0 p0 pa tk N S oo zz M0 M1 M2 M3 rs de pc pg sg ln po dd lt pl f1s s2s tms) := hD
  refine lv_if_le (tgt := 94) hx hb dL_hangs_75 (by decide) (fun c9 => absurd c9 (hg_75 g)) (fun _ => ?_)
  refine lv_aload_n hx hb dL_hangs_78 rfl (lv_at hl 4 rfl) ?_
  refine lv_bipush (v := 11) hx hb dL_hangs_79 (by decide) ?_
  have hPs := k_self hP
  have hDs := k_selfD hD
  refine k_behq (X := []) (Y := []) (va_runV (As := [.int 11]) (rest := []) ⟨hx, hb, hml, hown, hts⟩ (c_X4_count l D cI cC cQ H.size d0 n0 na s0 sa h1 h2 mm ma t0 p0 pa tk N S oo zz M0 M1 M2 M3 rs de pc pg sg ln po dd lt pl f1s s2s tms 11) (kcwV hts wd_ml_RL_53 wd_im_yX4_count wd_sel_yX4_count wd_ini_RX4 wd_code_yX4_count rfl rfl rfl hd_X4_count ⟨Nat.le_of_ble_eq_true rfl, Nat.le_of_ble_eq_true rfl⟩) ⟨in_blind, va_recv hK (pa_l (pa_r hPs)) (ci := 4) (q0 := 0) rfl rfl, k_pre hK (pa_l (pa_r hPs)) (da_l (da_r hDs)) hN⟩ rfl rfl hl.1 rfl (lv_room (Nat.le_of_ble_eq_true rfl)) dL_hangs_81 ⟨Nat.le_of_ble_eq_true rfl, Nat.le_of_ble_eq_true rfl⟩) hPs hDs hS hA (fun u23 H locs hP hD hS => ?_)
  have hP := k_unP hP
  have hD := k_unD hD
  have hP : va_P D vwCl (DW cI cC cQ d0 n0 na s0 sa h1 h2 mm ma t0 p0 pa tk N S oo zz M0 M1 M2 M3 rs de pc pg sg ln po dd lt pl f1s s2s tms) H := hP
  have hD : va_D A (DW cI cC cQ d0 n0 na s0 sa h1 h2 mm ma t0 p0 pa tk N S oo zz M0 M1 M2 M3 rs de pc pg sg ln po dd lt pl f1s s2s tms) := hD
  refine lv_sipush (v := 501) hx hb dL_hangs_84 (by decide) ?_
  refine lv_icmp_ge (tgt := 94) hx hb dL_hangs_87 (by decide) (fun c9 => absurd c9 (hg_87 g)) (fun _ => ?_)
  refine lv_iconst (v := 1) hx hb dL_hangs_90 (by decide) ?_
  refine lv_goto (tgt := 95) hx hb dL_hangs_91 (by decide) ?_
  refine lv_istore (lv' := [(5, .int 1), (4, .int 0), (3, .int 0), (2, .int 0), (1, .int 0), (0, .ref d0)]) hx hb dL_hangs_95 hl (by decide) rfl (fun ls hl => ?_)
  refine lv_iconst (v := 0) hx hb dL_hangs_97 (by decide) ?_
  refine lv_istore (lv' := [(6, .int 0), (5, .int 1), (4, .int 0), (3, .int 0), (2, .int 0), (1, .int 0), (0, .ref d0)]) hx hb dL_hangs_98 hl (by decide) rfl (fun ls hl => ?_)
  exact go  _ _ _ hP hD hS (lv_sub hl [0, 1, 2, 3, 4, 5, 6] rfl)
set_option maxHeartbeats 40000000 in
set_option maxRecDepth 100000 in
theorem hs_cup {p : Program} {l : Launch} {e : Env} {s : State} {m : MethodId} {args : Array Value} {below : List Frame} {meth : Method} {c : Code} {A : Nat → Prop} {Q : State → Prop} {D : va_G} {cI cC cQ : ClassId} {d0 : Nat} {n0 : Nat} {na : Nat → Nat} {s0 : Nat} {sa : Nat → Nat} {h1 : Nat} {h2 : Nat} {mm : Nat → Nat} {ma : Nat → Nat → Nat} {t0 : Nat} {p0 : Nat} {pa : Nat → Nat} {tk : Int32} {N : TMa} {S : TMa} {oo : Int32} {zz : Int32} {M0 : TMa} {M1 : TMa} {M2 : TMa} {M3 : TMa} {rs : Int32} {de : Int32} {pc : Int32} {pg : Int32} {sg : Nat → Int32} {ln : Int32} {po : Int32} {dd : Int32} {lt : Nat → Int32} {pl : Nat → Int32} {f1s : Nat → Int32} {s2s : Nat → Int32} {tms : Nat → Int32} {al le bo nn k6 : Int32} (F : FxM p s m c args A D cI cC cQ cL_hangs 14) (g : okN N) (hoo : vp_in oo 4) (hzz : vp_in zz 5) (hk : vp_in k6 4) (h4 : ¬ 4 ≤ k6) (go : ∀ (v w : Int32), v = (if sh_X4_cup N k6 7 ≤ 100000 then 0 else 1) → w = (if sh_X4_cup N k6 4 = -4 then 0 else 1) → AtL p l e rm_L_hangs s m args below meth c A Q D 0 0 14 (DW cI cC cQ d0 n0 na s0 sa h1 h2 mm ma t0 p0 pa tk N S oo zz M0 M1 M2 M3 rs de pc pg sg ln po dd lt pl f1s s2s tms) [(10, .int 1), (6, .int k6), (5, .int 1), (4, .int (nn + w)), (3, .int (bo + v)), (2, .int (le + sh_X4_cup N k6 6)), (1, .int (al + (sh_X4_cup N k6 1 + sh_X4_cup N k6 2))), (0, .ref d0)] 412 []) : AtL p l e rm_L_hangs s m args below meth c A Q D 0 0 14 (DW cI cC cQ d0 n0 na s0 sa h1 h2 mm ma t0 p0 pa tk N S oo zz M0 M1 M2 M3 rs de pc pg sg ln po dd lt pl f1s s2s tms) [(6, .int k6), (5, .int 1), (4, .int nn), (3, .int bo), (2, .int le), (1, .int al), (0, .ref d0)] 100 [] := by
  intro H locs ls hP hD hS hl
  obtain ⟨hx, hb, hml, hown, hts, hN, hA, hK⟩ := F
  refine lv_iload hx hb dL_hangs_100 (lv_at hl 0 rfl) ?_
  refine lv_iconst (v := 4) hx hb dL_hangs_102 (by decide) ?_
  refine lv_icmp_ge (tgt := 641) hx hb dL_hangs_103 (by decide) (fun c9 => absurd c9 (h4)) (fun _ => ?_)
  refine lv_iload hx hb dL_hangs_106 (lv_at hl 1 rfl) ?_
  refine lv_if_eq (tgt := 641) hx hb dL_hangs_108 (by decide) (fun c9 => absurd c9 (by decide)) (fun _ => ?_)
  refine lv_aload_n hx hb dL_hangs_111 rfl (lv_at hl 6 rfl) ?_
  refine lv_iload hx hb dL_hangs_112 (lv_at hl 0 rfl) ?_
  refine lv_iconst (v := 1) hx hb dL_hangs_114 (by decide) ?_
  have hPs := k_self hP
  have hDs := k_selfD hD
  refine k_behq (X := []) (Y := []) (va_runV (As := [.int k6, .int 1]) (rest := []) ⟨hx, hb, hml, hown, hts⟩ (c_X4_cup l D cI cC cQ H.size d0 n0 na s0 sa h1 h2 mm ma t0 p0 pa tk N S oo zz M0 M1 M2 M3 rs de pc pg sg ln po dd lt pl f1s s2s tms k6 1) (kcwV hts wd_ml_RL_56 wd_im_yX4_cup wd_sel_yX4_cup wd_ini_RX4 wd_code_yX4_cup rfl rfl rfl hd_X4_cup ⟨Nat.le_of_ble_eq_true rfl, Nat.le_of_ble_eq_true rfl⟩) ⟨in_blind, va_recv hK (pa_l (pa_r hPs)) (ci := 4) (q0 := 0) rfl rfl, k_pre hK (pa_l (pa_r hPs)) (da_l (da_r hDs)) hN⟩ rfl rfl hl.1 rfl (lv_room (Nat.le_of_ble_eq_true rfl)) dL_hangs_115 ⟨Nat.le_of_ble_eq_true rfl, Nat.le_of_ble_eq_true rfl⟩) hPs hDs hS hA (fun u2 H locs hP hD hS => ?_)
  have hP := k_unP hP
  have hD := k_unD hD
  have hP : va_P D vwCl (DW cI cC cQ d0 n0 na s0 sa h1 h2 mm ma t0 p0 pa tk N S oo zz M0 M1 M2 M3 rs de pc pg sg ln po dd lt pl f1s s2s tms) H := hP
  have hD : va_D A (DW cI cC cQ d0 n0 na s0 sa h1 h2 mm ma t0 p0 pa tk N S oo zz M0 M1 M2 M3 rs de pc pg sg ln po dd lt pl f1s s2s tms) := hD
  refine lv_aload_n hx hb dL_hangs_118 rfl (lv_at hl 6 rfl) ?_
  refine lv_iload hx hb dL_hangs_119 (lv_at hl 0 rfl) ?_
  refine lv_iconst (v := 2) hx hb dL_hangs_121 (by decide) ?_
  have hPs := k_self hP
  have hDs := k_selfD hD
  refine k_behq (X := []) (Y := []) (va_runV (As := [.int k6, .int 2]) (rest := [.int (sh_X4_cup N k6 1)]) ⟨hx, hb, hml, hown, hts⟩ (c_X4_cup l D cI cC cQ H.size d0 n0 na s0 sa h1 h2 mm ma t0 p0 pa tk N S oo zz M0 M1 M2 M3 rs de pc pg sg ln po dd lt pl f1s s2s tms k6 2) (kcwV hts wd_ml_RL_56 wd_im_yX4_cup wd_sel_yX4_cup wd_ini_RX4 wd_code_yX4_cup rfl rfl rfl hd_X4_cup ⟨Nat.le_of_ble_eq_true rfl, Nat.le_of_ble_eq_true rfl⟩) ⟨in_blind, va_recv hK (pa_l (pa_r hPs)) (ci := 4) (q0 := 0) rfl rfl, k_pre hK (pa_l (pa_r hPs)) (da_l (da_r hDs)) hN⟩ rfl rfl hl.1 rfl (lv_room (Nat.le_of_ble_eq_true rfl)) dL_hangs_122 ⟨Nat.le_of_ble_eq_true rfl, Nat.le_of_ble_eq_true rfl⟩) hPs hDs hS hA (fun u5 H locs hP hD hS => ?_)
  have hP := k_unP hP
  have hD := k_unD hD
  have hP : va_P D vwCl (DW cI cC cQ d0 n0 na s0 sa h1 h2 mm ma t0 p0 pa tk N S oo zz M0 M1 M2 M3 rs de pc pg sg ln po dd lt pl f1s s2s tms) H := hP
  have hD : va_D A (DW cI cC cQ d0 n0 na s0 sa h1 h2 mm ma t0 p0 pa tk N S oo zz M0 M1 M2 M3 rs de pc pg sg ln po dd lt pl f1s s2s tms) := hD
  refine lv_iadd hx hb dL_hangs_125 ?_
  refine lv_istore (lv' := [(7, .int ((sh_X4_cup N k6 1) + (sh_X4_cup N k6 2))), (6, .int k6), (5, .int 1), (4, .int nn), (3, .int bo), (2, .int le), (1, .int al), (0, .ref d0)]) hx hb dL_hangs_126 hl (by decide) rfl (fun ls hl => ?_)
  refine lv_aload_n hx hb dL_hangs_128 rfl (lv_at hl 7 rfl) ?_
  refine lv_iload hx hb dL_hangs_129 (lv_at hl 1 rfl) ?_
  refine lv_iconst (v := 5) hx hb dL_hangs_131 (by decide) ?_
  have hPs := k_self hP
  have hDs := k_selfD hD
  refine k_behq (X := []) (Y := []) (va_runV (As := [.int k6, .int 5]) (rest := []) ⟨hx, hb, hml, hown, hts⟩ (c_X4_cup l D cI cC cQ H.size d0 n0 na s0 sa h1 h2 mm ma t0 p0 pa tk N S oo zz M0 M1 M2 M3 rs de pc pg sg ln po dd lt pl f1s s2s tms k6 5) (kcwV hts wd_ml_RL_56 wd_im_yX4_cup wd_sel_yX4_cup wd_ini_RX4 wd_code_yX4_cup rfl rfl rfl hd_X4_cup ⟨Nat.le_of_ble_eq_true rfl, Nat.le_of_ble_eq_true rfl⟩) ⟨in_blind, va_recv hK (pa_l (pa_r hPs)) (ci := 4) (q0 := 0) rfl rfl, k_pre hK (pa_l (pa_r hPs)) (da_l (da_r hDs)) hN⟩ rfl rfl hl.1 rfl (lv_room (Nat.le_of_ble_eq_true rfl)) dL_hangs_132 ⟨Nat.le_of_ble_eq_true rfl, Nat.le_of_ble_eq_true rfl⟩) hPs hDs hS hA (fun u8 H locs hP hD hS => ?_)
  have hP := k_unP hP
  have hD := k_unD hD
  have hP : va_P D vwCl (DW cI cC cQ d0 n0 na s0 sa h1 h2 mm ma t0 p0 pa tk N S oo zz M0 M1 M2 M3 rs de pc pg sg ln po dd lt pl f1s s2s tms) H := hP
  have hD : va_D A (DW cI cC cQ d0 n0 na s0 sa h1 h2 mm ma t0 p0 pa tk N S oo zz M0 M1 M2 M3 rs de pc pg sg ln po dd lt pl f1s s2s tms) := hD
  refine lv_istore (lv' := [(8, .int (sh_X4_cup N k6 5)), (7, .int ((sh_X4_cup N k6 1) + (sh_X4_cup N k6 2))), (6, .int k6), (5, .int 1), (4, .int nn), (3, .int bo), (2, .int le), (1, .int al), (0, .ref d0)]) hx hb dL_hangs_135 hl (by decide) rfl (fun ls hl => ?_)
  refine lv_aload_n hx hb dL_hangs_137 rfl (lv_at hl 8 rfl) ?_
  refine lv_iload hx hb dL_hangs_138 (lv_at hl 2 rfl) ?_
  refine lv_iconst (v := 4) hx hb dL_hangs_140 (by decide) ?_
  have hPs := k_self hP
  have hDs := k_selfD hD
  refine k_behq (X := []) (Y := []) (va_runV (As := [.int k6, .int 4]) (rest := []) ⟨hx, hb, hml, hown, hts⟩ (c_X4_cup l D cI cC cQ H.size d0 n0 na s0 sa h1 h2 mm ma t0 p0 pa tk N S oo zz M0 M1 M2 M3 rs de pc pg sg ln po dd lt pl f1s s2s tms k6 4) (kcwV hts wd_ml_RL_56 wd_im_yX4_cup wd_sel_yX4_cup wd_ini_RX4 wd_code_yX4_cup rfl rfl rfl hd_X4_cup ⟨Nat.le_of_ble_eq_true rfl, Nat.le_of_ble_eq_true rfl⟩) ⟨in_blind, va_recv hK (pa_l (pa_r hPs)) (ci := 4) (q0 := 0) rfl rfl, k_pre hK (pa_l (pa_r hPs)) (da_l (da_r hDs)) hN⟩ rfl rfl hl.1 rfl (lv_room (Nat.le_of_ble_eq_true rfl)) dL_hangs_141 ⟨Nat.le_of_ble_eq_true rfl, Nat.le_of_ble_eq_true rfl⟩) hPs hDs hS hA (fun u11 H locs hP hD hS => ?_)
  have hP := k_unP hP
  have hD := k_unD hD
  have hP : va_P D vwCl (DW cI cC cQ d0 n0 na s0 sa h1 h2 mm ma t0 p0 pa tk N S oo zz M0 M1 M2 M3 rs de pc pg sg ln po dd lt pl f1s s2s tms) H := hP
  have hD : va_D A (DW cI cC cQ d0 n0 na s0 sa h1 h2 mm ma t0 p0 pa tk N S oo zz M0 M1 M2 M3 rs de pc pg sg ln po dd lt pl f1s s2s tms) := hD
  refine lv_istore (lv' := [(9, .int (sh_X4_cup N k6 4)), (8, .int (sh_X4_cup N k6 5)), (7, .int ((sh_X4_cup N k6 1) + (sh_X4_cup N k6 2))), (6, .int k6), (5, .int 1), (4, .int nn), (3, .int bo), (2, .int le), (1, .int al), (0, .ref d0)]) hx hb dL_hangs_144 hl (by decide) rfl (fun ls hl => ?_)
  refine lv_aload_n hx hb dL_hangs_146 rfl (lv_at hl 9 rfl) ?_
  refine lv_iload hx hb dL_hangs_147 (lv_at hl 3 rfl) ?_
  refine lv_iconst (v := 0) hx hb dL_hangs_149 (by decide) ?_
  have hPs := k_self hP
  have hDs := k_selfD hD
  refine k_behq (X := []) (Y := []) (va_runV (As := [.int k6, .int 0]) (rest := []) ⟨hx, hb, hml, hown, hts⟩ (c_X4_cup l D cI cC cQ H.size d0 n0 na s0 sa h1 h2 mm ma t0 p0 pa tk N S oo zz M0 M1 M2 M3 rs de pc pg sg ln po dd lt pl f1s s2s tms k6 0) (kcwV hts wd_ml_RL_56 wd_im_yX4_cup wd_sel_yX4_cup wd_ini_RX4 wd_code_yX4_cup rfl rfl rfl hd_X4_cup ⟨Nat.le_of_ble_eq_true rfl, Nat.le_of_ble_eq_true rfl⟩) ⟨in_blind, va_recv hK (pa_l (pa_r hPs)) (ci := 4) (q0 := 0) rfl rfl, k_pre hK (pa_l (pa_r hPs)) (da_l (da_r hDs)) hN⟩ rfl rfl hl.1 rfl (lv_room (Nat.le_of_ble_eq_true rfl)) dL_hangs_150 ⟨Nat.le_of_ble_eq_true rfl, Nat.le_of_ble_eq_true rfl⟩) hPs hDs hS hA (fun u14 H locs hP hD hS => ?_)
  have hP := k_unP hP
  have hD := k_unD hD
  have hP : va_P D vwCl (DW cI cC cQ d0 n0 na s0 sa h1 h2 mm ma t0 p0 pa tk N S oo zz M0 M1 M2 M3 rs de pc pg sg ln po dd lt pl f1s s2s tms) H := hP
  have hD : va_D A (DW cI cC cQ d0 n0 na s0 sa h1 h2 mm ma t0 p0 pa tk N S oo zz M0 M1 M2 M3 rs de pc pg sg ln po dd lt pl f1s s2s tms) := hD
  refine lv_if_lt (tgt := 352) hx hb dL_hangs_153 (by decide) (fun c9 => absurd c9 (hg_153 g hk)) (fun _ => ?_)
  refine lv_aload_n hx hb dL_hangs_156 rfl (lv_at hl 9 rfl) ?_
  refine lv_iload hx hb dL_hangs_157 (lv_at hl 3 rfl) ?_
  refine lv_iconst (v := 0) hx hb dL_hangs_159 (by decide) ?_
  have hPs := k_self hP
  have hDs := k_selfD hD
  refine k_behq (X := []) (Y := []) (va_runV (As := [.int k6, .int 0]) (rest := []) ⟨hx, hb, hml, hown, hts⟩ (c_X4_cup l D cI cC cQ H.size d0 n0 na s0 sa h1 h2 mm ma t0 p0 pa tk N S oo zz M0 M1 M2 M3 rs de pc pg sg ln po dd lt pl f1s s2s tms k6 0) (kcwV hts wd_ml_RL_56 wd_im_yX4_cup wd_sel_yX4_cup wd_ini_RX4 wd_code_yX4_cup rfl rfl rfl hd_X4_cup ⟨Nat.le_of_ble_eq_true rfl, Nat.le_of_ble_eq_true rfl⟩) ⟨in_blind, va_recv hK (pa_l (pa_r hPs)) (ci := 4) (q0 := 0) rfl rfl, k_pre hK (pa_l (pa_r hPs)) (da_l (da_r hDs)) hN⟩ rfl rfl hl.1 rfl (lv_room (Nat.le_of_ble_eq_true rfl)) dL_hangs_160 ⟨Nat.le_of_ble_eq_true rfl, Nat.le_of_ble_eq_true rfl⟩) hPs hDs hS hA (fun u17 H locs hP hD hS => ?_)
  have hP := k_unP hP
  have hD := k_unD hD
  have hP : va_P D vwCl (DW cI cC cQ d0 n0 na s0 sa h1 h2 mm ma t0 p0 pa tk N S oo zz M0 M1 M2 M3 rs de pc pg sg ln po dd lt pl f1s s2s tms) H := hP
  have hD : va_D A (DW cI cC cQ d0 n0 na s0 sa h1 h2 mm ma t0 p0 pa tk N S oo zz M0 M1 M2 M3 rs de pc pg sg ln po dd lt pl f1s s2s tms) := hD
  refine lv_iconst (v := 3) hx hb dL_hangs_163 (by decide) ?_
  refine lv_icmp_ge (tgt := 352) hx hb dL_hangs_164 (by decide) (fun c9 => absurd c9 (hg_164 g hk)) (fun _ => ?_)
  refine lv_aload_n hx hb dL_hangs_167 rfl (lv_at hl 9 rfl) ?_
  refine lv_iload hx hb dL_hangs_168 (lv_at hl 3 rfl) ?_
  refine lv_iconst (v := 1) hx hb dL_hangs_170 (by decide) ?_
  have hPs := k_self hP
  have hDs := k_selfD hD
  refine k_behq (X := []) (Y := []) (va_runV (As := [.int k6, .int 1]) (rest := []) ⟨hx, hb, hml, hown, hts⟩ (c_X4_cup l D cI cC cQ H.size d0 n0 na s0 sa h1 h2 mm ma t0 p0 pa tk N S oo zz M0 M1 M2 M3 rs de pc pg sg ln po dd lt pl f1s s2s tms k6 1) (kcwV hts wd_ml_RL_56 wd_im_yX4_cup wd_sel_yX4_cup wd_ini_RX4 wd_code_yX4_cup rfl rfl rfl hd_X4_cup ⟨Nat.le_of_ble_eq_true rfl, Nat.le_of_ble_eq_true rfl⟩) ⟨in_blind, va_recv hK (pa_l (pa_r hPs)) (ci := 4) (q0 := 0) rfl rfl, k_pre hK (pa_l (pa_r hPs)) (da_l (da_r hDs)) hN⟩ rfl rfl hl.1 rfl (lv_room (Nat.le_of_ble_eq_true rfl)) dL_hangs_171 ⟨Nat.le_of_ble_eq_true rfl, Nat.le_of_ble_eq_true rfl⟩) hPs hDs hS hA (fun u20 H locs hP hD hS => ?_)
  have hP := k_unP hP
  have hD := k_unD hD
  have hP : va_P D vwCl (DW cI cC cQ d0 n0 na s0 sa h1 h2 mm ma t0 p0 pa tk N S oo zz M0 M1 M2 M3 rs de pc pg sg ln po dd lt pl f1s s2s tms) H := hP
  have hD : va_D A (DW cI cC cQ d0 n0 na s0 sa h1 h2 mm ma t0 p0 pa tk N S oo zz M0 M1 M2 M3 rs de pc pg sg ln po dd lt pl f1s s2s tms) := hD
  refine lv_if_lt (tgt := 352) hx hb dL_hangs_174 (by decide) (fun c9 => absurd c9 (hg_174 g hk)) (fun _ => ?_)
  refine lv_aload_n hx hb dL_hangs_177 rfl (lv_at hl 9 rfl) ?_
  refine lv_iload hx hb dL_hangs_178 (lv_at hl 3 rfl) ?_
  refine lv_iconst (v := 2) hx hb dL_hangs_180 (by decide) ?_
  have hPs := k_self hP
  have hDs := k_selfD hD
  refine k_behq (X := []) (Y := []) (va_runV (As := [.int k6, .int 2]) (rest := []) ⟨hx, hb, hml, hown, hts⟩ (c_X4_cup l D cI cC cQ H.size d0 n0 na s0 sa h1 h2 mm ma t0 p0 pa tk N S oo zz M0 M1 M2 M3 rs de pc pg sg ln po dd lt pl f1s s2s tms k6 2) (kcwV hts wd_ml_RL_56 wd_im_yX4_cup wd_sel_yX4_cup wd_ini_RX4 wd_code_yX4_cup rfl rfl rfl hd_X4_cup ⟨Nat.le_of_ble_eq_true rfl, Nat.le_of_ble_eq_true rfl⟩) ⟨in_blind, va_recv hK (pa_l (pa_r hPs)) (ci := 4) (q0 := 0) rfl rfl, k_pre hK (pa_l (pa_r hPs)) (da_l (da_r hDs)) hN⟩ rfl rfl hl.1 rfl (lv_room (Nat.le_of_ble_eq_true rfl)) dL_hangs_181 ⟨Nat.le_of_ble_eq_true rfl, Nat.le_of_ble_eq_true rfl⟩) hPs hDs hS hA (fun u23 H locs hP hD hS => ?_)
  have hP := k_unP hP
  have hD := k_unD hD
  have hP : va_P D vwCl (DW cI cC cQ d0 n0 na s0 sa h1 h2 mm ma t0 p0 pa tk N S oo zz M0 M1 M2 M3 rs de pc pg sg ln po dd lt pl f1s s2s tms) H := hP
  have hD : va_D A (DW cI cC cQ d0 n0 na s0 sa h1 h2 mm ma t0 p0 pa tk N S oo zz M0 M1 M2 M3 rs de pc pg sg ln po dd lt pl f1s s2s tms) := hD
  refine lv_if_lt (tgt := 352) hx hb dL_hangs_184 (by decide) (fun c9 => absurd c9 (hg_184 g hk)) (fun _ => ?_)
  refine lv_iload hx hb dL_hangs_187 (lv_at hl 2 rfl) ?_
  refine lv_sipush (v := 6000) hx hb dL_hangs_189 (by decide) ?_
  refine lv_icmp_gt (tgt := 352) hx hb dL_hangs_192 (by decide) (fun c9 => absurd c9 (hg_192 g hk)) (fun _ => ?_)
  refine lv_aload_n hx hb dL_hangs_195 rfl (lv_at hl 9 rfl) ?_
  refine lv_iload hx hb dL_hangs_196 (lv_at hl 3 rfl) ?_
  refine lv_iconst (v := 3) hx hb dL_hangs_198 (by decide) ?_
  have hPs := k_self hP
  have hDs := k_selfD hD
  refine k_behq (X := []) (Y := []) (va_runV (As := [.int k6, .int 3]) (rest := []) ⟨hx, hb, hml, hown, hts⟩ (c_X4_cup l D cI cC cQ H.size d0 n0 na s0 sa h1 h2 mm ma t0 p0 pa tk N S oo zz M0 M1 M2 M3 rs de pc pg sg ln po dd lt pl f1s s2s tms k6 3) (kcwV hts wd_ml_RL_56 wd_im_yX4_cup wd_sel_yX4_cup wd_ini_RX4 wd_code_yX4_cup rfl rfl rfl hd_X4_cup ⟨Nat.le_of_ble_eq_true rfl, Nat.le_of_ble_eq_true rfl⟩) ⟨in_blind, va_recv hK (pa_l (pa_r hPs)) (ci := 4) (q0 := 0) rfl rfl, k_pre hK (pa_l (pa_r hPs)) (da_l (da_r hDs)) hN⟩ rfl rfl hl.1 rfl (lv_room (Nat.le_of_ble_eq_true rfl)) dL_hangs_199 ⟨Nat.le_of_ble_eq_true rfl, Nat.le_of_ble_eq_true rfl⟩) hPs hDs hS hA (fun u26 H locs hP hD hS => ?_)
  have hP := k_unP hP
  have hD := k_unD hD
  have hP : va_P D vwCl (DW cI cC cQ d0 n0 na s0 sa h1 h2 mm ma t0 p0 pa tk N S oo zz M0 M1 M2 M3 rs de pc pg sg ln po dd lt pl f1s s2s tms) H := hP
  have hD : va_D A (DW cI cC cQ d0 n0 na s0 sa h1 h2 mm ma t0 p0 pa tk N S oo zz M0 M1 M2 M3 rs de pc pg sg ln po dd lt pl f1s s2s tms) := hD
  refine lv_if_lt (tgt := 352) hx hb dL_hangs_202 (by decide) (fun c9 => absurd c9 (hg_202 g hk)) (fun _ => ?_)
  refine lv_aload_n hx hb dL_hangs_205 rfl (lv_at hl 9 rfl) ?_
  refine lv_iload hx hb dL_hangs_206 (lv_at hl 3 rfl) ?_
  refine lv_iconst (v := 3) hx hb dL_hangs_208 (by decide) ?_
  have hPs := k_self hP
  have hDs := k_selfD hD
  refine k_behq (X := []) (Y := []) (va_runV (As := [.int k6, .int 3]) (rest := []) ⟨hx, hb, hml, hown, hts⟩ (c_X4_cup l D cI cC cQ H.size d0 n0 na s0 sa h1 h2 mm ma t0 p0 pa tk N S oo zz M0 M1 M2 M3 rs de pc pg sg ln po dd lt pl f1s s2s tms k6 3) (kcwV hts wd_ml_RL_56 wd_im_yX4_cup wd_sel_yX4_cup wd_ini_RX4 wd_code_yX4_cup rfl rfl rfl hd_X4_cup ⟨Nat.le_of_ble_eq_true rfl, Nat.le_of_ble_eq_true rfl⟩) ⟨in_blind, va_recv hK (pa_l (pa_r hPs)) (ci := 4) (q0 := 0) rfl rfl, k_pre hK (pa_l (pa_r hPs)) (da_l (da_r hDs)) hN⟩ rfl rfl hl.1 rfl (lv_room (Nat.le_of_ble_eq_true rfl)) dL_hangs_209 ⟨Nat.le_of_ble_eq_true rfl, Nat.le_of_ble_eq_true rfl⟩) hPs hDs hS hA (fun u29 H locs hP hD hS => ?_)
  have hP := k_unP hP
  have hD := k_unD hD
  have hP : va_P D vwCl (DW cI cC cQ d0 n0 na s0 sa h1 h2 mm ma t0 p0 pa tk N S oo zz M0 M1 M2 M3 rs de pc pg sg ln po dd lt pl f1s s2s tms) H := hP
  have hD : va_D A (DW cI cC cQ d0 n0 na s0 sa h1 h2 mm ma t0 p0 pa tk N S oo zz M0 M1 M2 M3 rs de pc pg sg ln po dd lt pl f1s s2s tms) := hD
  refine lv_sipush (v := 4000) hx hb dL_hangs_212 (by decide) ?_
  refine lv_icmp_gt (tgt := 352) hx hb dL_hangs_215 (by decide) (fun c9 => absurd c9 (hg_215 g hk)) (fun _ => ?_)
  refine lv_iload hx hb dL_hangs_218 (lv_at hl 1 rfl) ?_
  refine lv_iload hx hb dL_hangs_220 (lv_at hl 2 rfl) ?_
  refine lv_icmp_gt (tgt := 352) hx hb dL_hangs_222 (by decide) (fun c9 => absurd c9 (hg_222 g hk)) (fun _ => ?_)
  refine lv_iload hx hb dL_hangs_225 (lv_at hl 2 rfl) ?_
  refine lv_iload hx hb dL_hangs_227 (lv_at hl 1 rfl) ?_
  refine lv_isub hx hb dL_hangs_229 ?_
  refine lv_aload_n hx hb dL_hangs_230 rfl (lv_at hl 9 rfl) ?_
  refine lv_bipush (v := 11) hx hb dL_hangs_231 (by decide) ?_
  have hPs := k_self hP
  have hDs := k_selfD hD
  refine k_behq (X := []) (Y := []) (va_runV (As := [.int 11]) (rest := [.int (((sh_X4_cup N k6 1) + (sh_X4_cup N k6 2)) - (sh_X4_cup N k6 5))]) ⟨hx, hb, hml, hown, hts⟩ (c_X4_count l D cI cC cQ H.size d0 n0 na s0 sa h1 h2 mm ma t0 p0 pa tk N S oo zz M0 M1 M2 M3 rs de pc pg sg ln po dd lt pl f1s s2s tms 11) (kcwV hts wd_ml_RL_53 wd_im_yX4_count wd_sel_yX4_count wd_ini_RX4 wd_code_yX4_count rfl rfl rfl hd_X4_count ⟨Nat.le_of_ble_eq_true rfl, Nat.le_of_ble_eq_true rfl⟩) ⟨in_blind, va_recv hK (pa_l (pa_r hPs)) (ci := 4) (q0 := 0) rfl rfl, k_pre hK (pa_l (pa_r hPs)) (da_l (da_r hDs)) hN⟩ rfl rfl hl.1 rfl (lv_room (Nat.le_of_ble_eq_true rfl)) dL_hangs_233 ⟨Nat.le_of_ble_eq_true rfl, Nat.le_of_ble_eq_true rfl⟩) hPs hDs hS hA (fun u32 H locs hP hD hS => ?_)
  have hP := k_unP hP
  have hD := k_unD hD
  have hP : va_P D vwCl (DW cI cC cQ d0 n0 na s0 sa h1 h2 mm ma t0 p0 pa tk N S oo zz M0 M1 M2 M3 rs de pc pg sg ln po dd lt pl f1s s2s tms) H := hP
  have hD : va_D A (DW cI cC cQ d0 n0 na s0 sa h1 h2 mm ma t0 p0 pa tk N S oo zz M0 M1 M2 M3 rs de pc pg sg ln po dd lt pl f1s s2s tms) := hD
  refine lv_icmp_ge (tgt := 352) hx hb dL_hangs_236 (by decide) (fun c9 => absurd c9 (hg_236 g hk)) (fun _ => ?_)
  refine lv_iload hx hb dL_hangs_239 (lv_at hl 1 rfl) ?_
  refine lv_aload_n hx hb dL_hangs_241 rfl (lv_at hl 9 rfl) ?_
  refine lv_bipush (v := 11) hx hb dL_hangs_242 (by decide) ?_
  have hPs := k_self hP
  have hDs := k_selfD hD
  refine k_behq (X := []) (Y := []) (va_runV (As := [.int 11]) (rest := [.int (sh_X4_cup N k6 5)]) ⟨hx, hb, hml, hown, hts⟩ (c_X4_count l D cI cC cQ H.size d0 n0 na s0 sa h1 h2 mm ma t0 p0 pa tk N S oo zz M0 M1 M2 M3 rs de pc pg sg ln po dd lt pl f1s s2s tms 11) (kcwV hts wd_ml_RL_53 wd_im_yX4_count wd_sel_yX4_count wd_ini_RX4 wd_code_yX4_count rfl rfl rfl hd_X4_count ⟨Nat.le_of_ble_eq_true rfl, Nat.le_of_ble_eq_true rfl⟩) ⟨in_blind, va_recv hK (pa_l (pa_r hPs)) (ci := 4) (q0 := 0) rfl rfl, k_pre hK (pa_l (pa_r hPs)) (da_l (da_r hDs)) hN⟩ rfl rfl hl.1 rfl (lv_room (Nat.le_of_ble_eq_true rfl)) dL_hangs_244 ⟨Nat.le_of_ble_eq_true rfl, Nat.le_of_ble_eq_true rfl⟩) hPs hDs hS hA (fun u35 H locs hP hD hS => ?_)
  have hP := k_unP hP
  have hD := k_unD hD
  have hP : va_P D vwCl (DW cI cC cQ d0 n0 na s0 sa h1 h2 mm ma t0 p0 pa tk N S oo zz M0 M1 M2 M3 rs de pc pg sg ln po dd lt pl f1s s2s tms) H := hP
  have hD : va_D A (DW cI cC cQ d0 n0 na s0 sa h1 h2 mm ma t0 p0 pa tk N S oo zz M0 M1 M2 M3 rs de pc pg sg ln po dd lt pl f1s s2s tms) := hD
  refine lv_irem hx hb dL_hangs_247 (hg_n11 g) ?_
  refine lv_if_ne (tgt := 352) hx hb dL_hangs_248 (by decide) (fun c9 => absurd (hg_248 g hk) c9) (fun _ => ?_)
  refine lv_aload_n hx hb dL_hangs_251 rfl (lv_at hl 9 rfl) ?_
  refine lv_iload hx hb dL_hangs_252 (lv_at hl 3 rfl) ?_
  refine lv_bipush (v := 6) hx hb dL_hangs_254 (by decide) ?_
  have hPs := k_self hP
  have hDs := k_selfD hD
  refine k_behq (X := []) (Y := []) (va_runV (As := [.int k6, .int 6]) (rest := []) ⟨hx, hb, hml, hown, hts⟩ (c_X4_cup l D cI cC cQ H.size d0 n0 na s0 sa h1 h2 mm ma t0 p0 pa tk N S oo zz M0 M1 M2 M3 rs de pc pg sg ln po dd lt pl f1s s2s tms k6 6) (kcwV hts wd_ml_RL_56 wd_im_yX4_cup wd_sel_yX4_cup wd_ini_RX4 wd_code_yX4_cup rfl rfl rfl hd_X4_cup ⟨Nat.le_of_ble_eq_true rfl, Nat.le_of_ble_eq_true rfl⟩) ⟨in_blind, va_recv hK (pa_l (pa_r hPs)) (ci := 4) (q0 := 0) rfl rfl, k_pre hK (pa_l (pa_r hPs)) (da_l (da_r hDs)) hN⟩ rfl rfl hl.1 rfl (lv_room (Nat.le_of_ble_eq_true rfl)) dL_hangs_256 ⟨Nat.le_of_ble_eq_true rfl, Nat.le_of_ble_eq_true rfl⟩) hPs hDs hS hA (fun u38 H locs hP hD hS => ?_)
  have hP := k_unP hP
  have hD := k_unD hD
  have hP : va_P D vwCl (DW cI cC cQ d0 n0 na s0 sa h1 h2 mm ma t0 p0 pa tk N S oo zz M0 M1 M2 M3 rs de pc pg sg ln po dd lt pl f1s s2s tms) H := hP
  have hD : va_D A (DW cI cC cQ d0 n0 na s0 sa h1 h2 mm ma t0 p0 pa tk N S oo zz M0 M1 M2 M3 rs de pc pg sg ln po dd lt pl f1s s2s tms) := hD
  refine lv_iload hx hb dL_hangs_259 (lv_at hl 1 rfl) ?_
  refine lv_aload_n hx hb dL_hangs_261 rfl (lv_at hl 9 rfl) ?_
  refine lv_iload hx hb dL_hangs_262 (lv_at hl 3 rfl) ?_
  refine lv_iconst (v := 3) hx hb dL_hangs_264 (by decide) ?_
  have hPs := k_self hP
  have hDs := k_selfD hD
  refine k_behq (X := []) (Y := []) (va_runV (As := [.int k6, .int 3]) (rest := [.int (sh_X4_cup N k6 5), .int (sh_X4_cup N k6 6)]) ⟨hx, hb, hml, hown, hts⟩ (c_X4_cup l D cI cC cQ H.size d0 n0 na s0 sa h1 h2 mm ma t0 p0 pa tk N S oo zz M0 M1 M2 M3 rs de pc pg sg ln po dd lt pl f1s s2s tms k6 3) (kcwV hts wd_ml_RL_56 wd_im_yX4_cup wd_sel_yX4_cup wd_ini_RX4 wd_code_yX4_cup rfl rfl rfl hd_X4_cup ⟨Nat.le_of_ble_eq_true rfl, Nat.le_of_ble_eq_true rfl⟩) ⟨in_blind, va_recv hK (pa_l (pa_r hPs)) (ci := 4) (q0 := 0) rfl rfl, k_pre hK (pa_l (pa_r hPs)) (da_l (da_r hDs)) hN⟩ rfl rfl hl.1 rfl (lv_room (Nat.le_of_ble_eq_true rfl)) dL_hangs_265 ⟨Nat.le_of_ble_eq_true rfl, Nat.le_of_ble_eq_true rfl⟩) hPs hDs hS hA (fun u41 H locs hP hD hS => ?_)
  have hP := k_unP hP
  have hD := k_unD hD
  have hP : va_P D vwCl (DW cI cC cQ d0 n0 na s0 sa h1 h2 mm ma t0 p0 pa tk N S oo zz M0 M1 M2 M3 rs de pc pg sg ln po dd lt pl f1s s2s tms) H := hP
  have hD : va_D A (DW cI cC cQ d0 n0 na s0 sa h1 h2 mm ma t0 p0 pa tk N S oo zz M0 M1 M2 M3 rs de pc pg sg ln po dd lt pl f1s s2s tms) := hD
  refine lv_iadd hx hb dL_hangs_268 ?_
  refine lv_iconst (v := 2) hx hb dL_hangs_269 (by decide) ?_
  refine lv_idiv hx hb dL_hangs_270 (by decide) ?_
  refine lv_icmp_ne (tgt := 352) hx hb dL_hangs_271 (by decide) (fun c9 => absurd (hg_271 hk) c9) (fun _ => ?_)
  refine lv_aload_n hx hb dL_hangs_274 rfl (lv_at hl 9 rfl) ?_
  refine lv_iload hx hb dL_hangs_275 (lv_at hl 3 rfl) ?_
  refine lv_bipush (v := 7) hx hb dL_hangs_277 (by decide) ?_
  have hPs := k_self hP
  have hDs := k_selfD hD
  refine k_behq (X := []) (Y := []) (va_runV (As := [.int k6, .int 7]) (rest := []) ⟨hx, hb, hml, hown, hts⟩ (c_X4_cup l D cI cC cQ H.size d0 n0 na s0 sa h1 h2 mm ma t0 p0 pa tk N S oo zz M0 M1 M2 M3 rs de pc pg sg ln po dd lt pl f1s s2s tms k6 7) (kcwV hts wd_ml_RL_56 wd_im_yX4_cup wd_sel_yX4_cup wd_ini_RX4 wd_code_yX4_cup rfl rfl rfl hd_X4_cup ⟨Nat.le_of_ble_eq_true rfl, Nat.le_of_ble_eq_true rfl⟩) ⟨in_blind, va_recv hK (pa_l (pa_r hPs)) (ci := 4) (q0 := 0) rfl rfl, k_pre hK (pa_l (pa_r hPs)) (da_l (da_r hDs)) hN⟩ rfl rfl hl.1 rfl (lv_room (Nat.le_of_ble_eq_true rfl)) dL_hangs_279 ⟨Nat.le_of_ble_eq_true rfl, Nat.le_of_ble_eq_true rfl⟩) hPs hDs hS hA (fun u44 H locs hP hD hS => ?_)
  have hP := k_unP hP
  have hD := k_unD hD
  have hP : va_P D vwCl (DW cI cC cQ d0 n0 na s0 sa h1 h2 mm ma t0 p0 pa tk N S oo zz M0 M1 M2 M3 rs de pc pg sg ln po dd lt pl f1s s2s tms) H := hP
  have hD : va_D A (DW cI cC cQ d0 n0 na s0 sa h1 h2 mm ma t0 p0 pa tk N S oo zz M0 M1 M2 M3 rs de pc pg sg ln po dd lt pl f1s s2s tms) := hD
  refine lv_aload_n hx hb dL_hangs_282 rfl (lv_at hl 9 rfl) ?_
  refine lv_iload hx hb dL_hangs_283 (lv_at hl 3 rfl) ?_
  refine lv_bipush (v := 6) hx hb dL_hangs_285 (by decide) ?_
  have hPs := k_self hP
  have hDs := k_selfD hD
  refine k_behq (X := []) (Y := []) (va_runV (As := [.int k6, .int 6]) (rest := [.int (sh_X4_cup N k6 7)]) ⟨hx, hb, hml, hown, hts⟩ (c_X4_cup l D cI cC cQ H.size d0 n0 na s0 sa h1 h2 mm ma t0 p0 pa tk N S oo zz M0 M1 M2 M3 rs de pc pg sg ln po dd lt pl f1s s2s tms k6 6) (kcwV hts wd_ml_RL_56 wd_im_yX4_cup wd_sel_yX4_cup wd_ini_RX4 wd_code_yX4_cup rfl rfl rfl hd_X4_cup ⟨Nat.le_of_ble_eq_true rfl, Nat.le_of_ble_eq_true rfl⟩) ⟨in_blind, va_recv hK (pa_l (pa_r hPs)) (ci := 4) (q0 := 0) rfl rfl, k_pre hK (pa_l (pa_r hPs)) (da_l (da_r hDs)) hN⟩ rfl rfl hl.1 rfl (lv_room (Nat.le_of_ble_eq_true rfl)) dL_hangs_287 ⟨Nat.le_of_ble_eq_true rfl, Nat.le_of_ble_eq_true rfl⟩) hPs hDs hS hA (fun u47 H locs hP hD hS => ?_)
  have hP := k_unP hP
  have hD := k_unD hD
  have hP : va_P D vwCl (DW cI cC cQ d0 n0 na s0 sa h1 h2 mm ma t0 p0 pa tk N S oo zz M0 M1 M2 M3 rs de pc pg sg ln po dd lt pl f1s s2s tms) H := hP
  have hD : va_D A (DW cI cC cQ d0 n0 na s0 sa h1 h2 mm ma t0 p0 pa tk N S oo zz M0 M1 M2 M3 rs de pc pg sg ln po dd lt pl f1s s2s tms) := hD
  refine lv_iload hx hb dL_hangs_290 (lv_at hl 2 rfl) ?_
  refine lv_isub hx hb dL_hangs_292 ?_
  refine lv_ldc hx hb hown (hts _ wd_con_RL_59) dL_hangs_293 ?_
  refine lv_iadd hx hb dL_hangs_295 ?_
  refine lv_icmp_ne (tgt := 352) hx hb dL_hangs_296 (by decide) (fun c9 => absurd (hg_296 hk) c9) (fun _ => ?_)
  refine lv_iload hx hb dL_hangs_299 (lv_at hl 0 rfl) ?_
  refine lv_bipush (v := (-4)) hx hb dL_hangs_301 (by decide) ?_
  have K : ∀  (H : Heap) (locs : List Loc) (ls : Array Slot), va_P D vwCl (DW cI cC cQ d0 n0 na s0 sa h1 h2 mm ma t0 p0 pa tk N S oo zz M0 M1 M2 M3 rs de pc pg sg ln po dd lt pl f1s s2s tms) H → va_D A (DW cI cC cQ d0 n0 na s0 sa h1 h2 mm ma t0 p0 pa tk N S oo zz M0 M1 M2 M3 rs de pc pg sg ln po dd lt pl f1s s2s tms) → va_S A s.heap H locs → lv_has ls 14 [(0, .ref d0), (1, .int al), (2, .int le), (3, .int bo), (4, .int nn), (5, .int 1), (6, .int k6), (7, .int ((sh_X4_cup N k6 1) + (sh_X4_cup N k6 2))), (8, .int (sh_X4_cup N k6 5)), (9, .int (sh_X4_cup N k6 4))] → W p l e rm_L_hangs s m args below meth c H locs 0 0 Q (F0 m 329 ls []) := by
    intro  H locs ls  hP hD hS hl
    refine lv_iload hx hb dL_hangs_329 (lv_at hl 9 rfl) ?_
    refine lv_bipush (v := (-4)) hx hb dL_hangs_331 (by decide) ?_
    have K : ∀  (H : Heap) (locs : List Loc) (ls : Array Slot), va_P D vwCl (DW cI cC cQ d0 n0 na s0 sa h1 h2 mm ma t0 p0 pa tk N S oo zz M0 M1 M2 M3 rs de pc pg sg ln po dd lt pl f1s s2s tms) H → va_D A (DW cI cC cQ d0 n0 na s0 sa h1 h2 mm ma t0 p0 pa tk N S oo zz M0 M1 M2 M3 rs de pc pg sg ln po dd lt pl f1s s2s tms) → va_S A s.heap H locs → lv_has ls 14 [(0, .ref d0), (1, .int al), (2, .int le), (3, .int bo), (4, .int nn), (5, .int 1), (6, .int k6), (7, .int ((sh_X4_cup N k6 1) + (sh_X4_cup N k6 2))), (8, .int (sh_X4_cup N k6 5)), (9, .int (sh_X4_cup N k6 4))] → W p l e rm_L_hangs s m args below meth c H locs 0 0 Q (F0 m 348 ls []) := by
      intro  H locs ls  hP hD hS hl
      refine lv_iconst (v := 1) hx hb dL_hangs_348 (by decide) ?_
      refine lv_goto (tgt := 353) hx hb dL_hangs_349 (by decide) ?_
      refine lv_istore (lv' := [(5, .int 1), (0, .ref d0), (1, .int al), (2, .int le), (3, .int bo), (4, .int nn), (6, .int k6), (7, .int ((sh_X4_cup N k6 1) + (sh_X4_cup N k6 2))), (8, .int (sh_X4_cup N k6 5)), (9, .int (sh_X4_cup N k6 4))]) hx hb dL_hangs_353 hl (by decide) rfl (fun ls hl => ?_)
      refine lv_iload_n hx hb dL_hangs_355 rfl (lv_at hl 2 rfl) ?_
      refine lv_iload hx hb dL_hangs_356 (lv_at hl 7 rfl) ?_
      refine lv_iadd hx hb dL_hangs_358 ?_
      refine lv_istore_n (lv' := [(1, .int (al + ((sh_X4_cup N k6 1) + (sh_X4_cup N k6 2)))), (5, .int 1), (0, .ref d0), (2, .int le), (3, .int bo), (4, .int nn), (6, .int k6), (7, .int ((sh_X4_cup N k6 1) + (sh_X4_cup N k6 2))), (8, .int (sh_X4_cup N k6 5)), (9, .int (sh_X4_cup N k6 4))]) hx hb dL_hangs_359 rfl hl (by decide) rfl (fun ls hl => ?_)
      refine lv_iload_n hx hb dL_hangs_360 rfl (lv_at hl 3 rfl) ?_
      refine lv_aload_n hx hb dL_hangs_361 rfl (lv_at hl 2 rfl) ?_
      refine lv_iload hx hb dL_hangs_362 (lv_at hl 6 rfl) ?_
      refine lv_bipush (v := 6) hx hb dL_hangs_364 (by decide) ?_
      have hPs := k_self hP
      have hDs := k_selfD hD
      refine k_behq (X := []) (Y := []) (va_runV (As := [.int k6, .int 6]) (rest := [.int le]) ⟨hx, hb, hml, hown, hts⟩ (c_X4_cup l D cI cC cQ H.size d0 n0 na s0 sa h1 h2 mm ma t0 p0 pa tk N S oo zz M0 M1 M2 M3 rs de pc pg sg ln po dd lt pl f1s s2s tms k6 6) (kcwV hts wd_ml_RL_56 wd_im_yX4_cup wd_sel_yX4_cup wd_ini_RX4 wd_code_yX4_cup rfl rfl rfl hd_X4_cup ⟨Nat.le_of_ble_eq_true rfl, Nat.le_of_ble_eq_true rfl⟩) ⟨in_blind, va_recv hK (pa_l (pa_r hPs)) (ci := 4) (q0 := 0) rfl rfl, k_pre hK (pa_l (pa_r hPs)) (da_l (da_r hDs)) hN⟩ rfl rfl hl.1 rfl (lv_room (Nat.le_of_ble_eq_true rfl)) dL_hangs_366 ⟨Nat.le_of_ble_eq_true rfl, Nat.le_of_ble_eq_true rfl⟩) hPs hDs hS hA (fun u60 H locs hP hD hS => ?_)
      have hP := k_unP hP
      have hD := k_unD hD
      have hP : va_P D vwCl (DW cI cC cQ d0 n0 na s0 sa h1 h2 mm ma t0 p0 pa tk N S oo zz M0 M1 M2 M3 rs de pc pg sg ln po dd lt pl f1s s2s tms) H := hP
      have hD : va_D A (DW cI cC cQ d0 n0 na s0 sa h1 h2 mm ma t0 p0 pa tk N S oo zz M0 M1 M2 M3 rs de pc pg sg ln po dd lt pl f1s s2s tms) := hD
      refine lv_iadd hx hb dL_hangs_369 ?_
      refine lv_istore_n (lv' := [(2, .int (le + (sh_X4_cup N k6 6))), (1, .int (al + ((sh_X4_cup N k6 1) + (sh_X4_cup N k6 2)))), (5, .int 1), (0, .ref d0), (3, .int bo), (4, .int nn), (6, .int k6), (7, .int ((sh_X4_cup N k6 1) + (sh_X4_cup N k6 2))), (8, .int (sh_X4_cup N k6 5)), (9, .int (sh_X4_cup N k6 4))]) hx hb dL_hangs_370 rfl hl (by decide) rfl (fun ls hl => ?_)
      refine lv_iload_n hx hb dL_hangs_371 rfl (lv_at hl 4 rfl) ?_
      refine lv_aload_n hx hb dL_hangs_372 rfl (lv_at hl 3 rfl) ?_
      refine lv_iload hx hb dL_hangs_373 (lv_at hl 6 rfl) ?_
      refine lv_bipush (v := 7) hx hb dL_hangs_375 (by decide) ?_
      have hPs := k_self hP
      have hDs := k_selfD hD
      refine k_behq (X := []) (Y := []) (va_runV (As := [.int k6, .int 7]) (rest := [.int bo]) ⟨hx, hb, hml, hown, hts⟩ (c_X4_cup l D cI cC cQ H.size d0 n0 na s0 sa h1 h2 mm ma t0 p0 pa tk N S oo zz M0 M1 M2 M3 rs de pc pg sg ln po dd lt pl f1s s2s tms k6 7) (kcwV hts wd_ml_RL_56 wd_im_yX4_cup wd_sel_yX4_cup wd_ini_RX4 wd_code_yX4_cup rfl rfl rfl hd_X4_cup ⟨Nat.le_of_ble_eq_true rfl, Nat.le_of_ble_eq_true rfl⟩) ⟨in_blind, va_recv hK (pa_l (pa_r hPs)) (ci := 4) (q0 := 0) rfl rfl, k_pre hK (pa_l (pa_r hPs)) (da_l (da_r hDs)) hN⟩ rfl rfl hl.1 rfl (lv_room (Nat.le_of_ble_eq_true rfl)) dL_hangs_377 ⟨Nat.le_of_ble_eq_true rfl, Nat.le_of_ble_eq_true rfl⟩) hPs hDs hS hA (fun u63 H locs hP hD hS => ?_)
      have hP := k_unP hP
      have hD := k_unD hD
      have hP : va_P D vwCl (DW cI cC cQ d0 n0 na s0 sa h1 h2 mm ma t0 p0 pa tk N S oo zz M0 M1 M2 M3 rs de pc pg sg ln po dd lt pl f1s s2s tms) H := hP
      have hD : va_D A (DW cI cC cQ d0 n0 na s0 sa h1 h2 mm ma t0 p0 pa tk N S oo zz M0 M1 M2 M3 rs de pc pg sg ln po dd lt pl f1s s2s tms) := hD
      refine lv_ldc hx hb hown (hts _ wd_con_RL_59) dL_hangs_380 ?_
      have K : ∀ (v67 : Int32) (H : Heap) (locs : List Loc) (ls : Array Slot), v67 = (if (sh_X4_cup N k6 7) ≤ 100000 then 0 else 1) → va_P D vwCl (DW cI cC cQ d0 n0 na s0 sa h1 h2 mm ma t0 p0 pa tk N S oo zz M0 M1 M2 M3 rs de pc pg sg ln po dd lt pl f1s s2s tms) H → va_D A (DW cI cC cQ d0 n0 na s0 sa h1 h2 mm ma t0 p0 pa tk N S oo zz M0 M1 M2 M3 rs de pc pg sg ln po dd lt pl f1s s2s tms) → va_S A s.heap H locs → lv_has ls 14 [(0, .ref d0), (1, .int (al + ((sh_X4_cup N k6 1) + (sh_X4_cup N k6 2)))), (2, .int (le + (sh_X4_cup N k6 6))), (3, .int bo), (4, .int nn), (5, .int 1), (6, .int k6), (7, .int ((sh_X4_cup N k6 1) + (sh_X4_cup N k6 2))), (8, .int (sh_X4_cup N k6 5)), (9, .int (sh_X4_cup N k6 4))] → W p l e rm_L_hangs s m args below meth c H locs 0 0 Q (F0 m 390 ls [.int v67, .int bo]) := by
        intro v67 H locs ls hv66 hP hD hS hl
        refine lv_iadd hx hb dL_hangs_390 ?_
        refine lv_istore_n (lv' := [(3, .int (bo + v67)), (0, .ref d0), (1, .int (al + ((sh_X4_cup N k6 1) + (sh_X4_cup N k6 2)))), (2, .int (le + (sh_X4_cup N k6 6))), (4, .int nn), (5, .int 1), (6, .int k6), (7, .int ((sh_X4_cup N k6 1) + (sh_X4_cup N k6 2))), (8, .int (sh_X4_cup N k6 5)), (9, .int (sh_X4_cup N k6 4))]) hx hb dL_hangs_391 rfl hl (by decide) rfl (fun ls hl => ?_)
        refine lv_iload hx hb dL_hangs_392 (lv_at hl 4 rfl) ?_
        refine lv_iload hx hb dL_hangs_394 (lv_at hl 9 rfl) ?_
        refine lv_bipush (v := (-4)) hx hb dL_hangs_396 (by decide) ?_
        have K : ∀ (v70 : Int32) (H : Heap) (locs : List Loc) (ls : Array Slot), v70 = (if (sh_X4_cup N k6 4) = (-4) then 0 else 1) → va_P D vwCl (DW cI cC cQ d0 n0 na s0 sa h1 h2 mm ma t0 p0 pa tk N S oo zz M0 M1 M2 M3 rs de pc pg sg ln po dd lt pl f1s s2s tms) H → va_D A (DW cI cC cQ d0 n0 na s0 sa h1 h2 mm ma t0 p0 pa tk N S oo zz M0 M1 M2 M3 rs de pc pg sg ln po dd lt pl f1s s2s tms) → va_S A s.heap H locs → lv_has ls 14 [(0, .ref d0), (1, .int (al + ((sh_X4_cup N k6 1) + (sh_X4_cup N k6 2)))), (2, .int (le + (sh_X4_cup N k6 6))), (3, .int (bo + v67)), (4, .int nn), (5, .int 1), (6, .int k6), (7, .int ((sh_X4_cup N k6 1) + (sh_X4_cup N k6 2))), (8, .int (sh_X4_cup N k6 5)), (9, .int (sh_X4_cup N k6 4))] → W p l e rm_L_hangs s m args below meth c H locs 0 0 Q (F0 m 406 ls [.int v70, .int nn]) := by
          intro v70 H locs ls hv69 hP hD hS hl
          refine lv_iadd hx hb dL_hangs_406 ?_
          refine lv_istore (lv' := [(4, .int (nn + v70)), (0, .ref d0), (1, .int (al + ((sh_X4_cup N k6 1) + (sh_X4_cup N k6 2)))), (2, .int (le + (sh_X4_cup N k6 6))), (3, .int (bo + v67)), (5, .int 1), (6, .int k6), (7, .int ((sh_X4_cup N k6 1) + (sh_X4_cup N k6 2))), (8, .int (sh_X4_cup N k6 5)), (9, .int (sh_X4_cup N k6 4))]) hx hb dL_hangs_407 hl (by decide) rfl (fun ls hl => ?_)
          refine lv_iconst (v := 1) hx hb dL_hangs_409 (by decide) ?_
          refine lv_istore (lv' := [(10, .int 1), (4, .int (nn + v70)), (0, .ref d0), (1, .int (al + ((sh_X4_cup N k6 1) + (sh_X4_cup N k6 2)))), (2, .int (le + (sh_X4_cup N k6 6))), (3, .int (bo + v67)), (5, .int 1), (6, .int k6), (7, .int ((sh_X4_cup N k6 1) + (sh_X4_cup N k6 2))), (8, .int (sh_X4_cup N k6 5)), (9, .int (sh_X4_cup N k6 4))]) hx hb dL_hangs_410 hl (by decide) rfl (fun ls hl => ?_)
          exact go v67 v70 hv66 hv69 _ _ _ hP hD hS (lv_sub hl [0, 7, 6, 1, 5, 4, 3, 2] rfl)
        refine lv_icmp_ne (tgt := 405) hx hb dL_hangs_398 (by decide) (fun c68 => ?_) (fun c68 => ?_)
        · skip
          refine lv_iconst (v := 1) hx hb dL_hangs_405 (by decide) ?_
          exact K (1) _ _ _ (by rw [if_neg c68]) hP hD hS (lv_sub hl [1, 2, 3, 0, 4, 5, 6, 7, 8, 9] rfl)
        · skip
          refine lv_iconst (v := 0) hx hb dL_hangs_401 (by decide) ?_
          refine lv_goto (tgt := 406) hx hb dL_hangs_402 (by decide) ?_
          exact K (0) _ _ _ (by rw [if_pos c68]) hP hD hS (lv_sub hl [1, 2, 3, 0, 4, 5, 6, 7, 8, 9] rfl)
      refine lv_icmp_le (tgt := 389) hx hb dL_hangs_382 (by decide) (fun c65 => ?_) (fun c65 => ?_)
      · skip
        refine lv_iconst (v := 0) hx hb dL_hangs_389 (by decide) ?_
        exact K (0) _ _ _ (by rw [if_pos c65]) hP hD hS (lv_sub hl [3, 1, 0, 4, 5, 2, 6, 7, 8, 9] rfl)
      · skip
        refine lv_iconst (v := 1) hx hb dL_hangs_385 (by decide) ?_
        refine lv_goto (tgt := 390) hx hb dL_hangs_386 (by decide) ?_
        exact K (1) _ _ _ (by rw [if_neg c65]) hP hD hS (lv_sub hl [3, 1, 0, 4, 5, 2, 6, 7, 8, 9] rfl)
    refine lv_icmp_eq (tgt := 348) hx hb dL_hangs_333 (by decide) (fun c54 => ?_) (fun c54 => ?_)
    · skip
      exact K _ _ _ hP hD hS (lv_sub hl [0, 1, 2, 3, 4, 5, 6, 7, 8, 9] rfl)
    · skip
      refine lv_aload_n hx hb dL_hangs_336 rfl (lv_at hl 0 rfl) ?_
      refine lv_iload hx hb dL_hangs_337 (lv_at hl 6 rfl) ?_
      refine lv_iconst (v := 1) hx hb dL_hangs_339 (by decide) ?_
      have hPs := k_self hP
      have hDs := k_selfD hD
      refine k_behi (X := []) (Y := []) (va_runV (As := [.int k6, .int 1]) (rest := []) ⟨hx, hb, hml, hown, hts⟩ (c_X4_refill l D cI cC cQ H.size d0 n0 na s0 sa h1 h2 mm ma t0 p0 pa tk N S oo zz M0 M1 M2 M3 rs de pc pg sg ln po dd lt pl f1s s2s tms k6 1 (hoo) (hzz)) (kcwV hts wd_ml_RL_22 wd_im_yX4_refill wd_sel_yX4_refill wd_ini_RX4 wd_code_yX4_refill rfl rfl rfl hd_X4_refill ⟨Nat.le_of_ble_eq_true rfl, Nat.le_of_ble_eq_true rfl⟩) ⟨in_blind, va_recv hK (pa_l (pa_r hPs)) (ci := 4) (q0 := 0) rfl rfl, k_pre hK (pa_l (pa_r hPs)) (da_l (da_r hDs)) hN⟩ rfl rfl hl.1 rfl (lv_room (Nat.le_of_ble_eq_true rfl)) dL_hangs_340 ⟨Nat.le_of_ble_eq_true rfl, Nat.le_of_ble_eq_true rfl⟩) hPs hDs hS hA (fun r55 u56 H locs hw57 hP hD hS => ?_)
      have hw57 : (r55, u56) = (sh_X4_refill N oo zz M0 M1 M2 M3 k6 1) := hw57
      obtain ⟨hr9, hu9⟩ := Prod.mk.inj (hw57.trans (hg_refill hk c54))
      rw [hr9]
      subst hu9
      have hP := k_unP hP
      have hD := k_unD hD
      have hP : va_P D vwCl (DW cI cC cQ d0 n0 na s0 sa h1 h2 mm ma t0 p0 pa tk N S oo zz M0 M1 M2 M3 rs de pc pg sg ln po dd lt pl f1s s2s tms) H := hP
      have hD : va_D A (DW cI cC cQ d0 n0 na s0 sa h1 h2 mm ma t0 p0 pa tk N S oo zz M0 M1 M2 M3 rs de pc pg sg ln po dd lt pl f1s s2s tms) := hD
      refine lv_bipush (v := (-2)) hx hb dL_hangs_343 (by decide) ?_
      refine lv_icmp_ne (tgt := 352) hx hb dL_hangs_345 (by decide) (fun c9 => absurd c9 (by decide)) (fun _ => ?_)
      exact K _ _ _ hP hD hS (lv_sub hl [0, 1, 2, 3, 4, 5, 6, 7, 8, 9] rfl)
  refine lv_icmp_eq (tgt := 329) hx hb dL_hangs_303 (by decide) (fun c49 => ?_) (fun c49 => ?_)
  · skip
    exact K _ _ _ hP hD hS (lv_sub hl [9, 8, 7, 6, 5, 4, 3, 2, 1, 0] rfl)
  · skip
    refine lv_iload hx hb dL_hangs_306 (lv_at hl 0 rfl) ?_
    refine lv_if_lt (tgt := 352) hx hb dL_hangs_308 (by decide) (fun c9 => absurd c9 (hg_308 hk c49)) (fun _ => ?_)
    refine lv_iload hx hb dL_hangs_311 (lv_at hl 0 rfl) ?_
    refine lv_iconst (v := 2) hx hb dL_hangs_313 (by decide) ?_
    refine lv_icmp_ge (tgt := 352) hx hb dL_hangs_314 (by decide) (fun c9 => absurd c9 (hg_314 hk c49)) (fun _ => ?_)
    refine lv_aload_n hx hb dL_hangs_317 rfl (lv_at hl 9 rfl) ?_
    refine lv_iload hx hb dL_hangs_318 (lv_at hl 0 rfl) ?_
    refine lv_iconst (v := 0) hx hb dL_hangs_320 (by decide) ?_
    have hPs := k_self hP
    have hDs := k_selfD hD
    refine k_behq (X := []) (Y := []) (va_runV (As := [.int (sh_X4_cup N k6 4), .int 0]) (rest := []) ⟨hx, hb, hml, hown, hts⟩ (c_X4_printer l D cI cC cQ H.size d0 n0 na s0 sa h1 h2 mm ma t0 p0 pa tk N S oo zz M0 M1 M2 M3 rs de pc pg sg ln po dd lt pl f1s s2s tms (sh_X4_cup N k6 4) 0) (kcwV hts wd_ml_RL_60 wd_im_yX4_printer wd_sel_yX4_printer wd_ini_RX4 wd_code_yX4_printer rfl rfl rfl hd_X4_printer ⟨Nat.le_of_ble_eq_true rfl, Nat.le_of_ble_eq_true rfl⟩) ⟨in_blind, va_recv hK (pa_l (pa_r hPs)) (ci := 4) (q0 := 0) rfl rfl, k_pre hK (pa_l (pa_r hPs)) (da_l (da_r hDs)) hN⟩ rfl rfl hl.1 rfl (lv_room (Nat.le_of_ble_eq_true rfl)) dL_hangs_321 ⟨Nat.le_of_ble_eq_true rfl, Nat.le_of_ble_eq_true rfl⟩) hPs hDs hS hA (fun u51 H locs hP hD hS => ?_)
    have hP := k_unP hP
    have hD := k_unD hD
    have hP : va_P D vwCl (DW cI cC cQ d0 n0 na s0 sa h1 h2 mm ma t0 p0 pa tk N S oo zz M0 M1 M2 M3 rs de pc pg sg ln po dd lt pl f1s s2s tms) H := hP
    have hD : va_D A (DW cI cC cQ d0 n0 na s0 sa h1 h2 mm ma t0 p0 pa tk N S oo zz M0 M1 M2 M3 rs de pc pg sg ln po dd lt pl f1s s2s tms) := hD
    refine lv_iload hx hb dL_hangs_324 (lv_at hl 3 rfl) ?_
    refine lv_icmp_ne (tgt := 352) hx hb dL_hangs_326 (by decide) (fun c9 => absurd (hg_326 hk c49) c9) (fun _ => ?_)
    exact K _ _ _ hP hD hS (lv_sub hl [9, 8, 7, 6, 5, 4, 3, 2, 1, 0] rfl)
set_option maxHeartbeats 40000000 in
set_option maxRecDepth 100000 in
theorem hs_dots {p : Program} {l : Launch} {e : Env} {s : State} {m : MethodId} {args : Array Value} {below : List Frame} {meth : Method} {c : Code} {A : Nat → Prop} {Q : State → Prop} {D : va_G} {cI cC cQ : ClassId} {d0 : Nat} {n0 : Nat} {na : Nat → Nat} {s0 : Nat} {sa : Nat → Nat} {h1 : Nat} {h2 : Nat} {mm : Nat → Nat} {ma : Nat → Nat → Nat} {t0 : Nat} {p0 : Nat} {pa : Nat → Nat} {tk : Int32} {N : TMa} {S : TMa} {oo : Int32} {zz : Int32} {M0 : TMa} {M1 : TMa} {M2 : TMa} {M3 : TMa} {rs : Int32} {de : Int32} {pc : Int32} {pg : Int32} {sg : Nat → Int32} {ln : Int32} {po : Int32} {dd : Int32} {lt : Nat → Int32} {pl : Nat → Int32} {f1s : Nat → Int32} {s2s : Nat → Int32} {tms : Nat → Int32} {al le bo nn k6 dts : Int32} (F : FxM p s m c args A D cI cC cQ cL_hangs 14) (g : okN N) (hk : vp_in k6 4) (hd : dotsOK dts) (hc : ¬ 400 ≤ dts) (go : AtL p l e rm_L_hangs s m args below meth c A Q D 0 0 14 (DW cI cC cQ d0 n0 na s0 sa h1 h2 mm ma t0 p0 pa tk N S oo zz M0 M1 M2 M3 rs de pc pg sg ln po dd lt pl f1s s2s tms) [(10, .int (dts + 133)), (6, .int k6), (5, .int 1), (4, .int nn), (3, .int bo), (2, .int le), (1, .int al), (0, .ref d0)] 412 []) : AtL p l e rm_L_hangs s m args below meth c A Q D 0 0 14 (DW cI cC cQ d0 n0 na s0 sa h1 h2 mm ma t0 p0 pa tk N S oo zz M0 M1 M2 M3 rs de pc pg sg ln po dd lt pl f1s s2s tms) [(10, .int dts), (6, .int k6), (5, .int 1), (4, .int nn), (3, .int bo), (2, .int le), (1, .int al), (0, .ref d0)] 412 [] := by
  intro H locs ls hP hD hS hl
  obtain ⟨hx, hb, hml, hown, hts, hN, hA, hK⟩ := F
  refine lv_iload hx hb dL_hangs_412 (lv_at hl 0 rfl) ?_
  refine lv_sipush (v := 400) hx hb dL_hangs_414 (by decide) ?_
  refine lv_icmp_ge (tgt := 635) hx hb dL_hangs_417 (by decide) (fun c9 => absurd c9 (hc)) (fun _ => ?_)
  refine lv_iload hx hb dL_hangs_420 (lv_at hl 2 rfl) ?_
  refine lv_if_eq (tgt := 635) hx hb dL_hangs_422 (by decide) (fun c9 => absurd c9 (by decide)) (fun _ => ?_)
  refine lv_aload_n hx hb dL_hangs_425 rfl (lv_at hl 7 rfl) ?_
  refine lv_iload hx hb dL_hangs_426 (lv_at hl 1 rfl) ?_
  refine lv_iload hx hb dL_hangs_428 (lv_at hl 0 rfl) ?_
  refine lv_iconst (v := 0) hx hb dL_hangs_430 (by decide) ?_
  have hPs := k_self hP
  have hDs := k_selfD hD
  refine k_behq (X := []) (Y := []) (va_runV (As := [.int k6, .int dts, .int 0]) (rest := []) ⟨hx, hb, hml, hown, hts⟩ (c_X4_lasts l D cI cC cQ H.size d0 n0 na s0 sa h1 h2 mm ma t0 p0 pa tk N S oo zz M0 M1 M2 M3 rs de pc pg sg ln po dd lt pl f1s s2s tms k6 dts 0) (kcwV hts wd_ml_RL_63 wd_im_yX4_lasts wd_sel_yX4_lasts wd_ini_RX4 wd_code_yX4_lasts rfl rfl rfl hd_X4_lasts ⟨Nat.le_of_ble_eq_true rfl, Nat.le_of_ble_eq_true rfl⟩) ⟨in_blind, va_recv hK (pa_l (pa_r hPs)) (ci := 4) (q0 := 0) rfl rfl, k_pre hK (pa_l (pa_r hPs)) (da_l (da_r hDs)) hN⟩ rfl rfl hl.1 rfl (lv_room (Nat.le_of_ble_eq_true rfl)) dL_hangs_431 ⟨Nat.le_of_ble_eq_true rfl, Nat.le_of_ble_eq_true rfl⟩) hPs hDs hS hA (fun u2 H locs hP hD hS => ?_)
  have hP := k_unP hP
  have hD := k_unD hD
  have hP : va_P D vwCl (DW cI cC cQ d0 n0 na s0 sa h1 h2 mm ma t0 p0 pa tk N S oo zz M0 M1 M2 M3 rs de pc pg sg ln po dd lt pl f1s s2s tms) H := hP
  have hD : va_D A (DW cI cC cQ d0 n0 na s0 sa h1 h2 mm ma t0 p0 pa tk N S oo zz M0 M1 M2 M3 rs de pc pg sg ln po dd lt pl f1s s2s tms) := hD
  refine lv_istore (lv' := [(11, .int (sh_X4_lasts N k6 dts 0)), (10, .int dts), (6, .int k6), (5, .int 1), (4, .int nn), (3, .int bo), (2, .int le), (1, .int al), (0, .ref d0)]) hx hb dL_hangs_434 hl (by decide) rfl (fun ls hl => ?_)
  refine lv_aload_n hx hb dL_hangs_436 rfl (lv_at hl 8 rfl) ?_
  refine lv_iload hx hb dL_hangs_437 (lv_at hl 2 rfl) ?_
  refine lv_iload hx hb dL_hangs_439 (lv_at hl 1 rfl) ?_
  refine lv_iconst (v := 1) hx hb dL_hangs_441 (by decide) ?_
  have hPs := k_self hP
  have hDs := k_selfD hD
  refine k_behq (X := []) (Y := []) (va_runV (As := [.int k6, .int dts, .int 1]) (rest := []) ⟨hx, hb, hml, hown, hts⟩ (c_X4_lasts l D cI cC cQ H.size d0 n0 na s0 sa h1 h2 mm ma t0 p0 pa tk N S oo zz M0 M1 M2 M3 rs de pc pg sg ln po dd lt pl f1s s2s tms k6 dts 1) (kcwV hts wd_ml_RL_63 wd_im_yX4_lasts wd_sel_yX4_lasts wd_ini_RX4 wd_code_yX4_lasts rfl rfl rfl hd_X4_lasts ⟨Nat.le_of_ble_eq_true rfl, Nat.le_of_ble_eq_true rfl⟩) ⟨in_blind, va_recv hK (pa_l (pa_r hPs)) (ci := 4) (q0 := 0) rfl rfl, k_pre hK (pa_l (pa_r hPs)) (da_l (da_r hDs)) hN⟩ rfl rfl hl.1 rfl (lv_room (Nat.le_of_ble_eq_true rfl)) dL_hangs_442 ⟨Nat.le_of_ble_eq_true rfl, Nat.le_of_ble_eq_true rfl⟩) hPs hDs hS hA (fun u5 H locs hP hD hS => ?_)
  have hP := k_unP hP
  have hD := k_unD hD
  have hP : va_P D vwCl (DW cI cC cQ d0 n0 na s0 sa h1 h2 mm ma t0 p0 pa tk N S oo zz M0 M1 M2 M3 rs de pc pg sg ln po dd lt pl f1s s2s tms) H := hP
  have hD : va_D A (DW cI cC cQ d0 n0 na s0 sa h1 h2 mm ma t0 p0 pa tk N S oo zz M0 M1 M2 M3 rs de pc pg sg ln po dd lt pl f1s s2s tms) := hD
  refine lv_istore (lv' := [(12, .int (sh_X4_lasts N k6 dts 1)), (11, .int (sh_X4_lasts N k6 dts 0)), (10, .int dts), (6, .int k6), (5, .int 1), (4, .int nn), (3, .int bo), (2, .int le), (1, .int al), (0, .ref d0)]) hx hb dL_hangs_445 hl (by decide) rfl (fun ls hl => ?_)
  refine lv_aload_n hx hb dL_hangs_447 rfl (lv_at hl 9 rfl) ?_
  refine lv_iload hx hb dL_hangs_448 (lv_at hl 3 rfl) ?_
  refine lv_iload hx hb dL_hangs_450 (lv_at hl 2 rfl) ?_
  refine lv_bipush (v := 20) hx hb dL_hangs_452 (by decide) ?_
  have hPs := k_self hP
  have hDs := k_selfD hD
  refine k_behq (X := []) (Y := []) (va_runV (As := [.int k6, .int dts, .int 20]) (rest := []) ⟨hx, hb, hml, hown, hts⟩ (c_X4_darkest l D cI cC cQ H.size d0 n0 na s0 sa h1 h2 mm ma t0 p0 pa tk N S oo zz M0 M1 M2 M3 rs de pc pg sg ln po dd lt pl f1s s2s tms k6 dts 20) (kcwV hts wd_ml_RL_67 wd_im_yX4_darkest wd_sel_yX4_darkest wd_ini_RX4 wd_code_yX4_darkest rfl rfl rfl hd_X4_darkest ⟨Nat.le_of_ble_eq_true rfl, Nat.le_of_ble_eq_true rfl⟩) ⟨in_blind, va_recv hK (pa_l (pa_r hPs)) (ci := 4) (q0 := 0) rfl rfl, k_pre hK (pa_l (pa_r hPs)) (da_l (da_r hDs)) hN⟩ rfl rfl hl.1 rfl (lv_room (Nat.le_of_ble_eq_true rfl)) dL_hangs_454 ⟨Nat.le_of_ble_eq_true rfl, Nat.le_of_ble_eq_true rfl⟩) hPs hDs hS hA (fun u8 H locs hP hD hS => ?_)
  have hP := k_unP hP
  have hD := k_unD hD
  have hP : va_P D vwCl (DW cI cC cQ d0 n0 na s0 sa h1 h2 mm ma t0 p0 pa tk N S oo zz M0 M1 M2 M3 rs de pc pg sg ln po dd lt pl f1s s2s tms) H := hP
  have hD : va_D A (DW cI cC cQ d0 n0 na s0 sa h1 h2 mm ma t0 p0 pa tk N S oo zz M0 M1 M2 M3 rs de pc pg sg ln po dd lt pl f1s s2s tms) := hD
  refine lv_istore (lv' := [(13, .int (sh_X4_darkest N k6 dts 20)), (12, .int (sh_X4_lasts N k6 dts 1)), (11, .int (sh_X4_lasts N k6 dts 0)), (10, .int dts), (6, .int k6), (5, .int 1), (4, .int nn), (3, .int bo), (2, .int le), (1, .int al), (0, .ref d0)]) hx hb dL_hangs_457 hl (by decide) rfl (fun ls hl => ?_)
  refine lv_iload hx hb dL_hangs_459 (lv_at hl 2 rfl) ?_
  refine lv_if_lt (tgt := 623) hx hb dL_hangs_461 (by decide) (fun c9 => absurd c9 (hg_461 hk hd)) (fun _ => ?_)
  refine lv_iload hx hb dL_hangs_464 (lv_at hl 1 rfl) ?_
  refine lv_iload hx hb dL_hangs_466 (lv_at hl 2 rfl) ?_
  refine lv_icmp_lt (tgt := 623) hx hb dL_hangs_468 (by decide) (fun c9 => absurd c9 (hg_468 hk hd)) (fun _ => ?_)
  refine lv_iload hx hb dL_hangs_471 (lv_at hl 1 rfl) ?_
  refine lv_sipush (v := 999) hx hb dL_hangs_473 (by decide) ?_
  refine lv_icmp_gt (tgt := 623) hx hb dL_hangs_476 (by decide) (fun c9 => absurd c9 (hg_476 hk hd)) (fun _ => ?_)
  refine lv_aload_n hx hb dL_hangs_479 rfl (lv_at hl 10 rfl) ?_
  refine lv_iload hx hb dL_hangs_480 (lv_at hl 4 rfl) ?_
  refine lv_iload hx hb dL_hangs_482 (lv_at hl 3 rfl) ?_
  refine lv_bipush (v := 50) hx hb dL_hangs_484 (by decide) ?_
  refine lv_iconst (v := 0) hx hb dL_hangs_486 (by decide) ?_
  have hPs := k_self hP
  have hDs := k_selfD hD
  refine k_behq (X := []) (Y := []) (va_runV (As := [.int k6, .int dts, .int 50, .int 0]) (rest := []) ⟨hx, hb, hml, hown, hts⟩ (c_X4_atHand l D cI cC cQ H.size d0 n0 na s0 sa h1 h2 mm ma t0 p0 pa tk N S oo zz M0 M1 M2 M3 rs de pc pg sg ln po dd lt pl f1s s2s tms k6 dts 50 0) (kcwV hts wd_ml_RL_71 wd_im_yX4_atHand wd_sel_yX4_atHand wd_ini_RX4 wd_code_yX4_atHand rfl rfl rfl hd_X4_atHand ⟨Nat.le_of_ble_eq_true rfl, Nat.le_of_ble_eq_true rfl⟩) ⟨in_blind, va_recv hK (pa_l (pa_r hPs)) (ci := 4) (q0 := 0) rfl rfl, k_pre hK (pa_l (pa_r hPs)) (da_l (da_r hDs)) hN⟩ rfl rfl hl.1 rfl (lv_room (Nat.le_of_ble_eq_true rfl)) dL_hangs_487 ⟨Nat.le_of_ble_eq_true rfl, Nat.le_of_ble_eq_true rfl⟩) hPs hDs hS hA (fun u11 H locs hP hD hS => ?_)
  have hP := k_unP hP
  have hD := k_unD hD
  have hP : va_P D vwCl (DW cI cC cQ d0 n0 na s0 sa h1 h2 mm ma t0 p0 pa tk N S oo zz M0 M1 M2 M3 rs de pc pg sg ln po dd lt pl f1s s2s tms) H := hP
  have hD : va_D A (DW cI cC cQ d0 n0 na s0 sa h1 h2 mm ma t0 p0 pa tk N S oo zz M0 M1 M2 M3 rs de pc pg sg ln po dd lt pl f1s s2s tms) := hD
  have K : ∀ (v15 : Int32) (H : Heap) (locs : List Loc) (ls : Array Slot), v15 = (if (sh_X4_atHand N k6 dts 50 0) < 0 then 0 else 1) → va_P D vwCl (DW cI cC cQ d0 n0 na s0 sa h1 h2 mm ma t0 p0 pa tk N S oo zz M0 M1 M2 M3 rs de pc pg sg ln po dd lt pl f1s s2s tms) H → va_D A (DW cI cC cQ d0 n0 na s0 sa h1 h2 mm ma t0 p0 pa tk N S oo zz M0 M1 M2 M3 rs de pc pg sg ln po dd lt pl f1s s2s tms) → va_S A s.heap H locs → lv_has ls 14 [(0, .ref d0), (1, .int al), (2, .int le), (3, .int bo), (4, .int nn), (5, .int 1), (6, .int k6), (10, .int dts), (11, .int (sh_X4_lasts N k6 dts 0)), (12, .int (sh_X4_lasts N k6 dts 1)), (13, .int (sh_X4_darkest N k6 dts 20))] → W p l e rm_L_hangs s m args below meth c H locs 0 0 Q (F0 m 498 ls [.int v15]) := by
    intro v15 H locs ls hv14 hP hD hS hl
    refine lv_iload hx hb dL_hangs_498 (lv_at hl 8 rfl) ?_
    refine lv_bipush (v := 50) hx hb dL_hangs_500 (by decide) ?_
    have K : ∀ (v18 : Int32) (H : Heap) (locs : List Loc) (ls : Array Slot), v18 = (if (sh_X4_lasts N k6 dts 0) < 50 then 0 else 1) → va_P D vwCl (DW cI cC cQ d0 n0 na s0 sa h1 h2 mm ma t0 p0 pa tk N S oo zz M0 M1 M2 M3 rs de pc pg sg ln po dd lt pl f1s s2s tms) H → va_D A (DW cI cC cQ d0 n0 na s0 sa h1 h2 mm ma t0 p0 pa tk N S oo zz M0 M1 M2 M3 rs de pc pg sg ln po dd lt pl f1s s2s tms) → va_S A s.heap H locs → lv_has ls 14 [(0, .ref d0), (1, .int al), (2, .int le), (3, .int bo), (4, .int nn), (5, .int 1), (6, .int k6), (10, .int dts), (11, .int (sh_X4_lasts N k6 dts 0)), (12, .int (sh_X4_lasts N k6 dts 1)), (13, .int (sh_X4_darkest N k6 dts 20))] → W p l e rm_L_hangs s m args below meth c H locs 0 0 Q (F0 m 510 ls [.int v18, .int v15]) := by
      intro v18 H locs ls hv17 hP hD hS hl
      refine lv_icmp_ne (tgt := 623) hx hb dL_hangs_510 (by decide) (fun c9 => absurd (hg_510 g hk hd hv14 hv17) c9) (fun _ => ?_)
      refine lv_aload_n hx hb dL_hangs_513 rfl (lv_at hl 0 rfl) ?_
      refine lv_iload hx hb dL_hangs_514 (lv_at hl 6 rfl) ?_
      refine lv_iload hx hb dL_hangs_516 (lv_at hl 7 rfl) ?_
      refine lv_bipush (v := 7) hx hb dL_hangs_518 (by decide) ?_
      refine lv_iconst (v := 0) hx hb dL_hangs_520 (by decide) ?_
      have hPs := k_self hP
      have hDs := k_selfD hD
      refine k_behq (X := []) (Y := []) (va_runV (As := [.int k6, .int dts, .int 7, .int 0]) (rest := []) ⟨hx, hb, hml, hown, hts⟩ (c_X4_atHand l D cI cC cQ H.size d0 n0 na s0 sa h1 h2 mm ma t0 p0 pa tk N S oo zz M0 M1 M2 M3 rs de pc pg sg ln po dd lt pl f1s s2s tms k6 dts 7 0) (kcwV hts wd_ml_RL_71 wd_im_yX4_atHand wd_sel_yX4_atHand wd_ini_RX4 wd_code_yX4_atHand rfl rfl rfl hd_X4_atHand ⟨Nat.le_of_ble_eq_true rfl, Nat.le_of_ble_eq_true rfl⟩) ⟨in_blind, va_recv hK (pa_l (pa_r hPs)) (ci := 4) (q0 := 0) rfl rfl, k_pre hK (pa_l (pa_r hPs)) (da_l (da_r hDs)) hN⟩ rfl rfl hl.1 rfl (lv_room (Nat.le_of_ble_eq_true rfl)) dL_hangs_521 ⟨Nat.le_of_ble_eq_true rfl, Nat.le_of_ble_eq_true rfl⟩) hPs hDs hS hA (fun u20 H locs hP hD hS => ?_)
      have hP := k_unP hP
      have hD := k_unD hD
      have hP : va_P D vwCl (DW cI cC cQ d0 n0 na s0 sa h1 h2 mm ma t0 p0 pa tk N S oo zz M0 M1 M2 M3 rs de pc pg sg ln po dd lt pl f1s s2s tms) H := hP
      have hD : va_D A (DW cI cC cQ d0 n0 na s0 sa h1 h2 mm ma t0 p0 pa tk N S oo zz M0 M1 M2 M3 rs de pc pg sg ln po dd lt pl f1s s2s tms) := hD
      refine lv_aload_n hx hb dL_hangs_524 rfl (lv_at hl 0 rfl) ?_
      refine lv_iload hx hb dL_hangs_525 (lv_at hl 6 rfl) ?_
      refine lv_iload hx hb dL_hangs_527 (lv_at hl 7 rfl) ?_
      refine lv_bipush (v := 7) hx hb dL_hangs_529 (by decide) ?_
      refine lv_iconst (v := 1) hx hb dL_hangs_531 (by decide) ?_
      have hPs := k_self hP
      have hDs := k_selfD hD
      refine k_behq (X := []) (Y := []) (va_runV (As := [.int k6, .int dts, .int 7, .int 1]) (rest := [.int (sh_X4_atHand N k6 dts 7 0)]) ⟨hx, hb, hml, hown, hts⟩ (c_X4_atHand l D cI cC cQ H.size d0 n0 na s0 sa h1 h2 mm ma t0 p0 pa tk N S oo zz M0 M1 M2 M3 rs de pc pg sg ln po dd lt pl f1s s2s tms k6 dts 7 1) (kcwV hts wd_ml_RL_71 wd_im_yX4_atHand wd_sel_yX4_atHand wd_ini_RX4 wd_code_yX4_atHand rfl rfl rfl hd_X4_atHand ⟨Nat.le_of_ble_eq_true rfl, Nat.le_of_ble_eq_true rfl⟩) ⟨in_blind, va_recv hK (pa_l (pa_r hPs)) (ci := 4) (q0 := 0) rfl rfl, k_pre hK (pa_l (pa_r hPs)) (da_l (da_r hDs)) hN⟩ rfl rfl hl.1 rfl (lv_room (Nat.le_of_ble_eq_true rfl)) dL_hangs_532 ⟨Nat.le_of_ble_eq_true rfl, Nat.le_of_ble_eq_true rfl⟩) hPs hDs hS hA (fun u23 H locs hP hD hS => ?_)
      have hP := k_unP hP
      have hD := k_unD hD
      have hP : va_P D vwCl (DW cI cC cQ d0 n0 na s0 sa h1 h2 mm ma t0 p0 pa tk N S oo zz M0 M1 M2 M3 rs de pc pg sg ln po dd lt pl f1s s2s tms) H := hP
      have hD : va_D A (DW cI cC cQ d0 n0 na s0 sa h1 h2 mm ma t0 p0 pa tk N S oo zz M0 M1 M2 M3 rs de pc pg sg ln po dd lt pl f1s s2s tms) := hD
      refine lv_icmp_ne (tgt := 623) hx hb dL_hangs_535 (by decide) (fun c9 => absurd (hg_535 hk hd) c9) (fun _ => ?_)
      refine lv_aload_n hx hb dL_hangs_538 rfl (lv_at hl 0 rfl) ?_
      refine lv_iload hx hb dL_hangs_539 (lv_at hl 6 rfl) ?_
      refine lv_iload hx hb dL_hangs_541 (lv_at hl 7 rfl) ?_
      refine lv_iconst (v := 0) hx hb dL_hangs_543 (by decide) ?_
      refine lv_iconst (v := 1) hx hb dL_hangs_544 (by decide) ?_
      have hPs := k_self hP
      have hDs := k_selfD hD
      refine k_behq (X := []) (Y := []) (va_runV (As := [.int k6, .int dts, .int 0, .int 1]) (rest := []) ⟨hx, hb, hml, hown, hts⟩ (c_X4_atHand l D cI cC cQ H.size d0 n0 na s0 sa h1 h2 mm ma t0 p0 pa tk N S oo zz M0 M1 M2 M3 rs de pc pg sg ln po dd lt pl f1s s2s tms k6 dts 0 1) (kcwV hts wd_ml_RL_71 wd_im_yX4_atHand wd_sel_yX4_atHand wd_ini_RX4 wd_code_yX4_atHand rfl rfl rfl hd_X4_atHand ⟨Nat.le_of_ble_eq_true rfl, Nat.le_of_ble_eq_true rfl⟩) ⟨in_blind, va_recv hK (pa_l (pa_r hPs)) (ci := 4) (q0 := 0) rfl rfl, k_pre hK (pa_l (pa_r hPs)) (da_l (da_r hDs)) hN⟩ rfl rfl hl.1 rfl (lv_room (Nat.le_of_ble_eq_true rfl)) dL_hangs_545 ⟨Nat.le_of_ble_eq_true rfl, Nat.le_of_ble_eq_true rfl⟩) hPs hDs hS hA (fun u26 H locs hP hD hS => ?_)
      have hP := k_unP hP
      have hD := k_unD hD
      have hP : va_P D vwCl (DW cI cC cQ d0 n0 na s0 sa h1 h2 mm ma t0 p0 pa tk N S oo zz M0 M1 M2 M3 rs de pc pg sg ln po dd lt pl f1s s2s tms) H := hP
      have hD : va_D A (DW cI cC cQ d0 n0 na s0 sa h1 h2 mm ma t0 p0 pa tk N S oo zz M0 M1 M2 M3 rs de pc pg sg ln po dd lt pl f1s s2s tms) := hD
      refine lv_aload_n hx hb dL_hangs_548 rfl (lv_at hl 0 rfl) ?_
      refine lv_iload hx hb dL_hangs_549 (lv_at hl 6 rfl) ?_
      refine lv_iconst (v := 1) hx hb dL_hangs_551 (by decide) ?_
      have hPs := k_self hP
      have hDs := k_selfD hD
      refine k_behq (X := []) (Y := []) (va_runV (As := [.int k6, .int 1]) (rest := [.int (sh_X4_atHand N k6 dts 0 1)]) ⟨hx, hb, hml, hown, hts⟩ (c_X4_cup l D cI cC cQ H.size d0 n0 na s0 sa h1 h2 mm ma t0 p0 pa tk N S oo zz M0 M1 M2 M3 rs de pc pg sg ln po dd lt pl f1s s2s tms k6 1) (kcwV hts wd_ml_RL_56 wd_im_yX4_cup wd_sel_yX4_cup wd_ini_RX4 wd_code_yX4_cup rfl rfl rfl hd_X4_cup ⟨Nat.le_of_ble_eq_true rfl, Nat.le_of_ble_eq_true rfl⟩) ⟨in_blind, va_recv hK (pa_l (pa_r hPs)) (ci := 4) (q0 := 0) rfl rfl, k_pre hK (pa_l (pa_r hPs)) (da_l (da_r hDs)) hN⟩ rfl rfl hl.1 rfl (lv_room (Nat.le_of_ble_eq_true rfl)) dL_hangs_552 ⟨Nat.le_of_ble_eq_true rfl, Nat.le_of_ble_eq_true rfl⟩) hPs hDs hS hA (fun u29 H locs hP hD hS => ?_)
      have hP := k_unP hP
      have hD := k_unD hD
      have hP : va_P D vwCl (DW cI cC cQ d0 n0 na s0 sa h1 h2 mm ma t0 p0 pa tk N S oo zz M0 M1 M2 M3 rs de pc pg sg ln po dd lt pl f1s s2s tms) H := hP
      have hD : va_D A (DW cI cC cQ d0 n0 na s0 sa h1 h2 mm ma t0 p0 pa tk N S oo zz M0 M1 M2 M3 rs de pc pg sg ln po dd lt pl f1s s2s tms) := hD
      refine lv_icmp_ne (tgt := 623) hx hb dL_hangs_555 (by decide) (fun c9 => absurd (hg_555 hk hd) c9) (fun _ => ?_)
      refine lv_iload hx hb dL_hangs_558 (lv_at hl 10 rfl) ?_
      refine lv_bipush (v := (-4)) hx hb dL_hangs_560 (by decide) ?_
      have K : ∀  (H : Heap) (locs : List Loc) (ls : Array Slot), va_P D vwCl (DW cI cC cQ d0 n0 na s0 sa h1 h2 mm ma t0 p0 pa tk N S oo zz M0 M1 M2 M3 rs de pc pg sg ln po dd lt pl f1s s2s tms) H → va_D A (DW cI cC cQ d0 n0 na s0 sa h1 h2 mm ma t0 p0 pa tk N S oo zz M0 M1 M2 M3 rs de pc pg sg ln po dd lt pl f1s s2s tms) → va_S A s.heap H locs → lv_has ls 14 [(0, .ref d0), (1, .int al), (2, .int le), (3, .int bo), (4, .int nn), (5, .int 1), (6, .int k6), (10, .int dts), (11, .int (sh_X4_lasts N k6 dts 0)), (12, .int (sh_X4_lasts N k6 dts 1)), (13, .int (sh_X4_darkest N k6 dts 20))] → W p l e rm_L_hangs s m args below meth c H locs 0 0 Q (F0 m 577 ls []) := by
        intro  H locs ls  hP hD hS hl
        refine lv_iload hx hb dL_hangs_577 (lv_at hl 9 rfl) ?_
        refine lv_bipush (v := 20) hx hb dL_hangs_579 (by decide) ?_
        have K : ∀  (H : Heap) (locs : List Loc) (ls : Array Slot), va_P D vwCl (DW cI cC cQ d0 n0 na s0 sa h1 h2 mm ma t0 p0 pa tk N S oo zz M0 M1 M2 M3 rs de pc pg sg ln po dd lt pl f1s s2s tms) H → va_D A (DW cI cC cQ d0 n0 na s0 sa h1 h2 mm ma t0 p0 pa tk N S oo zz M0 M1 M2 M3 rs de pc pg sg ln po dd lt pl f1s s2s tms) → va_S A s.heap H locs → lv_has ls 14 [(0, .ref d0), (1, .int al), (2, .int le), (3, .int bo), (4, .int nn), (5, .int 1), (6, .int k6), (10, .int dts), (11, .int (sh_X4_lasts N k6 dts 0)), (12, .int (sh_X4_lasts N k6 dts 1)), (13, .int (sh_X4_darkest N k6 dts 20))] → W p l e rm_L_hangs s m args below meth c H locs 0 0 Q (F0 m 595 ls []) := by
          intro  H locs ls  hP hD hS hl
          refine lv_iload hx hb dL_hangs_595 (lv_at hl 8 rfl) ?_
          have K : ∀  (H : Heap) (locs : List Loc) (ls : Array Slot), va_P D vwCl (DW cI cC cQ d0 n0 na s0 sa h1 h2 mm ma t0 p0 pa tk N S oo zz M0 M1 M2 M3 rs de pc pg sg ln po dd lt pl f1s s2s tms) H → va_D A (DW cI cC cQ d0 n0 na s0 sa h1 h2 mm ma t0 p0 pa tk N S oo zz M0 M1 M2 M3 rs de pc pg sg ln po dd lt pl f1s s2s tms) → va_S A s.heap H locs → lv_has ls 14 [(0, .ref d0), (1, .int al), (2, .int le), (3, .int bo), (4, .int nn), (5, .int 1), (6, .int k6), (10, .int dts), (11, .int (sh_X4_lasts N k6 dts 0)), (12, .int (sh_X4_lasts N k6 dts 1)), (13, .int (sh_X4_darkest N k6 dts 20))] → W p l e rm_L_hangs s m args below meth c H locs 0 0 Q (F0 m 619 ls []) := by
            intro  H locs ls  hP hD hS hl
            refine lv_iconst (v := 1) hx hb dL_hangs_619 (by decide) ?_
            refine lv_goto (tgt := 624) hx hb dL_hangs_620 (by decide) ?_
            refine lv_istore (lv' := [(5, .int 1), (0, .ref d0), (1, .int al), (2, .int le), (3, .int bo), (4, .int nn), (6, .int k6), (10, .int dts), (11, .int (sh_X4_lasts N k6 dts 0)), (12, .int (sh_X4_lasts N k6 dts 1)), (13, .int (sh_X4_darkest N k6 dts 20))]) hx hb dL_hangs_624 hl (by decide) rfl (fun ls hl => ?_)
            refine lv_iincW (v := (dts + 133)) (lv' := [(10, .int (dts + 133)), (5, .int 1), (0, .ref d0), (1, .int al), (2, .int le), (3, .int bo), (4, .int nn), (6, .int k6), (11, .int (sh_X4_lasts N k6 dts 0)), (12, .int (sh_X4_lasts N k6 dts 1)), (13, .int (sh_X4_darkest N k6 dts 20))]) hx hb dL_hangs_626 hl (k := 7) rfl rfl (by decide) rfl (fun ls hl => ?_)
            refine lv_goto (tgt := 412) hx hb dL_hangs_632 (by decide) ?_
            exact go  _ _ _ hP hD hS (lv_sub hl [0, 7, 1, 6, 5, 4, 3, 2] rfl)
          refine lv_if_eq (tgt := 619) hx hb dL_hangs_597 (by decide) (fun c38 => ?_) (fun c38 => ?_)
          · skip
            exact K _ _ _ hP hD hS (lv_sub hl [0, 1, 2, 3, 4, 5, 6, 7, 8, 9, 10] rfl)
          · skip
            refine lv_aload_n hx hb dL_hangs_600 rfl (lv_at hl 0 rfl) ?_
            refine lv_iload hx hb dL_hangs_601 (lv_at hl 6 rfl) ?_
            refine lv_iload hx hb dL_hangs_603 (lv_at hl 7 rfl) ?_
            refine lv_iconst (v := 0) hx hb dL_hangs_605 (by decide) ?_
            have hPs := k_self hP
            have hDs := k_selfD hD
            refine k_behq (X := []) (Y := []) (va_runV (As := [.int k6, .int dts, .int 0]) (rest := []) ⟨hx, hb, hml, hown, hts⟩ (c_X4_needs l D cI cC cQ H.size d0 n0 na s0 sa h1 h2 mm ma t0 p0 pa tk N S oo zz M0 M1 M2 M3 rs de pc pg sg ln po dd lt pl f1s s2s tms k6 dts 0) (kcwV hts wd_ml_RL_75 wd_im_yX4_needs wd_sel_yX4_needs wd_ini_RX4 wd_code_yX4_needs rfl rfl rfl hd_X4_needs ⟨Nat.le_of_ble_eq_true rfl, Nat.le_of_ble_eq_true rfl⟩) ⟨in_blind, va_recv hK (pa_l (pa_r hPs)) (ci := 4) (q0 := 0) rfl rfl, k_pre hK (pa_l (pa_r hPs)) (da_l (da_r hDs)) hN⟩ rfl rfl hl.1 rfl (lv_room (Nat.le_of_ble_eq_true rfl)) dL_hangs_606 ⟨Nat.le_of_ble_eq_true rfl, Nat.le_of_ble_eq_true rfl⟩) hPs hDs hS hA (fun u40 H locs hP hD hS => ?_)
            have hP := k_unP hP
            have hD := k_unD hD
            have hP : va_P D vwCl (DW cI cC cQ d0 n0 na s0 sa h1 h2 mm ma t0 p0 pa tk N S oo zz M0 M1 M2 M3 rs de pc pg sg ln po dd lt pl f1s s2s tms) H := hP
            have hD : va_D A (DW cI cC cQ d0 n0 na s0 sa h1 h2 mm ma t0 p0 pa tk N S oo zz M0 M1 M2 M3 rs de pc pg sg ln po dd lt pl f1s s2s tms) := hD
            refine lv_aload_n hx hb dL_hangs_609 rfl (lv_at hl 0 rfl) ?_
            refine lv_iload hx hb dL_hangs_610 (lv_at hl 6 rfl) ?_
            refine lv_iconst (v := 1) hx hb dL_hangs_612 (by decide) ?_
            have hPs := k_self hP
            have hDs := k_selfD hD
            refine k_behq (X := []) (Y := []) (va_runV (As := [.int k6, .int 1]) (rest := [.int (sh_X4_needs N k6 dts 0)]) ⟨hx, hb, hml, hown, hts⟩ (c_X4_cup l D cI cC cQ H.size d0 n0 na s0 sa h1 h2 mm ma t0 p0 pa tk N S oo zz M0 M1 M2 M3 rs de pc pg sg ln po dd lt pl f1s s2s tms k6 1) (kcwV hts wd_ml_RL_56 wd_im_yX4_cup wd_sel_yX4_cup wd_ini_RX4 wd_code_yX4_cup rfl rfl rfl hd_X4_cup ⟨Nat.le_of_ble_eq_true rfl, Nat.le_of_ble_eq_true rfl⟩) ⟨in_blind, va_recv hK (pa_l (pa_r hPs)) (ci := 4) (q0 := 0) rfl rfl, k_pre hK (pa_l (pa_r hPs)) (da_l (da_r hDs)) hN⟩ rfl rfl hl.1 rfl (lv_room (Nat.le_of_ble_eq_true rfl)) dL_hangs_613 ⟨Nat.le_of_ble_eq_true rfl, Nat.le_of_ble_eq_true rfl⟩) hPs hDs hS hA (fun u43 H locs hP hD hS => ?_)
            have hP := k_unP hP
            have hD := k_unD hD
            have hP : va_P D vwCl (DW cI cC cQ d0 n0 na s0 sa h1 h2 mm ma t0 p0 pa tk N S oo zz M0 M1 M2 M3 rs de pc pg sg ln po dd lt pl f1s s2s tms) H := hP
            have hD : va_D A (DW cI cC cQ d0 n0 na s0 sa h1 h2 mm ma t0 p0 pa tk N S oo zz M0 M1 M2 M3 rs de pc pg sg ln po dd lt pl f1s s2s tms) := hD
            refine lv_icmp_gt (tgt := 623) hx hb dL_hangs_616 (by decide) (fun c9 => absurd c9 (hg_616 hk hd c38)) (fun _ => ?_)
            exact K _ _ _ hP hD hS (lv_sub hl [0, 1, 2, 3, 4, 5, 6, 7, 8, 9, 10] rfl)
        refine lv_icmp_lt (tgt := 595) hx hb dL_hangs_581 (by decide) (fun c33 => ?_) (fun c33 => ?_)
        · skip
          exact K _ _ _ hP hD hS (lv_sub hl [0, 1, 2, 3, 4, 5, 6, 7, 8, 9, 10] rfl)
        · skip
          refine lv_iload hx hb dL_hangs_584 (lv_at hl 10 rfl) ?_
          refine lv_aload_n hx hb dL_hangs_586 rfl (lv_at hl 0 rfl) ?_
          refine lv_bipush (v := 8) hx hb dL_hangs_587 (by decide) ?_
          have hPs := k_self hP
          have hDs := k_selfD hD
          refine k_behq (X := []) (Y := []) (va_runV (As := [.int 8]) (rest := [.int (sh_X4_darkest N k6 dts 20)]) ⟨hx, hb, hml, hown, hts⟩ (c_X4_count l D cI cC cQ H.size d0 n0 na s0 sa h1 h2 mm ma t0 p0 pa tk N S oo zz M0 M1 M2 M3 rs de pc pg sg ln po dd lt pl f1s s2s tms 8) (kcwV hts wd_ml_RL_53 wd_im_yX4_count wd_sel_yX4_count wd_ini_RX4 wd_code_yX4_count rfl rfl rfl hd_X4_count ⟨Nat.le_of_ble_eq_true rfl, Nat.le_of_ble_eq_true rfl⟩) ⟨in_blind, va_recv hK (pa_l (pa_r hPs)) (ci := 4) (q0 := 0) rfl rfl, k_pre hK (pa_l (pa_r hPs)) (da_l (da_r hDs)) hN⟩ rfl rfl hl.1 rfl (lv_room (Nat.le_of_ble_eq_true rfl)) dL_hangs_589 ⟨Nat.le_of_ble_eq_true rfl, Nat.le_of_ble_eq_true rfl⟩) hPs hDs hS hA (fun u35 H locs hP hD hS => ?_)
          have hP := k_unP hP
          have hD := k_unD hD
          have hP : va_P D vwCl (DW cI cC cQ d0 n0 na s0 sa h1 h2 mm ma t0 p0 pa tk N S oo zz M0 M1 M2 M3 rs de pc pg sg ln po dd lt pl f1s s2s tms) H := hP
          have hD : va_D A (DW cI cC cQ d0 n0 na s0 sa h1 h2 mm ma t0 p0 pa tk N S oo zz M0 M1 M2 M3 rs de pc pg sg ln po dd lt pl f1s s2s tms) := hD
          refine lv_icmp_lt (tgt := 623) hx hb dL_hangs_592 (by decide) (fun c9 => absurd c9 (hg_592 g hk hd c33)) (fun _ => ?_)
          exact K _ _ _ hP hD hS (lv_sub hl [0, 1, 2, 3, 4, 5, 6, 7, 8, 9, 10] rfl)
      refine lv_icmp_eq (tgt := 577) hx hb dL_hangs_562 (by decide) (fun c31 => ?_) (fun c31 => ?_)
      · skip
        exact K _ _ _ hP hD hS (lv_sub hl [0, 1, 2, 3, 4, 5, 6, 7, 8, 9, 10] rfl)
      · skip
        refine lv_iload hx hb dL_hangs_565 (lv_at hl 10 rfl) ?_
        refine lv_if_le (tgt := 623) hx hb dL_hangs_567 (by decide) (fun c9 => absurd c9 (hg_567 hk hd c31)) (fun _ => ?_)
        refine lv_iload hx hb dL_hangs_570 (lv_at hl 10 rfl) ?_
        refine lv_bipush (v := 6) hx hb dL_hangs_572 (by decide) ?_
        refine lv_icmp_ge (tgt := 623) hx hb dL_hangs_574 (by decide) (fun c9 => absurd c9 (hg_574 hk hd c31)) (fun _ => ?_)
        exact K _ _ _ hP hD hS (lv_sub hl [0, 1, 2, 3, 4, 5, 6, 7, 8, 9, 10] rfl)
    refine lv_icmp_lt (tgt := 509) hx hb dL_hangs_502 (by decide) (fun c16 => ?_) (fun c16 => ?_)
    · skip
      refine lv_iconst (v := 0) hx hb dL_hangs_509 (by decide) ?_
      exact K (0) _ _ _ (by rw [if_pos c16]) hP hD hS (lv_sub hl [0, 1, 2, 3, 4, 5, 6, 7, 8, 9, 10] rfl)
    · skip
      refine lv_iconst (v := 1) hx hb dL_hangs_505 (by decide) ?_
      refine lv_goto (tgt := 510) hx hb dL_hangs_506 (by decide) ?_
      exact K (1) _ _ _ (by rw [if_neg c16]) hP hD hS (lv_sub hl [0, 1, 2, 3, 4, 5, 6, 7, 8, 9, 10] rfl)
  refine lv_if_lt (tgt := 497) hx hb dL_hangs_490 (by decide) (fun c13 => ?_) (fun c13 => ?_)
  · skip
    refine lv_iconst (v := 0) hx hb dL_hangs_497 (by decide) ?_
    exact K (0) _ _ _ (by rw [if_pos c13]) hP hD hS (lv_sub hl [10, 9, 8, 7, 6, 5, 4, 3, 2, 1, 0] rfl)
  · skip
    refine lv_iconst (v := 1) hx hb dL_hangs_493 (by decide) ?_
    refine lv_goto (tgt := 498) hx hb dL_hangs_494 (by decide) ?_
    exact K (1) _ _ _ (by rw [if_neg c13]) hP hD hS (lv_sub hl [10, 9, 8, 7, 6, 5, 4, 3, 2, 1, 0] rfl)
set_option maxHeartbeats 40000000 in
set_option maxRecDepth 100000 in
theorem hs_next {p : Program} {l : Launch} {e : Env} {s : State} {m : MethodId} {args : Array Value} {below : List Frame} {meth : Method} {c : Code} {A : Nat → Prop} {Q : State → Prop} {D : va_G} {cI cC cQ : ClassId} {d0 : Nat} {n0 : Nat} {na : Nat → Nat} {s0 : Nat} {sa : Nat → Nat} {h1 : Nat} {h2 : Nat} {mm : Nat → Nat} {ma : Nat → Nat → Nat} {t0 : Nat} {p0 : Nat} {pa : Nat → Nat} {tk : Int32} {N : TMa} {S : TMa} {oo : Int32} {zz : Int32} {M0 : TMa} {M1 : TMa} {M2 : TMa} {M3 : TMa} {rs : Int32} {de : Int32} {pc : Int32} {pg : Int32} {sg : Nat → Int32} {ln : Int32} {po : Int32} {dd : Int32} {lt : Nat → Int32} {pl : Nat → Int32} {f1s : Nat → Int32} {s2s : Nat → Int32} {tms : Nat → Int32} {al le bo nn k6 dts : Int32} (F : FxM p s m c args A D cI cC cQ cL_hangs 14) (hc : 400 ≤ dts) (go : AtL p l e rm_L_hangs s m args below meth c A Q D 0 0 14 (DW cI cC cQ d0 n0 na s0 sa h1 h2 mm ma t0 p0 pa tk N S oo zz M0 M1 M2 M3 rs de pc pg sg ln po dd lt pl f1s s2s tms) [(6, .int (k6 + 1)), (5, .int 1), (4, .int nn), (3, .int bo), (2, .int le), (1, .int al), (0, .ref d0)] 100 []) : AtL p l e rm_L_hangs s m args below meth c A Q D 0 0 14 (DW cI cC cQ d0 n0 na s0 sa h1 h2 mm ma t0 p0 pa tk N S oo zz M0 M1 M2 M3 rs de pc pg sg ln po dd lt pl f1s s2s tms) [(10, .int dts), (6, .int k6), (5, .int 1), (4, .int nn), (3, .int bo), (2, .int le), (1, .int al), (0, .ref d0)] 412 [] := by
  intro H locs ls hP hD hS hl
  obtain ⟨hx, hb, hml, hown, hts, hN, hA, hK⟩ := F
  refine lv_iload hx hb dL_hangs_412 (lv_at hl 0 rfl) ?_
  refine lv_sipush (v := 400) hx hb dL_hangs_414 (by decide) ?_
  refine lv_icmp_ge (tgt := 635) hx hb dL_hangs_417 (by decide) (fun _ => ?_) (fun c9 => absurd (hc) c9)
  refine lv_iinc (v := (k6 + 1)) (lv' := [(6, .int (k6 + 1)), (10, .int dts), (5, .int 1), (4, .int nn), (3, .int bo), (2, .int le), (1, .int al), (0, .ref d0)]) hx hb dL_hangs_635 hl (k := 1) rfl rfl (by decide) rfl (fun ls hl => ?_)
  refine lv_goto (tgt := 100) hx hb dL_hangs_638 (by decide) ?_
  exact go  _ _ _ hP hD hS (lv_sub hl [0, 2, 3, 4, 5, 6, 7] rfl)
set_option maxHeartbeats 40000000 in
set_option maxRecDepth 100000 in
theorem hs_prn0 {p : Program} {l : Launch} {e : Env} {s : State} {m : MethodId} {args : Array Value} {below : List Frame} {meth : Method} {c : Code} {A : Nat → Prop} {Q : State → Prop} {D : va_G} {cI cC cQ : ClassId} {d0 : Nat} {n0 : Nat} {na : Nat → Nat} {s0 : Nat} {sa : Nat → Nat} {h1 : Nat} {h2 : Nat} {mm : Nat → Nat} {ma : Nat → Nat → Nat} {t0 : Nat} {p0 : Nat} {pa : Nat → Nat} {tk : Int32} {N : TMa} {S : TMa} {oo : Int32} {zz : Int32} {M0 : TMa} {M1 : TMa} {M2 : TMa} {M3 : TMa} {rs : Int32} {de : Int32} {pc : Int32} {pg : Int32} {sg : Nat → Int32} {ln : Int32} {po : Int32} {dd : Int32} {lt : Nat → Int32} {pl : Nat → Int32} {f1s : Nat → Int32} {s2s : Nat → Int32} {tms : Nat → Int32} {al le bo nn k6 : Int32} (F : FxM p s m c args A D cI cC cQ cL_hangs 14) (h4 : 4 ≤ k6) (go : AtL p l e rm_L_hangs s m args below meth c A Q D 0 0 14 (DW cI cC cQ d0 n0 na s0 sa h1 h2 mm ma t0 p0 pa tk N S oo zz M0 M1 M2 M3 rs de pc pg sg ln po dd lt pl f1s s2s tms) [(8, .int 0), (7, .int 0), (6, .int 0), (5, .int 1), (4, .int nn), (3, .int bo), (2, .int le), (1, .int al), (0, .ref d0)] 650 []) : AtL p l e rm_L_hangs s m args below meth c A Q D 0 0 14 (DW cI cC cQ d0 n0 na s0 sa h1 h2 mm ma t0 p0 pa tk N S oo zz M0 M1 M2 M3 rs de pc pg sg ln po dd lt pl f1s s2s tms) [(6, .int k6), (5, .int 1), (4, .int nn), (3, .int bo), (2, .int le), (1, .int al), (0, .ref d0)] 100 [] := by
  intro H locs ls hP hD hS hl
  obtain ⟨hx, hb, hml, hown, hts, hN, hA, hK⟩ := F
  refine lv_iload hx hb dL_hangs_100 (lv_at hl 0 rfl) ?_
  refine lv_iconst (v := 4) hx hb dL_hangs_102 (by decide) ?_
  refine lv_icmp_ge (tgt := 641) hx hb dL_hangs_103 (by decide) (fun _ => ?_) (fun c9 => absurd (h4) c9)
  refine lv_iconst (v := 0) hx hb dL_hangs_641 (by decide) ?_
  refine lv_istore (lv' := [(6, .int 0), (5, .int 1), (4, .int nn), (3, .int bo), (2, .int le), (1, .int al), (0, .ref d0)]) hx hb dL_hangs_642 hl (by decide) rfl (fun ls hl => ?_)
  refine lv_iconst (v := 0) hx hb dL_hangs_644 (by decide) ?_
  refine lv_istore (lv' := [(7, .int 0), (6, .int 0), (5, .int 1), (4, .int nn), (3, .int bo), (2, .int le), (1, .int al), (0, .ref d0)]) hx hb dL_hangs_645 hl (by decide) rfl (fun ls hl => ?_)
  refine lv_iconst (v := 0) hx hb dL_hangs_647 (by decide) ?_
  refine lv_istore (lv' := [(8, .int 0), (7, .int 0), (6, .int 0), (5, .int 1), (4, .int nn), (3, .int bo), (2, .int le), (1, .int al), (0, .ref d0)]) hx hb dL_hangs_648 hl (by decide) rfl (fun ls hl => ?_)
  exact go  _ _ _ hP hD hS (lv_sub hl [0, 1, 2, 3, 4, 5, 6, 7, 8] rfl)
set_option maxHeartbeats 40000000 in
set_option maxRecDepth 100000 in
theorem hs_prn {p : Program} {l : Launch} {e : Env} {s : State} {m : MethodId} {args : Array Value} {below : List Frame} {meth : Method} {c : Code} {A : Nat → Prop} {Q : State → Prop} {D : va_G} {cI cC cQ : ClassId} {d0 : Nat} {n0 : Nat} {na : Nat → Nat} {s0 : Nat} {sa : Nat → Nat} {h1 : Nat} {h2 : Nat} {mm : Nat → Nat} {ma : Nat → Nat → Nat} {t0 : Nat} {p0 : Nat} {pa : Nat → Nat} {tk : Int32} {N : TMa} {S : TMa} {oo : Int32} {zz : Int32} {M0 : TMa} {M1 : TMa} {M2 : TMa} {M3 : TMa} {rs : Int32} {de : Int32} {pc : Int32} {pg : Int32} {sg : Nat → Int32} {ln : Int32} {po : Int32} {dd : Int32} {lt : Nat → Int32} {pl : Nat → Int32} {f1s : Nat → Int32} {s2s : Nat → Int32} {tms : Nat → Int32} {al le bo nn p6 d7 qq : Int32} (F : FxM p s m c args A D cI cC cQ cL_hangs 14) (g : okN N) (hq : vp_in qq 2) (hc : ¬ 2 ≤ qq) (go : AtL p l e rm_L_hangs s m args below meth c A Q D 0 0 14 (DW cI cC cQ d0 n0 na s0 sa h1 h2 mm ma t0 p0 pa tk N S oo zz M0 M1 M2 M3 rs de pc pg sg ln po dd lt pl f1s s2s tms) [(8, .int (qq + 1)), (7, .int (d7 + sh_X4_printer N qq 1)), (6, .int (p6 + (sh_X4_printer N qq 1 + sh_X4_printer N qq 2))), (5, .int 1), (4, .int nn), (3, .int bo), (2, .int le), (1, .int al), (0, .ref d0)] 650 []) : AtL p l e rm_L_hangs s m args below meth c A Q D 0 0 14 (DW cI cC cQ d0 n0 na s0 sa h1 h2 mm ma t0 p0 pa tk N S oo zz M0 M1 M2 M3 rs de pc pg sg ln po dd lt pl f1s s2s tms) [(8, .int qq), (7, .int d7), (6, .int p6), (5, .int 1), (4, .int nn), (3, .int bo), (2, .int le), (1, .int al), (0, .ref d0)] 650 [] := by
  intro H locs ls hP hD hS hl
  obtain ⟨hx, hb, hml, hown, hts, hN, hA, hK⟩ := F
  refine lv_iload hx hb dL_hangs_650 (lv_at hl 0 rfl) ?_
  refine lv_iconst (v := 2) hx hb dL_hangs_652 (by decide) ?_
  refine lv_icmp_ge (tgt := 865) hx hb dL_hangs_653 (by decide) (fun c9 => absurd c9 (hc)) (fun _ => ?_)
  refine lv_iload hx hb dL_hangs_656 (lv_at hl 3 rfl) ?_
  refine lv_if_eq (tgt := 865) hx hb dL_hangs_658 (by decide) (fun c9 => absurd c9 (by decide)) (fun _ => ?_)
  refine lv_aload_n hx hb dL_hangs_661 rfl (lv_at hl 8 rfl) ?_
  refine lv_iload hx hb dL_hangs_662 (lv_at hl 0 rfl) ?_
  refine lv_iconst (v := 0) hx hb dL_hangs_664 (by decide) ?_
  have hPs := k_self hP
  have hDs := k_selfD hD
  refine k_behq (X := []) (Y := []) (va_runV (As := [.int qq, .int 0]) (rest := []) ⟨hx, hb, hml, hown, hts⟩ (c_X4_printer l D cI cC cQ H.size d0 n0 na s0 sa h1 h2 mm ma t0 p0 pa tk N S oo zz M0 M1 M2 M3 rs de pc pg sg ln po dd lt pl f1s s2s tms qq 0) (kcwV hts wd_ml_RL_60 wd_im_yX4_printer wd_sel_yX4_printer wd_ini_RX4 wd_code_yX4_printer rfl rfl rfl hd_X4_printer ⟨Nat.le_of_ble_eq_true rfl, Nat.le_of_ble_eq_true rfl⟩) ⟨in_blind, va_recv hK (pa_l (pa_r hPs)) (ci := 4) (q0 := 0) rfl rfl, k_pre hK (pa_l (pa_r hPs)) (da_l (da_r hDs)) hN⟩ rfl rfl hl.1 rfl (lv_room (Nat.le_of_ble_eq_true rfl)) dL_hangs_665 ⟨Nat.le_of_ble_eq_true rfl, Nat.le_of_ble_eq_true rfl⟩) hPs hDs hS hA (fun u2 H locs hP hD hS => ?_)
  have hP := k_unP hP
  have hD := k_unD hD
  have hP : va_P D vwCl (DW cI cC cQ d0 n0 na s0 sa h1 h2 mm ma t0 p0 pa tk N S oo zz M0 M1 M2 M3 rs de pc pg sg ln po dd lt pl f1s s2s tms) H := hP
  have hD : va_D A (DW cI cC cQ d0 n0 na s0 sa h1 h2 mm ma t0 p0 pa tk N S oo zz M0 M1 M2 M3 rs de pc pg sg ln po dd lt pl f1s s2s tms) := hD
  refine lv_istore (lv' := [(9, .int (sh_X4_printer N qq 0)), (8, .int qq), (7, .int d7), (6, .int p6), (5, .int 1), (4, .int nn), (3, .int bo), (2, .int le), (1, .int al), (0, .ref d0)]) hx hb dL_hangs_668 hl (by decide) rfl (fun ls hl => ?_)
  refine lv_iload hx hb dL_hangs_670 (lv_at hl 3 rfl) ?_
  refine lv_aload_n hx hb dL_hangs_672 rfl (lv_at hl 9 rfl) ?_
  refine lv_iload hx hb dL_hangs_673 (lv_at hl 1 rfl) ?_
  refine lv_iconst (v := 1) hx hb dL_hangs_675 (by decide) ?_
  have hPs := k_self hP
  have hDs := k_selfD hD
  refine k_behq (X := []) (Y := []) (va_runV (As := [.int qq, .int 1]) (rest := [.int p6]) ⟨hx, hb, hml, hown, hts⟩ (c_X4_printer l D cI cC cQ H.size d0 n0 na s0 sa h1 h2 mm ma t0 p0 pa tk N S oo zz M0 M1 M2 M3 rs de pc pg sg ln po dd lt pl f1s s2s tms qq 1) (kcwV hts wd_ml_RL_60 wd_im_yX4_printer wd_sel_yX4_printer wd_ini_RX4 wd_code_yX4_printer rfl rfl rfl hd_X4_printer ⟨Nat.le_of_ble_eq_true rfl, Nat.le_of_ble_eq_true rfl⟩) ⟨in_blind, va_recv hK (pa_l (pa_r hPs)) (ci := 4) (q0 := 0) rfl rfl, k_pre hK (pa_l (pa_r hPs)) (da_l (da_r hDs)) hN⟩ rfl rfl hl.1 rfl (lv_room (Nat.le_of_ble_eq_true rfl)) dL_hangs_676 ⟨Nat.le_of_ble_eq_true rfl, Nat.le_of_ble_eq_true rfl⟩) hPs hDs hS hA (fun u5 H locs hP hD hS => ?_)
  have hP := k_unP hP
  have hD := k_unD hD
  have hP : va_P D vwCl (DW cI cC cQ d0 n0 na s0 sa h1 h2 mm ma t0 p0 pa tk N S oo zz M0 M1 M2 M3 rs de pc pg sg ln po dd lt pl f1s s2s tms) H := hP
  have hD : va_D A (DW cI cC cQ d0 n0 na s0 sa h1 h2 mm ma t0 p0 pa tk N S oo zz M0 M1 M2 M3 rs de pc pg sg ln po dd lt pl f1s s2s tms) := hD
  refine lv_aload_n hx hb dL_hangs_679 rfl (lv_at hl 9 rfl) ?_
  refine lv_iload hx hb dL_hangs_680 (lv_at hl 1 rfl) ?_
  refine lv_iconst (v := 2) hx hb dL_hangs_682 (by decide) ?_
  have hPs := k_self hP
  have hDs := k_selfD hD
  refine k_behq (X := []) (Y := []) (va_runV (As := [.int qq, .int 2]) (rest := [.int (sh_X4_printer N qq 1), .int p6]) ⟨hx, hb, hml, hown, hts⟩ (c_X4_printer l D cI cC cQ H.size d0 n0 na s0 sa h1 h2 mm ma t0 p0 pa tk N S oo zz M0 M1 M2 M3 rs de pc pg sg ln po dd lt pl f1s s2s tms qq 2) (kcwV hts wd_ml_RL_60 wd_im_yX4_printer wd_sel_yX4_printer wd_ini_RX4 wd_code_yX4_printer rfl rfl rfl hd_X4_printer ⟨Nat.le_of_ble_eq_true rfl, Nat.le_of_ble_eq_true rfl⟩) ⟨in_blind, va_recv hK (pa_l (pa_r hPs)) (ci := 4) (q0 := 0) rfl rfl, k_pre hK (pa_l (pa_r hPs)) (da_l (da_r hDs)) hN⟩ rfl rfl hl.1 rfl (lv_room (Nat.le_of_ble_eq_true rfl)) dL_hangs_683 ⟨Nat.le_of_ble_eq_true rfl, Nat.le_of_ble_eq_true rfl⟩) hPs hDs hS hA (fun u8 H locs hP hD hS => ?_)
  have hP := k_unP hP
  have hD := k_unD hD
  have hP : va_P D vwCl (DW cI cC cQ d0 n0 na s0 sa h1 h2 mm ma t0 p0 pa tk N S oo zz M0 M1 M2 M3 rs de pc pg sg ln po dd lt pl f1s s2s tms) H := hP
  have hD : va_D A (DW cI cC cQ d0 n0 na s0 sa h1 h2 mm ma t0 p0 pa tk N S oo zz M0 M1 M2 M3 rs de pc pg sg ln po dd lt pl f1s s2s tms) := hD
  refine lv_iadd hx hb dL_hangs_686 ?_
  refine lv_iadd hx hb dL_hangs_687 ?_
  refine lv_istore (lv' := [(6, .int (p6 + ((sh_X4_printer N qq 1) + (sh_X4_printer N qq 2)))), (9, .int (sh_X4_printer N qq 0)), (8, .int qq), (7, .int d7), (5, .int 1), (4, .int nn), (3, .int bo), (2, .int le), (1, .int al), (0, .ref d0)]) hx hb dL_hangs_688 hl (by decide) rfl (fun ls hl => ?_)
  refine lv_iload hx hb dL_hangs_690 (lv_at hl 3 rfl) ?_
  refine lv_aload_n hx hb dL_hangs_692 rfl (lv_at hl 9 rfl) ?_
  refine lv_iload hx hb dL_hangs_693 (lv_at hl 2 rfl) ?_
  refine lv_iconst (v := 1) hx hb dL_hangs_695 (by decide) ?_
  have hPs := k_self hP
  have hDs := k_selfD hD
  refine k_behq (X := []) (Y := []) (va_runV (As := [.int qq, .int 1]) (rest := [.int d7]) ⟨hx, hb, hml, hown, hts⟩ (c_X4_printer l D cI cC cQ H.size d0 n0 na s0 sa h1 h2 mm ma t0 p0 pa tk N S oo zz M0 M1 M2 M3 rs de pc pg sg ln po dd lt pl f1s s2s tms qq 1) (kcwV hts wd_ml_RL_60 wd_im_yX4_printer wd_sel_yX4_printer wd_ini_RX4 wd_code_yX4_printer rfl rfl rfl hd_X4_printer ⟨Nat.le_of_ble_eq_true rfl, Nat.le_of_ble_eq_true rfl⟩) ⟨in_blind, va_recv hK (pa_l (pa_r hPs)) (ci := 4) (q0 := 0) rfl rfl, k_pre hK (pa_l (pa_r hPs)) (da_l (da_r hDs)) hN⟩ rfl rfl hl.1 rfl (lv_room (Nat.le_of_ble_eq_true rfl)) dL_hangs_696 ⟨Nat.le_of_ble_eq_true rfl, Nat.le_of_ble_eq_true rfl⟩) hPs hDs hS hA (fun u11 H locs hP hD hS => ?_)
  have hP := k_unP hP
  have hD := k_unD hD
  have hP : va_P D vwCl (DW cI cC cQ d0 n0 na s0 sa h1 h2 mm ma t0 p0 pa tk N S oo zz M0 M1 M2 M3 rs de pc pg sg ln po dd lt pl f1s s2s tms) H := hP
  have hD : va_D A (DW cI cC cQ d0 n0 na s0 sa h1 h2 mm ma t0 p0 pa tk N S oo zz M0 M1 M2 M3 rs de pc pg sg ln po dd lt pl f1s s2s tms) := hD
  refine lv_iadd hx hb dL_hangs_699 ?_
  refine lv_istore (lv' := [(7, .int (d7 + (sh_X4_printer N qq 1))), (6, .int (p6 + ((sh_X4_printer N qq 1) + (sh_X4_printer N qq 2)))), (9, .int (sh_X4_printer N qq 0)), (8, .int qq), (5, .int 1), (4, .int nn), (3, .int bo), (2, .int le), (1, .int al), (0, .ref d0)]) hx hb dL_hangs_700 hl (by decide) rfl (fun ls hl => ?_)
  refine lv_iload hx hb dL_hangs_702 (lv_at hl 2 rfl) ?_
  refine lv_bipush (v := (-4)) hx hb dL_hangs_704 (by decide) ?_
  have K : ∀  (H : Heap) (locs : List Loc) (ls : Array Slot), va_P D vwCl (DW cI cC cQ d0 n0 na s0 sa h1 h2 mm ma t0 p0 pa tk N S oo zz M0 M1 M2 M3 rs de pc pg sg ln po dd lt pl f1s s2s tms) H → va_D A (DW cI cC cQ d0 n0 na s0 sa h1 h2 mm ma t0 p0 pa tk N S oo zz M0 M1 M2 M3 rs de pc pg sg ln po dd lt pl f1s s2s tms) → va_S A s.heap H locs → lv_has ls 14 [(0, .ref d0), (1, .int al), (2, .int le), (3, .int bo), (4, .int nn), (5, .int 1), (6, .int (p6 + ((sh_X4_printer N qq 1) + (sh_X4_printer N qq 2)))), (7, .int (d7 + (sh_X4_printer N qq 1))), (8, .int qq), (9, .int (sh_X4_printer N qq 0))] → W p l e rm_L_hangs s m args below meth c H locs 0 0 Q (F0 m 732 ls []) := by
    intro  H locs ls  hP hD hS hl
    refine lv_iload hx hb dL_hangs_732 (lv_at hl 9 rfl) ?_
    refine lv_bipush (v := (-4)) hx hb dL_hangs_734 (by decide) ?_
    have K : ∀ (v20 : Int32) (H : Heap) (locs : List Loc) (ls : Array Slot), v20 = (if (sh_X4_printer N qq 0) = (-4) then 1 else 0) → va_P D vwCl (DW cI cC cQ d0 n0 na s0 sa h1 h2 mm ma t0 p0 pa tk N S oo zz M0 M1 M2 M3 rs de pc pg sg ln po dd lt pl f1s s2s tms) H → va_D A (DW cI cC cQ d0 n0 na s0 sa h1 h2 mm ma t0 p0 pa tk N S oo zz M0 M1 M2 M3 rs de pc pg sg ln po dd lt pl f1s s2s tms) → va_S A s.heap H locs → lv_has ls 14 [(0, .ref d0), (1, .int al), (2, .int le), (3, .int bo), (4, .int nn), (5, .int 1), (6, .int (p6 + ((sh_X4_printer N qq 1) + (sh_X4_printer N qq 2)))), (7, .int (d7 + (sh_X4_printer N qq 1))), (8, .int qq), (9, .int (sh_X4_printer N qq 0))] → W p l e rm_L_hangs s m args below meth c H locs 0 0 Q (F0 m 744 ls [.int v20]) := by
      intro v20 H locs ls hv19 hP hD hS hl
      refine lv_aload_n hx hb dL_hangs_744 rfl (lv_at hl 0 rfl) ?_
      refine lv_iload hx hb dL_hangs_745 (lv_at hl 8 rfl) ?_
      have hPs := k_self hP
      have hDs := k_selfD hD
      refine k_behq (X := []) (Y := []) (va_runV (As := [.int qq]) (rest := [.int v20]) ⟨hx, hb, hml, hown, hts⟩ (c_X4_whyNot l D cI cC cQ H.size d0 n0 na s0 sa h1 h2 mm ma t0 p0 pa tk N S oo zz M0 M1 M2 M3 rs de pc pg sg ln po dd lt pl f1s s2s tms qq) (kcwV hts wd_ml_RL_78 wd_im_yX4_whyNot wd_sel_yX4_whyNot wd_ini_RX4 wd_code_yX4_whyNot rfl rfl rfl hd_X4_whyNot ⟨Nat.le_of_ble_eq_true rfl, Nat.le_of_ble_eq_true rfl⟩) ⟨in_blind, va_recv hK (pa_l (pa_r hPs)) (ci := 4) (q0 := 0) rfl rfl, k_pre hK (pa_l (pa_r hPs)) (da_l (da_r hDs)) hN⟩ rfl rfl hl.1 rfl (lv_room (Nat.le_of_ble_eq_true rfl)) dL_hangs_747 ⟨Nat.le_of_ble_eq_true rfl, Nat.le_of_ble_eq_true rfl⟩) hPs hDs hS hA (fun u22 H locs hP hD hS => ?_)
      have hP := k_unP hP
      have hD := k_unD hD
      have hP : va_P D vwCl (DW cI cC cQ d0 n0 na s0 sa h1 h2 mm ma t0 p0 pa tk N S oo zz M0 M1 M2 M3 rs de pc pg sg ln po dd lt pl f1s s2s tms) H := hP
      have hD : va_D A (DW cI cC cQ d0 n0 na s0 sa h1 h2 mm ma t0 p0 pa tk N S oo zz M0 M1 M2 M3 rs de pc pg sg ln po dd lt pl f1s s2s tms) := hD
      refine lv_iconst (v := 1) hx hb dL_hangs_750 (by decide) ?_
      have K : ∀ (v26 : Int32) (H : Heap) (locs : List Loc) (ls : Array Slot), v26 = (if (sh_X4_whyNot N qq) = 1 then 1 else 0) → va_P D vwCl (DW cI cC cQ d0 n0 na s0 sa h1 h2 mm ma t0 p0 pa tk N S oo zz M0 M1 M2 M3 rs de pc pg sg ln po dd lt pl f1s s2s tms) H → va_D A (DW cI cC cQ d0 n0 na s0 sa h1 h2 mm ma t0 p0 pa tk N S oo zz M0 M1 M2 M3 rs de pc pg sg ln po dd lt pl f1s s2s tms) → va_S A s.heap H locs → lv_has ls 14 [(0, .ref d0), (1, .int al), (2, .int le), (3, .int bo), (4, .int nn), (5, .int 1), (6, .int (p6 + ((sh_X4_printer N qq 1) + (sh_X4_printer N qq 2)))), (7, .int (d7 + (sh_X4_printer N qq 1))), (8, .int qq), (9, .int (sh_X4_printer N qq 0))] → W p l e rm_L_hangs s m args below meth c H locs 0 0 Q (F0 m 759 ls [.int v26, .int v20]) := by
        intro v26 H locs ls hv25 hP hD hS hl
        refine lv_icmp_ne (tgt := 856) hx hb dL_hangs_759 (by decide) (fun c9 => absurd (hg_759 g hq hv19 hv25) c9) (fun _ => ?_)
        refine lv_aload_n hx hb dL_hangs_762 rfl (lv_at hl 0 rfl) ?_
        refine lv_iload hx hb dL_hangs_763 (lv_at hl 8 rfl) ?_
        refine lv_iconst (v := 5) hx hb dL_hangs_765 (by decide) ?_
        have hPs := k_self hP
        have hDs := k_selfD hD
        refine k_behq (X := []) (Y := []) (va_runV (As := [.int qq, .int 5]) (rest := []) ⟨hx, hb, hml, hown, hts⟩ (c_X4_printer l D cI cC cQ H.size d0 n0 na s0 sa h1 h2 mm ma t0 p0 pa tk N S oo zz M0 M1 M2 M3 rs de pc pg sg ln po dd lt pl f1s s2s tms qq 5) (kcwV hts wd_ml_RL_60 wd_im_yX4_printer wd_sel_yX4_printer wd_ini_RX4 wd_code_yX4_printer rfl rfl rfl hd_X4_printer ⟨Nat.le_of_ble_eq_true rfl, Nat.le_of_ble_eq_true rfl⟩) ⟨in_blind, va_recv hK (pa_l (pa_r hPs)) (ci := 4) (q0 := 0) rfl rfl, k_pre hK (pa_l (pa_r hPs)) (da_l (da_r hDs)) hN⟩ rfl rfl hl.1 rfl (lv_room (Nat.le_of_ble_eq_true rfl)) dL_hangs_766 ⟨Nat.le_of_ble_eq_true rfl, Nat.le_of_ble_eq_true rfl⟩) hPs hDs hS hA (fun u28 H locs hP hD hS => ?_)
        have hP := k_unP hP
        have hD := k_unD hD
        have hP : va_P D vwCl (DW cI cC cQ d0 n0 na s0 sa h1 h2 mm ma t0 p0 pa tk N S oo zz M0 M1 M2 M3 rs de pc pg sg ln po dd lt pl f1s s2s tms) H := hP
        have hD : va_D A (DW cI cC cQ d0 n0 na s0 sa h1 h2 mm ma t0 p0 pa tk N S oo zz M0 M1 M2 M3 rs de pc pg sg ln po dd lt pl f1s s2s tms) := hD
        refine lv_bipush (v := (-4)) hx hb dL_hangs_769 (by decide) ?_
        have K : ∀ (v32 : Int32) (H : Heap) (locs : List Loc) (ls : Array Slot), v32 = (if (sh_X4_printer N qq 5) = (-4) then 1 else 0) → va_P D vwCl (DW cI cC cQ d0 n0 na s0 sa h1 h2 mm ma t0 p0 pa tk N S oo zz M0 M1 M2 M3 rs de pc pg sg ln po dd lt pl f1s s2s tms) H → va_D A (DW cI cC cQ d0 n0 na s0 sa h1 h2 mm ma t0 p0 pa tk N S oo zz M0 M1 M2 M3 rs de pc pg sg ln po dd lt pl f1s s2s tms) → va_S A s.heap H locs → lv_has ls 14 [(0, .ref d0), (1, .int al), (2, .int le), (3, .int bo), (4, .int nn), (5, .int 1), (6, .int (p6 + ((sh_X4_printer N qq 1) + (sh_X4_printer N qq 2)))), (7, .int (d7 + (sh_X4_printer N qq 1))), (8, .int qq), (9, .int (sh_X4_printer N qq 0))] → W p l e rm_L_hangs s m args below meth c H locs 0 0 Q (F0 m 779 ls [.int v32]) := by
          intro v32 H locs ls hv31 hP hD hS hl
          refine lv_aload_n hx hb dL_hangs_779 rfl (lv_at hl 0 rfl) ?_
          refine lv_iload hx hb dL_hangs_780 (lv_at hl 8 rfl) ?_
          refine lv_iconst (v := 1) hx hb dL_hangs_782 (by decide) ?_
          have hPs := k_self hP
          have hDs := k_selfD hD
          refine k_behq (X := []) (Y := []) (va_runV (As := [.int qq, .int 1]) (rest := [.int v32]) ⟨hx, hb, hml, hown, hts⟩ (c_X4_printer l D cI cC cQ H.size d0 n0 na s0 sa h1 h2 mm ma t0 p0 pa tk N S oo zz M0 M1 M2 M3 rs de pc pg sg ln po dd lt pl f1s s2s tms qq 1) (kcwV hts wd_ml_RL_60 wd_im_yX4_printer wd_sel_yX4_printer wd_ini_RX4 wd_code_yX4_printer rfl rfl rfl hd_X4_printer ⟨Nat.le_of_ble_eq_true rfl, Nat.le_of_ble_eq_true rfl⟩) ⟨in_blind, va_recv hK (pa_l (pa_r hPs)) (ci := 4) (q0 := 0) rfl rfl, k_pre hK (pa_l (pa_r hPs)) (da_l (da_r hDs)) hN⟩ rfl rfl hl.1 rfl (lv_room (Nat.le_of_ble_eq_true rfl)) dL_hangs_783 ⟨Nat.le_of_ble_eq_true rfl, Nat.le_of_ble_eq_true rfl⟩) hPs hDs hS hA (fun u34 H locs hP hD hS => ?_)
          have hP := k_unP hP
          have hD := k_unD hD
          have hP : va_P D vwCl (DW cI cC cQ d0 n0 na s0 sa h1 h2 mm ma t0 p0 pa tk N S oo zz M0 M1 M2 M3 rs de pc pg sg ln po dd lt pl f1s s2s tms) H := hP
          have hD : va_D A (DW cI cC cQ d0 n0 na s0 sa h1 h2 mm ma t0 p0 pa tk N S oo zz M0 M1 M2 M3 rs de pc pg sg ln po dd lt pl f1s s2s tms) := hD
          refine lv_aload_n hx hb dL_hangs_786 rfl (lv_at hl 0 rfl) ?_
          refine lv_iload hx hb dL_hangs_787 (lv_at hl 8 rfl) ?_
          refine lv_iconst (v := 2) hx hb dL_hangs_789 (by decide) ?_
          have hPs := k_self hP
          have hDs := k_selfD hD
          refine k_behq (X := []) (Y := []) (va_runV (As := [.int qq, .int 2]) (rest := [.int (sh_X4_printer N qq 1), .int v32]) ⟨hx, hb, hml, hown, hts⟩ (c_X4_printer l D cI cC cQ H.size d0 n0 na s0 sa h1 h2 mm ma t0 p0 pa tk N S oo zz M0 M1 M2 M3 rs de pc pg sg ln po dd lt pl f1s s2s tms qq 2) (kcwV hts wd_ml_RL_60 wd_im_yX4_printer wd_sel_yX4_printer wd_ini_RX4 wd_code_yX4_printer rfl rfl rfl hd_X4_printer ⟨Nat.le_of_ble_eq_true rfl, Nat.le_of_ble_eq_true rfl⟩) ⟨in_blind, va_recv hK (pa_l (pa_r hPs)) (ci := 4) (q0 := 0) rfl rfl, k_pre hK (pa_l (pa_r hPs)) (da_l (da_r hDs)) hN⟩ rfl rfl hl.1 rfl (lv_room (Nat.le_of_ble_eq_true rfl)) dL_hangs_790 ⟨Nat.le_of_ble_eq_true rfl, Nat.le_of_ble_eq_true rfl⟩) hPs hDs hS hA (fun u37 H locs hP hD hS => ?_)
          have hP := k_unP hP
          have hD := k_unD hD
          have hP : va_P D vwCl (DW cI cC cQ d0 n0 na s0 sa h1 h2 mm ma t0 p0 pa tk N S oo zz M0 M1 M2 M3 rs de pc pg sg ln po dd lt pl f1s s2s tms) H := hP
          have hD : va_D A (DW cI cC cQ d0 n0 na s0 sa h1 h2 mm ma t0 p0 pa tk N S oo zz M0 M1 M2 M3 rs de pc pg sg ln po dd lt pl f1s s2s tms) := hD
          refine lv_iadd hx hb dL_hangs_793 ?_
          have K : ∀ (v41 : Int32) (H : Heap) (locs : List Loc) (ls : Array Slot), v41 = (if ((sh_X4_printer N qq 1) + (sh_X4_printer N qq 2)) = 0 then 1 else 0) → va_P D vwCl (DW cI cC cQ d0 n0 na s0 sa h1 h2 mm ma t0 p0 pa tk N S oo zz M0 M1 M2 M3 rs de pc pg sg ln po dd lt pl f1s s2s tms) H → va_D A (DW cI cC cQ d0 n0 na s0 sa h1 h2 mm ma t0 p0 pa tk N S oo zz M0 M1 M2 M3 rs de pc pg sg ln po dd lt pl f1s s2s tms) → va_S A s.heap H locs → lv_has ls 14 [(0, .ref d0), (1, .int al), (2, .int le), (3, .int bo), (4, .int nn), (5, .int 1), (6, .int (p6 + ((sh_X4_printer N qq 1) + (sh_X4_printer N qq 2)))), (7, .int (d7 + (sh_X4_printer N qq 1))), (8, .int qq), (9, .int (sh_X4_printer N qq 0))] → W p l e rm_L_hangs s m args below meth c H locs 0 0 Q (F0 m 802 ls [.int v41, .int v32]) := by
            intro v41 H locs ls hv40 hP hD hS hl
            refine lv_icmp_ne (tgt := 856) hx hb dL_hangs_802 (by decide) (fun c9 => absurd (hg_802 g hq hv31 hv40) c9) (fun _ => ?_)
            refine lv_aload_n hx hb dL_hangs_805 rfl (lv_at hl 0 rfl) ?_
            refine lv_iload hx hb dL_hangs_806 (lv_at hl 8 rfl) ?_
            refine lv_iconst (v := 5) hx hb dL_hangs_808 (by decide) ?_
            have hPs := k_self hP
            have hDs := k_selfD hD
            refine k_behq (X := []) (Y := []) (va_runV (As := [.int qq, .int 5]) (rest := []) ⟨hx, hb, hml, hown, hts⟩ (c_X4_printer l D cI cC cQ H.size d0 n0 na s0 sa h1 h2 mm ma t0 p0 pa tk N S oo zz M0 M1 M2 M3 rs de pc pg sg ln po dd lt pl f1s s2s tms qq 5) (kcwV hts wd_ml_RL_60 wd_im_yX4_printer wd_sel_yX4_printer wd_ini_RX4 wd_code_yX4_printer rfl rfl rfl hd_X4_printer ⟨Nat.le_of_ble_eq_true rfl, Nat.le_of_ble_eq_true rfl⟩) ⟨in_blind, va_recv hK (pa_l (pa_r hPs)) (ci := 4) (q0 := 0) rfl rfl, k_pre hK (pa_l (pa_r hPs)) (da_l (da_r hDs)) hN⟩ rfl rfl hl.1 rfl (lv_room (Nat.le_of_ble_eq_true rfl)) dL_hangs_809 ⟨Nat.le_of_ble_eq_true rfl, Nat.le_of_ble_eq_true rfl⟩) hPs hDs hS hA (fun u43 H locs hP hD hS => ?_)
            have hP := k_unP hP
            have hD := k_unD hD
            have hP : va_P D vwCl (DW cI cC cQ d0 n0 na s0 sa h1 h2 mm ma t0 p0 pa tk N S oo zz M0 M1 M2 M3 rs de pc pg sg ln po dd lt pl f1s s2s tms) H := hP
            have hD : va_D A (DW cI cC cQ d0 n0 na s0 sa h1 h2 mm ma t0 p0 pa tk N S oo zz M0 M1 M2 M3 rs de pc pg sg ln po dd lt pl f1s s2s tms) := hD
            refine lv_bipush (v := 100) hx hb dL_hangs_812 (by decide) ?_
            refine lv_icmp_gt (tgt := 856) hx hb dL_hangs_814 (by decide) (fun c9 => absurd c9 (hg_814 g hq)) (fun _ => ?_)
            refine lv_aload_n hx hb dL_hangs_817 rfl (lv_at hl 0 rfl) ?_
            refine lv_iload hx hb dL_hangs_818 (lv_at hl 8 rfl) ?_
            refine lv_iconst (v := 4) hx hb dL_hangs_820 (by decide) ?_
            have hPs := k_self hP
            have hDs := k_selfD hD
            refine k_behq (X := []) (Y := []) (va_runV (As := [.int qq, .int 4]) (rest := []) ⟨hx, hb, hml, hown, hts⟩ (c_X4_printer l D cI cC cQ H.size d0 n0 na s0 sa h1 h2 mm ma t0 p0 pa tk N S oo zz M0 M1 M2 M3 rs de pc pg sg ln po dd lt pl f1s s2s tms qq 4) (kcwV hts wd_ml_RL_60 wd_im_yX4_printer wd_sel_yX4_printer wd_ini_RX4 wd_code_yX4_printer rfl rfl rfl hd_X4_printer ⟨Nat.le_of_ble_eq_true rfl, Nat.le_of_ble_eq_true rfl⟩) ⟨in_blind, va_recv hK (pa_l (pa_r hPs)) (ci := 4) (q0 := 0) rfl rfl, k_pre hK (pa_l (pa_r hPs)) (da_l (da_r hDs)) hN⟩ rfl rfl hl.1 rfl (lv_room (Nat.le_of_ble_eq_true rfl)) dL_hangs_821 ⟨Nat.le_of_ble_eq_true rfl, Nat.le_of_ble_eq_true rfl⟩) hPs hDs hS hA (fun u46 H locs hP hD hS => ?_)
            have hP := k_unP hP
            have hD := k_unD hD
            have hP : va_P D vwCl (DW cI cC cQ d0 n0 na s0 sa h1 h2 mm ma t0 p0 pa tk N S oo zz M0 M1 M2 M3 rs de pc pg sg ln po dd lt pl f1s s2s tms) H := hP
            have hD : va_D A (DW cI cC cQ d0 n0 na s0 sa h1 h2 mm ma t0 p0 pa tk N S oo zz M0 M1 M2 M3 rs de pc pg sg ln po dd lt pl f1s s2s tms) := hD
            refine lv_aload_n hx hb dL_hangs_824 rfl (lv_at hl 0 rfl) ?_
            refine lv_iload hx hb dL_hangs_825 (lv_at hl 8 rfl) ?_
            refine lv_iconst (v := 1) hx hb dL_hangs_827 (by decide) ?_
            have hPs := k_self hP
            have hDs := k_selfD hD
            refine k_behq (X := []) (Y := []) (va_runV (As := [.int qq, .int 1]) (rest := [.int (sh_X4_printer N qq 4)]) ⟨hx, hb, hml, hown, hts⟩ (c_X4_printer l D cI cC cQ H.size d0 n0 na s0 sa h1 h2 mm ma t0 p0 pa tk N S oo zz M0 M1 M2 M3 rs de pc pg sg ln po dd lt pl f1s s2s tms qq 1) (kcwV hts wd_ml_RL_60 wd_im_yX4_printer wd_sel_yX4_printer wd_ini_RX4 wd_code_yX4_printer rfl rfl rfl hd_X4_printer ⟨Nat.le_of_ble_eq_true rfl, Nat.le_of_ble_eq_true rfl⟩) ⟨in_blind, va_recv hK (pa_l (pa_r hPs)) (ci := 4) (q0 := 0) rfl rfl, k_pre hK (pa_l (pa_r hPs)) (da_l (da_r hDs)) hN⟩ rfl rfl hl.1 rfl (lv_room (Nat.le_of_ble_eq_true rfl)) dL_hangs_828 ⟨Nat.le_of_ble_eq_true rfl, Nat.le_of_ble_eq_true rfl⟩) hPs hDs hS hA (fun u49 H locs hP hD hS => ?_)
            have hP := k_unP hP
            have hD := k_unD hD
            have hP : va_P D vwCl (DW cI cC cQ d0 n0 na s0 sa h1 h2 mm ma t0 p0 pa tk N S oo zz M0 M1 M2 M3 rs de pc pg sg ln po dd lt pl f1s s2s tms) H := hP
            have hD : va_D A (DW cI cC cQ d0 n0 na s0 sa h1 h2 mm ma t0 p0 pa tk N S oo zz M0 M1 M2 M3 rs de pc pg sg ln po dd lt pl f1s s2s tms) := hD
            refine lv_aload_n hx hb dL_hangs_831 rfl (lv_at hl 0 rfl) ?_
            refine lv_iload hx hb dL_hangs_832 (lv_at hl 8 rfl) ?_
            refine lv_iconst (v := 2) hx hb dL_hangs_834 (by decide) ?_
            have hPs := k_self hP
            have hDs := k_selfD hD
            refine k_behq (X := []) (Y := []) (va_runV (As := [.int qq, .int 2]) (rest := [.int (sh_X4_printer N qq 1), .int (sh_X4_printer N qq 4)]) ⟨hx, hb, hml, hown, hts⟩ (c_X4_printer l D cI cC cQ H.size d0 n0 na s0 sa h1 h2 mm ma t0 p0 pa tk N S oo zz M0 M1 M2 M3 rs de pc pg sg ln po dd lt pl f1s s2s tms qq 2) (kcwV hts wd_ml_RL_60 wd_im_yX4_printer wd_sel_yX4_printer wd_ini_RX4 wd_code_yX4_printer rfl rfl rfl hd_X4_printer ⟨Nat.le_of_ble_eq_true rfl, Nat.le_of_ble_eq_true rfl⟩) ⟨in_blind, va_recv hK (pa_l (pa_r hPs)) (ci := 4) (q0 := 0) rfl rfl, k_pre hK (pa_l (pa_r hPs)) (da_l (da_r hDs)) hN⟩ rfl rfl hl.1 rfl (lv_room (Nat.le_of_ble_eq_true rfl)) dL_hangs_835 ⟨Nat.le_of_ble_eq_true rfl, Nat.le_of_ble_eq_true rfl⟩) hPs hDs hS hA (fun u52 H locs hP hD hS => ?_)
            have hP := k_unP hP
            have hD := k_unD hD
            have hP : va_P D vwCl (DW cI cC cQ d0 n0 na s0 sa h1 h2 mm ma t0 p0 pa tk N S oo zz M0 M1 M2 M3 rs de pc pg sg ln po dd lt pl f1s s2s tms) H := hP
            have hD : va_D A (DW cI cC cQ d0 n0 na s0 sa h1 h2 mm ma t0 p0 pa tk N S oo zz M0 M1 M2 M3 rs de pc pg sg ln po dd lt pl f1s s2s tms) := hD
            refine lv_iadd hx hb dL_hangs_838 ?_
            refine lv_icmp_lt (tgt := 856) hx hb dL_hangs_839 (by decide) (fun c9 => absurd c9 (hg_839 g hq)) (fun _ => ?_)
            refine lv_aload_n hx hb dL_hangs_842 rfl (lv_at hl 0 rfl) ?_
            refine lv_iload hx hb dL_hangs_843 (lv_at hl 8 rfl) ?_
            refine lv_iconst (v := 3) hx hb dL_hangs_845 (by decide) ?_
            have hPs := k_self hP
            have hDs := k_selfD hD
            refine k_behq (X := []) (Y := []) (va_runV (As := [.int qq, .int 3]) (rest := []) ⟨hx, hb, hml, hown, hts⟩ (c_X4_printer l D cI cC cQ H.size d0 n0 na s0 sa h1 h2 mm ma t0 p0 pa tk N S oo zz M0 M1 M2 M3 rs de pc pg sg ln po dd lt pl f1s s2s tms qq 3) (kcwV hts wd_ml_RL_60 wd_im_yX4_printer wd_sel_yX4_printer wd_ini_RX4 wd_code_yX4_printer rfl rfl rfl hd_X4_printer ⟨Nat.le_of_ble_eq_true rfl, Nat.le_of_ble_eq_true rfl⟩) ⟨in_blind, va_recv hK (pa_l (pa_r hPs)) (ci := 4) (q0 := 0) rfl rfl, k_pre hK (pa_l (pa_r hPs)) (da_l (da_r hDs)) hN⟩ rfl rfl hl.1 rfl (lv_room (Nat.le_of_ble_eq_true rfl)) dL_hangs_846 ⟨Nat.le_of_ble_eq_true rfl, Nat.le_of_ble_eq_true rfl⟩) hPs hDs hS hA (fun u55 H locs hP hD hS => ?_)
            have hP := k_unP hP
            have hD := k_unD hD
            have hP : va_P D vwCl (DW cI cC cQ d0 n0 na s0 sa h1 h2 mm ma t0 p0 pa tk N S oo zz M0 M1 M2 M3 rs de pc pg sg ln po dd lt pl f1s s2s tms) H := hP
            have hD : va_D A (DW cI cC cQ d0 n0 na s0 sa h1 h2 mm ma t0 p0 pa tk N S oo zz M0 M1 M2 M3 rs de pc pg sg ln po dd lt pl f1s s2s tms) := hD
            refine lv_if_lt (tgt := 856) hx hb dL_hangs_849 (by decide) (fun c9 => absurd c9 (hg_849 g hq)) (fun _ => ?_)
            refine lv_iconst (v := 1) hx hb dL_hangs_852 (by decide) ?_
            refine lv_goto (tgt := 857) hx hb dL_hangs_853 (by decide) ?_
            refine lv_istore (lv' := [(5, .int 1), (0, .ref d0), (1, .int al), (2, .int le), (3, .int bo), (4, .int nn), (6, .int (p6 + ((sh_X4_printer N qq 1) + (sh_X4_printer N qq 2)))), (7, .int (d7 + (sh_X4_printer N qq 1))), (8, .int qq), (9, .int (sh_X4_printer N qq 0))]) hx hb dL_hangs_857 hl (by decide) rfl (fun ls hl => ?_)
            refine lv_iinc (v := (qq + 1)) (lv' := [(8, .int (qq + 1)), (5, .int 1), (0, .ref d0), (1, .int al), (2, .int le), (3, .int bo), (4, .int nn), (6, .int (p6 + ((sh_X4_printer N qq 1) + (sh_X4_printer N qq 2)))), (7, .int (d7 + (sh_X4_printer N qq 1))), (9, .int (sh_X4_printer N qq 0))]) hx hb dL_hangs_859 hl (k := 8) rfl rfl (by decide) rfl (fun ls hl => ?_)
            refine lv_goto (tgt := 650) hx hb dL_hangs_862 (by decide) ?_
            exact go  _ _ _ hP hD hS (lv_sub hl [0, 8, 7, 1, 6, 5, 4, 3, 2] rfl)
          refine lv_if_ne (tgt := 801) hx hb dL_hangs_794 (by decide) (fun c39 => ?_) (fun c39 => ?_)
          · skip
            refine lv_iconst (v := 0) hx hb dL_hangs_801 (by decide) ?_
            exact K (0) _ _ _ (by rw [if_neg c39]) hP hD hS (lv_sub hl [0, 1, 2, 3, 4, 5, 6, 7, 8, 9] rfl)
          · skip
            refine lv_iconst (v := 1) hx hb dL_hangs_797 (by decide) ?_
            refine lv_goto (tgt := 802) hx hb dL_hangs_798 (by decide) ?_
            exact K (1) _ _ _ (by rw [if_pos c39]) hP hD hS (lv_sub hl [0, 1, 2, 3, 4, 5, 6, 7, 8, 9] rfl)
        refine lv_icmp_ne (tgt := 778) hx hb dL_hangs_771 (by decide) (fun c30 => ?_) (fun c30 => ?_)
        · skip
          refine lv_iconst (v := 0) hx hb dL_hangs_778 (by decide) ?_
          exact K (0) _ _ _ (by rw [if_neg c30]) hP hD hS (lv_sub hl [0, 1, 2, 3, 4, 5, 6, 7, 8, 9] rfl)
        · skip
          refine lv_iconst (v := 1) hx hb dL_hangs_774 (by decide) ?_
          refine lv_goto (tgt := 779) hx hb dL_hangs_775 (by decide) ?_
          exact K (1) _ _ _ (by rw [if_pos c30]) hP hD hS (lv_sub hl [0, 1, 2, 3, 4, 5, 6, 7, 8, 9] rfl)
      refine lv_icmp_ne (tgt := 758) hx hb dL_hangs_751 (by decide) (fun c24 => ?_) (fun c24 => ?_)
      · skip
        refine lv_iconst (v := 0) hx hb dL_hangs_758 (by decide) ?_
        exact K (0) _ _ _ (by rw [if_neg c24]) hP hD hS (lv_sub hl [0, 1, 2, 3, 4, 5, 6, 7, 8, 9] rfl)
      · skip
        refine lv_iconst (v := 1) hx hb dL_hangs_754 (by decide) ?_
        refine lv_goto (tgt := 759) hx hb dL_hangs_755 (by decide) ?_
        exact K (1) _ _ _ (by rw [if_pos c24]) hP hD hS (lv_sub hl [0, 1, 2, 3, 4, 5, 6, 7, 8, 9] rfl)
    refine lv_icmp_ne (tgt := 743) hx hb dL_hangs_736 (by decide) (fun c18 => ?_) (fun c18 => ?_)
    · skip
      refine lv_iconst (v := 0) hx hb dL_hangs_743 (by decide) ?_
      exact K (0) _ _ _ (by rw [if_neg c18]) hP hD hS (lv_sub hl [0, 1, 2, 3, 4, 5, 6, 7, 8, 9] rfl)
    · skip
      refine lv_iconst (v := 1) hx hb dL_hangs_739 (by decide) ?_
      refine lv_goto (tgt := 744) hx hb dL_hangs_740 (by decide) ?_
      exact K (1) _ _ _ (by rw [if_pos c18]) hP hD hS (lv_sub hl [0, 1, 2, 3, 4, 5, 6, 7, 8, 9] rfl)
  refine lv_icmp_eq (tgt := 732) hx hb dL_hangs_706 (by decide) (fun c13 => ?_) (fun c13 => ?_)
  · skip
    exact K _ _ _ hP hD hS (lv_sub hl [9, 8, 7, 6, 5, 4, 1, 0, 3, 2] rfl)
  · skip
    refine lv_iload hx hb dL_hangs_709 (lv_at hl 2 rfl) ?_
    refine lv_if_lt (tgt := 856) hx hb dL_hangs_711 (by decide) (fun c9 => absurd c9 (hg_711 g hq c13)) (fun _ => ?_)
    refine lv_iload hx hb dL_hangs_714 (lv_at hl 2 rfl) ?_
    refine lv_iconst (v := 4) hx hb dL_hangs_716 (by decide) ?_
    refine lv_icmp_ge (tgt := 856) hx hb dL_hangs_717 (by decide) (fun c9 => absurd c9 (hg_717 g hq c13)) (fun _ => ?_)
    refine lv_aload_n hx hb dL_hangs_720 rfl (lv_at hl 9 rfl) ?_
    refine lv_iload hx hb dL_hangs_721 (lv_at hl 2 rfl) ?_
    refine lv_iconst (v := 4) hx hb dL_hangs_723 (by decide) ?_
    have hPs := k_self hP
    have hDs := k_selfD hD
    refine k_behq (X := []) (Y := []) (va_runV (As := [.int (sh_X4_printer N qq 0), .int 4]) (rest := []) ⟨hx, hb, hml, hown, hts⟩ (c_X4_cup l D cI cC cQ H.size d0 n0 na s0 sa h1 h2 mm ma t0 p0 pa tk N S oo zz M0 M1 M2 M3 rs de pc pg sg ln po dd lt pl f1s s2s tms (sh_X4_printer N qq 0) 4) (kcwV hts wd_ml_RL_56 wd_im_yX4_cup wd_sel_yX4_cup wd_ini_RX4 wd_code_yX4_cup rfl rfl rfl hd_X4_cup ⟨Nat.le_of_ble_eq_true rfl, Nat.le_of_ble_eq_true rfl⟩) ⟨in_blind, va_recv hK (pa_l (pa_r hPs)) (ci := 4) (q0 := 0) rfl rfl, k_pre hK (pa_l (pa_r hPs)) (da_l (da_r hDs)) hN⟩ rfl rfl hl.1 rfl (lv_room (Nat.le_of_ble_eq_true rfl)) dL_hangs_724 ⟨Nat.le_of_ble_eq_true rfl, Nat.le_of_ble_eq_true rfl⟩) hPs hDs hS hA (fun u15 H locs hP hD hS => ?_)
    have hP := k_unP hP
    have hD := k_unD hD
    have hP : va_P D vwCl (DW cI cC cQ d0 n0 na s0 sa h1 h2 mm ma t0 p0 pa tk N S oo zz M0 M1 M2 M3 rs de pc pg sg ln po dd lt pl f1s s2s tms) H := hP
    have hD : va_D A (DW cI cC cQ d0 n0 na s0 sa h1 h2 mm ma t0 p0 pa tk N S oo zz M0 M1 M2 M3 rs de pc pg sg ln po dd lt pl f1s s2s tms) := hD
    refine lv_iload hx hb dL_hangs_727 (lv_at hl 3 rfl) ?_
    refine lv_icmp_ne (tgt := 856) hx hb dL_hangs_729 (by decide) (fun c9 => absurd (hg_729 g hq c13) c9) (fun _ => ?_)
    exact K _ _ _ hP hD hS (lv_sub hl [9, 8, 7, 6, 5, 4, 1, 0, 3, 2] rfl)
set_option maxHeartbeats 40000000 in
set_option maxRecDepth 100000 in
theorem hs_end {p : Program} {l : Launch} {e : Env} {s : State} {m : MethodId} {args : Array Value} {below : List Frame} {meth : Method} {c : Code} {A : Nat → Prop} {Q : State → Prop} {D : va_G} {cI cC cQ : ClassId} {d0 : Nat} {n0 : Nat} {na : Nat → Nat} {s0 : Nat} {sa : Nat → Nat} {h1 : Nat} {h2 : Nat} {mm : Nat → Nat} {ma : Nat → Nat → Nat} {t0 : Nat} {p0 : Nat} {pa : Nat → Nat} {tk : Int32} {N : TMa} {S : TMa} {oo : Int32} {zz : Int32} {M0 : TMa} {M1 : TMa} {M2 : TMa} {M3 : TMa} {rs : Int32} {de : Int32} {pc : Int32} {pg : Int32} {sg : Nat → Int32} {ln : Int32} {po : Int32} {dd : Int32} {lt : Nat → Int32} {pl : Nat → Int32} {f1s : Nat → Int32} {s2s : Nat → Int32} {tms : Nat → Int32} {al le bo nn k6 p6 d7 qq : Int32} (F : FxM p s m c args A D cI cC cQ cL_hangs 14) (g : okN N) (hzz : vp_in zz 5) (hI : hgI N k6 al le bo nn) (h4 : 4 ≤ k6) (hc : 2 ≤ qq) (hp : p6 = (0 + (sh_X4_printer N 0 1 + sh_X4_printer N 0 2)) + (sh_X4_printer N 1 1 + sh_X4_printer N 1 2)) (hd : d7 = (0 + sh_X4_printer N 0 1) + sh_X4_printer N 1 1) (go : AtL p l e rm_L_hangs s m args below meth c A Q D 0 0 14 (DW cI cC cQ d0 n0 na s0 sa h1 h2 mm ma t0 p0 pa tk N S oo zz M0 M1 M2 M3 rs de pc pg sg ln po dd lt pl f1s s2s tms) [(0, .ref d0)] 1043 [.int 1]) : AtL p l e rm_L_hangs s m args below meth c A Q D 0 0 14 (DW cI cC cQ d0 n0 na s0 sa h1 h2 mm ma t0 p0 pa tk N S oo zz M0 M1 M2 M3 rs de pc pg sg ln po dd lt pl f1s s2s tms) [(8, .int qq), (7, .int d7), (6, .int p6), (5, .int 1), (4, .int nn), (3, .int bo), (2, .int le), (1, .int al), (0, .ref d0)] 650 [] := by
  intro H locs ls hP hD hS hl
  obtain ⟨hx, hb, hml, hown, hts, hN, hA, hK⟩ := F
  refine lv_iload hx hb dL_hangs_650 (lv_at hl 0 rfl) ?_
  refine lv_iconst (v := 2) hx hb dL_hangs_652 (by decide) ?_
  refine lv_icmp_ge (tgt := 865) hx hb dL_hangs_653 (by decide) (fun _ => ?_) (fun c9 => absurd (hc) c9)
  refine lv_iload hx hb dL_hangs_865 (lv_at hl 3 rfl) ?_
  refine lv_if_eq (tgt := 880) hx hb dL_hangs_867 (by decide) (fun c9 => absurd c9 (by decide)) (fun _ => ?_)
  refine lv_aload_n hx hb dL_hangs_870 rfl (lv_at hl 8 rfl) ?_
  refine lv_bipush (v := 100) hx hb dL_hangs_871 (by decide) ?_
  refine lv_iconst (v := 5) hx hb dL_hangs_873 (by decide) ?_
  have hPs := k_self hP
  have hDs := k_selfD hD
  refine k_behi (X := []) (Y := []) (va_runV (As := [.int 100, .int 5]) (rest := []) ⟨hx, hb, hml, hown, hts⟩ (c_X4_bestFor l D cI cC cQ H.size d0 n0 na s0 sa h1 h2 mm ma t0 p0 pa tk N S oo zz M0 M1 M2 M3 rs de pc pg sg ln po dd lt pl f1s s2s tms 100 5) (kcwV hts wd_ml_RL_81 wd_im_yX4_bestFor wd_sel_yX4_bestFor wd_ini_RX4 wd_code_yX4_bestFor rfl rfl rfl hd_X4_bestFor ⟨Nat.le_of_ble_eq_true rfl, Nat.le_of_ble_eq_true rfl⟩) ⟨in_blind, va_recv hK (pa_l (pa_r hPs)) (ci := 4) (q0 := 0) rfl rfl, k_pre hK (pa_l (pa_r hPs)) (da_l (da_r hDs)) hN⟩ rfl rfl hl.1 rfl (lv_room (Nat.le_of_ble_eq_true rfl)) dL_hangs_874 ⟨Nat.le_of_ble_eq_true rfl, Nat.le_of_ble_eq_true rfl⟩) hPs hDs hS hA (fun r1 u2 H locs hw3 hP hD hS => ?_)
  have hP := k_unP hP
  have hD := k_unD hD
  have hP : va_P D vwCl (DW cI cC cQ d0 n0 na s0 sa h1 h2 mm ma t0 p0 pa tk N S oo zz M0 M1 M2 M3 rs de pc pg sg ln po dd lt pl f1s s2s tms) H := hP
  have hD : va_D A (DW cI cC cQ d0 n0 na s0 sa h1 h2 mm ma t0 p0 pa tk N S oo zz M0 M1 M2 M3 rs de pc pg sg ln po dd lt pl f1s s2s tms) := hD
  have hw3 : r1 = (sh_X4_bestFor N 100 5) := hw3
  refine lv_goto (tgt := 882) hx hb dL_hangs_877 (by decide) ?_
  refine lv_istore (lv' := [(8, .int r1), (7, .int d7), (6, .int p6), (5, .int 1), (4, .int nn), (3, .int bo), (2, .int le), (1, .int al), (0, .ref d0)]) hx hb dL_hangs_882 hl (by decide) rfl (fun ls hl => ?_)
  refine lv_iload hx hb dL_hangs_884 (lv_at hl 3 rfl) ?_
  refine lv_if_eq (tgt := 913) hx hb dL_hangs_886 (by decide) (fun c9 => absurd c9 (by decide)) (fun _ => ?_)
  refine lv_iload hx hb dL_hangs_889 (lv_at hl 0 rfl) ?_
  refine lv_bipush (v := (-4)) hx hb dL_hangs_891 (by decide) ?_
  have K : ∀  (H : Heap) (locs : List Loc) (ls : Array Slot), va_P D vwCl (DW cI cC cQ d0 n0 na s0 sa h1 h2 mm ma t0 p0 pa tk N S oo zz M0 M1 M2 M3 rs de pc pg sg ln po dd lt pl f1s s2s tms) H → va_D A (DW cI cC cQ d0 n0 na s0 sa h1 h2 mm ma t0 p0 pa tk N S oo zz M0 M1 M2 M3 rs de pc pg sg ln po dd lt pl f1s s2s tms) → va_S A s.heap H locs → lv_has ls 14 [(0, .ref d0), (1, .int al), (2, .int le), (3, .int bo), (4, .int nn), (5, .int 1), (6, .int p6), (7, .int d7), (8, .int r1)] → W p l e rm_L_hangs s m args below meth c H locs 0 0 Q (F0 m 909 ls []) := by
    intro  H locs ls  hP hD hS hl
    refine lv_iconst (v := 1) hx hb dL_hangs_909 (by decide) ?_
    refine lv_goto (tgt := 914) hx hb dL_hangs_910 (by decide) ?_
    refine lv_istore (lv' := [(5, .int 1), (0, .ref d0), (1, .int al), (2, .int le), (3, .int bo), (4, .int nn), (6, .int p6), (7, .int d7), (8, .int r1)]) hx hb dL_hangs_914 hl (by decide) rfl (fun ls hl => ?_)
    refine lv_iload hx hb dL_hangs_916 (lv_at hl 0 rfl) ?_
    refine lv_if_eq (tgt := 1042) hx hb dL_hangs_918 (by decide) (fun c9 => absurd c9 (by decide)) (fun _ => ?_)
    refine lv_iload_n hx hb dL_hangs_921 rfl (lv_at hl 2 rfl) ?_
    refine lv_aload_n hx hb dL_hangs_922 rfl (lv_at hl 1 rfl) ?_
    refine lv_iconst (v := 0) hx hb dL_hangs_923 (by decide) ?_
    have hPs := k_self hP
    have hDs := k_selfD hD
    refine k_behq (X := []) (Y := []) (va_runV (As := [.int 0]) (rest := [.int al]) ⟨hx, hb, hml, hown, hts⟩ (c_X4_count l D cI cC cQ H.size d0 n0 na s0 sa h1 h2 mm ma t0 p0 pa tk N S oo zz M0 M1 M2 M3 rs de pc pg sg ln po dd lt pl f1s s2s tms 0) (kcwV hts wd_ml_RL_53 wd_im_yX4_count wd_sel_yX4_count wd_ini_RX4 wd_code_yX4_count rfl rfl rfl hd_X4_count ⟨Nat.le_of_ble_eq_true rfl, Nat.le_of_ble_eq_true rfl⟩) ⟨in_blind, va_recv hK (pa_l (pa_r hPs)) (ci := 4) (q0 := 0) rfl rfl, k_pre hK (pa_l (pa_r hPs)) (da_l (da_r hDs)) hN⟩ rfl rfl hl.1 rfl (lv_room (Nat.le_of_ble_eq_true rfl)) dL_hangs_924 ⟨Nat.le_of_ble_eq_true rfl, Nat.le_of_ble_eq_true rfl⟩) hPs hDs hS hA (fun u10 H locs hP hD hS => ?_)
    have hP := k_unP hP
    have hD := k_unD hD
    have hP : va_P D vwCl (DW cI cC cQ d0 n0 na s0 sa h1 h2 mm ma t0 p0 pa tk N S oo zz M0 M1 M2 M3 rs de pc pg sg ln po dd lt pl f1s s2s tms) H := hP
    have hD : va_D A (DW cI cC cQ d0 n0 na s0 sa h1 h2 mm ma t0 p0 pa tk N S oo zz M0 M1 M2 M3 rs de pc pg sg ln po dd lt pl f1s s2s tms) := hD
    refine lv_icmp_ne (tgt := 1042) hx hb dL_hangs_927 (by decide) (fun c9 => absurd (hg_927 hI h4) c9) (fun _ => ?_)
    refine lv_iload_n hx hb dL_hangs_930 rfl (lv_at hl 2 rfl) ?_
    refine lv_aload_n hx hb dL_hangs_931 rfl (lv_at hl 1 rfl) ?_
    refine lv_iconst (v := 1) hx hb dL_hangs_932 (by decide) ?_
    have hPs := k_self hP
    have hDs := k_selfD hD
    refine k_behq (X := []) (Y := []) (va_runV (As := [.int 1]) (rest := [.int al]) ⟨hx, hb, hml, hown, hts⟩ (c_X4_count l D cI cC cQ H.size d0 n0 na s0 sa h1 h2 mm ma t0 p0 pa tk N S oo zz M0 M1 M2 M3 rs de pc pg sg ln po dd lt pl f1s s2s tms 1) (kcwV hts wd_ml_RL_53 wd_im_yX4_count wd_sel_yX4_count wd_ini_RX4 wd_code_yX4_count rfl rfl rfl hd_X4_count ⟨Nat.le_of_ble_eq_true rfl, Nat.le_of_ble_eq_true rfl⟩) ⟨in_blind, va_recv hK (pa_l (pa_r hPs)) (ci := 4) (q0 := 0) rfl rfl, k_pre hK (pa_l (pa_r hPs)) (da_l (da_r hDs)) hN⟩ rfl rfl hl.1 rfl (lv_room (Nat.le_of_ble_eq_true rfl)) dL_hangs_933 ⟨Nat.le_of_ble_eq_true rfl, Nat.le_of_ble_eq_true rfl⟩) hPs hDs hS hA (fun u13 H locs hP hD hS => ?_)
    have hP := k_unP hP
    have hD := k_unD hD
    have hP : va_P D vwCl (DW cI cC cQ d0 n0 na s0 sa h1 h2 mm ma t0 p0 pa tk N S oo zz M0 M1 M2 M3 rs de pc pg sg ln po dd lt pl f1s s2s tms) H := hP
    have hD : va_D A (DW cI cC cQ d0 n0 na s0 sa h1 h2 mm ma t0 p0 pa tk N S oo zz M0 M1 M2 M3 rs de pc pg sg ln po dd lt pl f1s s2s tms) := hD
    refine lv_iadd hx hb dL_hangs_936 ?_
    refine lv_aload_n hx hb dL_hangs_937 rfl (lv_at hl 1 rfl) ?_
    refine lv_iconst (v := 2) hx hb dL_hangs_938 (by decide) ?_
    have hPs := k_self hP
    have hDs := k_selfD hD
    refine k_behq (X := []) (Y := []) (va_runV (As := [.int 2]) (rest := [.int (al + (sh_X4_count N zz ln 1))]) ⟨hx, hb, hml, hown, hts⟩ (c_X4_count l D cI cC cQ H.size d0 n0 na s0 sa h1 h2 mm ma t0 p0 pa tk N S oo zz M0 M1 M2 M3 rs de pc pg sg ln po dd lt pl f1s s2s tms 2) (kcwV hts wd_ml_RL_53 wd_im_yX4_count wd_sel_yX4_count wd_ini_RX4 wd_code_yX4_count rfl rfl rfl hd_X4_count ⟨Nat.le_of_ble_eq_true rfl, Nat.le_of_ble_eq_true rfl⟩) ⟨in_blind, va_recv hK (pa_l (pa_r hPs)) (ci := 4) (q0 := 0) rfl rfl, k_pre hK (pa_l (pa_r hPs)) (da_l (da_r hDs)) hN⟩ rfl rfl hl.1 rfl (lv_room (Nat.le_of_ble_eq_true rfl)) dL_hangs_939 ⟨Nat.le_of_ble_eq_true rfl, Nat.le_of_ble_eq_true rfl⟩) hPs hDs hS hA (fun u16 H locs hP hD hS => ?_)
    have hP := k_unP hP
    have hD := k_unD hD
    have hP : va_P D vwCl (DW cI cC cQ d0 n0 na s0 sa h1 h2 mm ma t0 p0 pa tk N S oo zz M0 M1 M2 M3 rs de pc pg sg ln po dd lt pl f1s s2s tms) H := hP
    have hD : va_D A (DW cI cC cQ d0 n0 na s0 sa h1 h2 mm ma t0 p0 pa tk N S oo zz M0 M1 M2 M3 rs de pc pg sg ln po dd lt pl f1s s2s tms) := hD
    refine lv_iadd hx hb dL_hangs_942 ?_
    refine lv_sipush (v := 16000) hx hb dL_hangs_943 (by decide) ?_
    refine lv_aload_n hx hb dL_hangs_946 rfl (lv_at hl 1 rfl) ?_
    refine lv_iconst (v := 3) hx hb dL_hangs_947 (by decide) ?_
    have hPs := k_self hP
    have hDs := k_selfD hD
    refine k_behq (X := []) (Y := []) (va_runV (As := [.int 3]) (rest := [.int 16000, .int ((al + (sh_X4_count N zz ln 1)) + (sh_X4_count N zz ln 2))]) ⟨hx, hb, hml, hown, hts⟩ (c_X4_count l D cI cC cQ H.size d0 n0 na s0 sa h1 h2 mm ma t0 p0 pa tk N S oo zz M0 M1 M2 M3 rs de pc pg sg ln po dd lt pl f1s s2s tms 3) (kcwV hts wd_ml_RL_53 wd_im_yX4_count wd_sel_yX4_count wd_ini_RX4 wd_code_yX4_count rfl rfl rfl hd_X4_count ⟨Nat.le_of_ble_eq_true rfl, Nat.le_of_ble_eq_true rfl⟩) ⟨in_blind, va_recv hK (pa_l (pa_r hPs)) (ci := 4) (q0 := 0) rfl rfl, k_pre hK (pa_l (pa_r hPs)) (da_l (da_r hDs)) hN⟩ rfl rfl hl.1 rfl (lv_room (Nat.le_of_ble_eq_true rfl)) dL_hangs_948 ⟨Nat.le_of_ble_eq_true rfl, Nat.le_of_ble_eq_true rfl⟩) hPs hDs hS hA (fun u19 H locs hP hD hS => ?_)
    have hP := k_unP hP
    have hD := k_unD hD
    have hP : va_P D vwCl (DW cI cC cQ d0 n0 na s0 sa h1 h2 mm ma t0 p0 pa tk N S oo zz M0 M1 M2 M3 rs de pc pg sg ln po dd lt pl f1s s2s tms) H := hP
    have hD : va_D A (DW cI cC cQ d0 n0 na s0 sa h1 h2 mm ma t0 p0 pa tk N S oo zz M0 M1 M2 M3 rs de pc pg sg ln po dd lt pl f1s s2s tms) := hD
    refine lv_iadd hx hb dL_hangs_951 ?_
    refine lv_icmp_ne (tgt := 1042) hx hb dL_hangs_952 (by decide) (fun c9 => absurd (hg_952 g hI h4) c9) (fun _ => ?_)
    refine lv_iload_n hx hb dL_hangs_955 rfl (lv_at hl 3 rfl) ?_
    refine lv_aload_n hx hb dL_hangs_956 rfl (lv_at hl 1 rfl) ?_
    refine lv_bipush (v := 6) hx hb dL_hangs_957 (by decide) ?_
    have hPs := k_self hP
    have hDs := k_selfD hD
    refine k_behq (X := []) (Y := []) (va_runV (As := [.int 6]) (rest := [.int le]) ⟨hx, hb, hml, hown, hts⟩ (c_X4_count l D cI cC cQ H.size d0 n0 na s0 sa h1 h2 mm ma t0 p0 pa tk N S oo zz M0 M1 M2 M3 rs de pc pg sg ln po dd lt pl f1s s2s tms 6) (kcwV hts wd_ml_RL_53 wd_im_yX4_count wd_sel_yX4_count wd_ini_RX4 wd_code_yX4_count rfl rfl rfl hd_X4_count ⟨Nat.le_of_ble_eq_true rfl, Nat.le_of_ble_eq_true rfl⟩) ⟨in_blind, va_recv hK (pa_l (pa_r hPs)) (ci := 4) (q0 := 0) rfl rfl, k_pre hK (pa_l (pa_r hPs)) (da_l (da_r hDs)) hN⟩ rfl rfl hl.1 rfl (lv_room (Nat.le_of_ble_eq_true rfl)) dL_hangs_959 ⟨Nat.le_of_ble_eq_true rfl, Nat.le_of_ble_eq_true rfl⟩) hPs hDs hS hA (fun u22 H locs hP hD hS => ?_)
    have hP := k_unP hP
    have hD := k_unD hD
    have hP : va_P D vwCl (DW cI cC cQ d0 n0 na s0 sa h1 h2 mm ma t0 p0 pa tk N S oo zz M0 M1 M2 M3 rs de pc pg sg ln po dd lt pl f1s s2s tms) H := hP
    have hD : va_D A (DW cI cC cQ d0 n0 na s0 sa h1 h2 mm ma t0 p0 pa tk N S oo zz M0 M1 M2 M3 rs de pc pg sg ln po dd lt pl f1s s2s tms) := hD
    refine lv_icmp_ne (tgt := 1042) hx hb dL_hangs_962 (by decide) (fun c9 => absurd (hg_962 hI h4) c9) (fun _ => ?_)
    refine lv_iload_n hx hb dL_hangs_965 rfl (lv_at hl 4 rfl) ?_
    refine lv_aload_n hx hb dL_hangs_966 rfl (lv_at hl 1 rfl) ?_
    refine lv_bipush (v := 7) hx hb dL_hangs_967 (by decide) ?_
    have hPs := k_self hP
    have hDs := k_selfD hD
    refine k_behq (X := []) (Y := []) (va_runV (As := [.int 7]) (rest := [.int bo]) ⟨hx, hb, hml, hown, hts⟩ (c_X4_count l D cI cC cQ H.size d0 n0 na s0 sa h1 h2 mm ma t0 p0 pa tk N S oo zz M0 M1 M2 M3 rs de pc pg sg ln po dd lt pl f1s s2s tms 7) (kcwV hts wd_ml_RL_53 wd_im_yX4_count wd_sel_yX4_count wd_ini_RX4 wd_code_yX4_count rfl rfl rfl hd_X4_count ⟨Nat.le_of_ble_eq_true rfl, Nat.le_of_ble_eq_true rfl⟩) ⟨in_blind, va_recv hK (pa_l (pa_r hPs)) (ci := 4) (q0 := 0) rfl rfl, k_pre hK (pa_l (pa_r hPs)) (da_l (da_r hDs)) hN⟩ rfl rfl hl.1 rfl (lv_room (Nat.le_of_ble_eq_true rfl)) dL_hangs_969 ⟨Nat.le_of_ble_eq_true rfl, Nat.le_of_ble_eq_true rfl⟩) hPs hDs hS hA (fun u25 H locs hP hD hS => ?_)
    have hP := k_unP hP
    have hD := k_unD hD
    have hP : va_P D vwCl (DW cI cC cQ d0 n0 na s0 sa h1 h2 mm ma t0 p0 pa tk N S oo zz M0 M1 M2 M3 rs de pc pg sg ln po dd lt pl f1s s2s tms) H := hP
    have hD : va_D A (DW cI cC cQ d0 n0 na s0 sa h1 h2 mm ma t0 p0 pa tk N S oo zz M0 M1 M2 M3 rs de pc pg sg ln po dd lt pl f1s s2s tms) := hD
    refine lv_icmp_ne (tgt := 1042) hx hb dL_hangs_972 (by decide) (fun c9 => absurd (hg_972 g hI h4) c9) (fun _ => ?_)
    refine lv_iload hx hb dL_hangs_975 (lv_at hl 5 rfl) ?_
    refine lv_aload_n hx hb dL_hangs_977 rfl (lv_at hl 1 rfl) ?_
    refine lv_iconst (v := 5) hx hb dL_hangs_978 (by decide) ?_
    have hPs := k_self hP
    have hDs := k_selfD hD
    refine k_behq (X := []) (Y := []) (va_runV (As := [.int 5]) (rest := [.int nn]) ⟨hx, hb, hml, hown, hts⟩ (c_X4_count l D cI cC cQ H.size d0 n0 na s0 sa h1 h2 mm ma t0 p0 pa tk N S oo zz M0 M1 M2 M3 rs de pc pg sg ln po dd lt pl f1s s2s tms 5) (kcwV hts wd_ml_RL_53 wd_im_yX4_count wd_sel_yX4_count wd_ini_RX4 wd_code_yX4_count rfl rfl rfl hd_X4_count ⟨Nat.le_of_ble_eq_true rfl, Nat.le_of_ble_eq_true rfl⟩) ⟨in_blind, va_recv hK (pa_l (pa_r hPs)) (ci := 4) (q0 := 0) rfl rfl, k_pre hK (pa_l (pa_r hPs)) (da_l (da_r hDs)) hN⟩ rfl rfl hl.1 rfl (lv_room (Nat.le_of_ble_eq_true rfl)) dL_hangs_979 ⟨Nat.le_of_ble_eq_true rfl, Nat.le_of_ble_eq_true rfl⟩) hPs hDs hS hA (fun u28 H locs hP hD hS => ?_)
    have hP := k_unP hP
    have hD := k_unD hD
    have hP : va_P D vwCl (DW cI cC cQ d0 n0 na s0 sa h1 h2 mm ma t0 p0 pa tk N S oo zz M0 M1 M2 M3 rs de pc pg sg ln po dd lt pl f1s s2s tms) H := hP
    have hD : va_D A (DW cI cC cQ d0 n0 na s0 sa h1 h2 mm ma t0 p0 pa tk N S oo zz M0 M1 M2 M3 rs de pc pg sg ln po dd lt pl f1s s2s tms) := hD
    refine lv_icmp_ne (tgt := 1042) hx hb dL_hangs_982 (by decide) (fun c9 => absurd (hg_982 g hI h4) c9) (fun _ => ?_)
    refine lv_iload hx hb dL_hangs_985 (lv_at hl 6 rfl) ?_
    refine lv_aload_n hx hb dL_hangs_987 rfl (lv_at hl 1 rfl) ?_
    refine lv_iconst (v := 4) hx hb dL_hangs_988 (by decide) ?_
    have hPs := k_self hP
    have hDs := k_selfD hD
    refine k_behq (X := []) (Y := []) (va_runV (As := [.int 4]) (rest := [.int p6]) ⟨hx, hb, hml, hown, hts⟩ (c_X4_count l D cI cC cQ H.size d0 n0 na s0 sa h1 h2 mm ma t0 p0 pa tk N S oo zz M0 M1 M2 M3 rs de pc pg sg ln po dd lt pl f1s s2s tms 4) (kcwV hts wd_ml_RL_53 wd_im_yX4_count wd_sel_yX4_count wd_ini_RX4 wd_code_yX4_count rfl rfl rfl hd_X4_count ⟨Nat.le_of_ble_eq_true rfl, Nat.le_of_ble_eq_true rfl⟩) ⟨in_blind, va_recv hK (pa_l (pa_r hPs)) (ci := 4) (q0 := 0) rfl rfl, k_pre hK (pa_l (pa_r hPs)) (da_l (da_r hDs)) hN⟩ rfl rfl hl.1 rfl (lv_room (Nat.le_of_ble_eq_true rfl)) dL_hangs_989 ⟨Nat.le_of_ble_eq_true rfl, Nat.le_of_ble_eq_true rfl⟩) hPs hDs hS hA (fun u31 H locs hP hD hS => ?_)
    have hP := k_unP hP
    have hD := k_unD hD
    have hP : va_P D vwCl (DW cI cC cQ d0 n0 na s0 sa h1 h2 mm ma t0 p0 pa tk N S oo zz M0 M1 M2 M3 rs de pc pg sg ln po dd lt pl f1s s2s tms) H := hP
    have hD : va_D A (DW cI cC cQ d0 n0 na s0 sa h1 h2 mm ma t0 p0 pa tk N S oo zz M0 M1 M2 M3 rs de pc pg sg ln po dd lt pl f1s s2s tms) := hD
    refine lv_icmp_ne (tgt := 1042) hx hb dL_hangs_992 (by decide) (fun c9 => absurd (hp.trans hg_992) c9) (fun _ => ?_)
    refine lv_aload_n hx hb dL_hangs_995 rfl (lv_at hl 1 rfl) ?_
    have hPs := k_self hP
    have hDs := k_selfD hD
    refine k_behdq (X := []) (Y := []) (va_runV (As := []) (rest := []) ⟨hx, hb, hml, hown, hts⟩ (c_X4_darkness l D cI cC cQ H.size d0 n0 na s0 sa h1 h2 mm ma t0 p0 pa tk N S oo zz M0 M1 M2 M3 rs de pc pg sg ln po dd lt pl f1s s2s tms ) (kcwV hts wd_ml_RL_84 wd_im_yX4_darkness wd_sel_yX4_darkness wd_ini_RX4 wd_code_yX4_darkness rfl rfl rfl hd_X4_darkness ⟨Nat.le_of_ble_eq_true rfl, Nat.le_of_ble_eq_true rfl⟩) ⟨in_blind, va_recv hK (pa_l (pa_r hPs)) (ci := 4) (q0 := 0) rfl rfl, k_pre hK (pa_l (pa_r hPs)) (da_l (da_r hDs)) hN⟩ rfl rfl hl.1 rfl (lv_room (Nat.le_of_ble_eq_true rfl)) dL_hangs_996 ⟨Nat.le_of_ble_eq_true rfl, Nat.le_of_ble_eq_true rfl⟩) hPs hDs hS hA (fun u34 H locs hP hD hS => ?_)
    have hP := k_unP hP
    have hD := k_unD hD
    have hP : va_P D vwCl (DW cI cC cQ d0 n0 na s0 sa h1 h2 mm ma t0 p0 pa tk N S oo zz M0 M1 M2 M3 rs de pc pg sg ln po dd lt pl f1s s2s tms) H := hP
    have hD : va_D A (DW cI cC cQ d0 n0 na s0 sa h1 h2 mm ma t0 p0 pa tk N S oo zz M0 M1 M2 M3 rs de pc pg sg ln po dd lt pl f1s s2s tms) := hD
    refine lv_iload hx hb dL_hangs_999 (lv_at hl 6 rfl) ?_
    refine lv_if_ne (tgt := 1008) hx hb dL_hangs_1001 (by decide) (fun c36 => ?_) (fun c36 => ?_)
    · skip
      refine lv_iload hx hb dL_hangs_1008 (lv_at hl 7 rfl) ?_
      refine lv_i2d hx hb dL_hangs_1010 ?_
      refine lv_iload hx hb dL_hangs_1011 (lv_at hl 6 rfl) ?_
      refine lv_i2d hx hb dL_hangs_1013 ?_
      refine lv_ddiv hx hb dL_hangs_1014 (div_num c36) ?_
      refine lv_dcmp hx hb dL_hangs_1015 ?_
      refine lv_if_ne (tgt := 1042) hx hb dL_hangs_1016 (by decide) (fun c9 => absurd (hg_1016b2 g hp hd c36) c9) (fun _ => ?_)
      refine lv_aload_n hx hb dL_hangs_1019 rfl (lv_at hl 1 rfl) ?_
      refine lv_bipush (v := 13) hx hb dL_hangs_1020 (by decide) ?_
      have hPs := k_self hP
      have hDs := k_selfD hD
      refine k_behq (X := []) (Y := []) (va_runV (As := [.int 13]) (rest := []) ⟨hx, hb, hml, hown, hts⟩ (c_X4_count l D cI cC cQ H.size d0 n0 na s0 sa h1 h2 mm ma t0 p0 pa tk N S oo zz M0 M1 M2 M3 rs de pc pg sg ln po dd lt pl f1s s2s tms 13) (kcwV hts wd_ml_RL_53 wd_im_yX4_count wd_sel_yX4_count wd_ini_RX4 wd_code_yX4_count rfl rfl rfl hd_X4_count ⟨Nat.le_of_ble_eq_true rfl, Nat.le_of_ble_eq_true rfl⟩) ⟨in_blind, va_recv hK (pa_l (pa_r hPs)) (ci := 4) (q0 := 0) rfl rfl, k_pre hK (pa_l (pa_r hPs)) (da_l (da_r hDs)) hN⟩ rfl rfl hl.1 rfl (lv_room (Nat.le_of_ble_eq_true rfl)) dL_hangs_1022 ⟨Nat.le_of_ble_eq_true rfl, Nat.le_of_ble_eq_true rfl⟩) hPs hDs hS hA (fun u38 H locs hP hD hS => ?_)
      have hP := k_unP hP
      have hD := k_unD hD
      have hP : va_P D vwCl (DW cI cC cQ d0 n0 na s0 sa h1 h2 mm ma t0 p0 pa tk N S oo zz M0 M1 M2 M3 rs de pc pg sg ln po dd lt pl f1s s2s tms) H := hP
      have hD : va_D A (DW cI cC cQ d0 n0 na s0 sa h1 h2 mm ma t0 p0 pa tk N S oo zz M0 M1 M2 M3 rs de pc pg sg ln po dd lt pl f1s s2s tms) := hD
      refine lv_if_lt (tgt := 1042) hx hb dL_hangs_1025 (by decide) (fun c9 => absurd c9 (hg_1025 hzz)) (fun _ => ?_)
      refine lv_aload_n hx hb dL_hangs_1028 rfl (lv_at hl 1 rfl) ?_
      refine lv_bipush (v := 13) hx hb dL_hangs_1029 (by decide) ?_
      have hPs := k_self hP
      have hDs := k_selfD hD
      refine k_behq (X := []) (Y := []) (va_runV (As := [.int 13]) (rest := []) ⟨hx, hb, hml, hown, hts⟩ (c_X4_count l D cI cC cQ H.size d0 n0 na s0 sa h1 h2 mm ma t0 p0 pa tk N S oo zz M0 M1 M2 M3 rs de pc pg sg ln po dd lt pl f1s s2s tms 13) (kcwV hts wd_ml_RL_53 wd_im_yX4_count wd_sel_yX4_count wd_ini_RX4 wd_code_yX4_count rfl rfl rfl hd_X4_count ⟨Nat.le_of_ble_eq_true rfl, Nat.le_of_ble_eq_true rfl⟩) ⟨in_blind, va_recv hK (pa_l (pa_r hPs)) (ci := 4) (q0 := 0) rfl rfl, k_pre hK (pa_l (pa_r hPs)) (da_l (da_r hDs)) hN⟩ rfl rfl hl.1 rfl (lv_room (Nat.le_of_ble_eq_true rfl)) dL_hangs_1031 ⟨Nat.le_of_ble_eq_true rfl, Nat.le_of_ble_eq_true rfl⟩) hPs hDs hS hA (fun u41 H locs hP hD hS => ?_)
      have hP := k_unP hP
      have hD := k_unD hD
      have hP : va_P D vwCl (DW cI cC cQ d0 n0 na s0 sa h1 h2 mm ma t0 p0 pa tk N S oo zz M0 M1 M2 M3 rs de pc pg sg ln po dd lt pl f1s s2s tms) H := hP
      have hD : va_D A (DW cI cC cQ d0 n0 na s0 sa h1 h2 mm ma t0 p0 pa tk N S oo zz M0 M1 M2 M3 rs de pc pg sg ln po dd lt pl f1s s2s tms) := hD
      refine lv_iconst (v := 5) hx hb dL_hangs_1034 (by decide) ?_
      refine lv_icmp_ge (tgt := 1042) hx hb dL_hangs_1035 (by decide) (fun c9 => absurd c9 (hg_1035 hzz)) (fun _ => ?_)
      refine lv_iconst (v := 1) hx hb dL_hangs_1038 (by decide) ?_
      refine lv_goto (tgt := 1043) hx hb dL_hangs_1039 (by decide) ?_
      exact go  _ _ _ hP hD hS (lv_sub hl [1] rfl)
    · skip
      refine lv_dconst1 hx hb dL_hangs_1004 ?_
      refine lv_goto (tgt := 1015) hx hb dL_hangs_1005 (by decide) ?_
      refine lv_dcmp hx hb dL_hangs_1015 ?_
      refine lv_if_ne (tgt := 1042) hx hb dL_hangs_1016 (by decide) (fun c9 => absurd (hg_1016a2 hp c36) c9) (fun _ => ?_)
      refine lv_aload_n hx hb dL_hangs_1019 rfl (lv_at hl 1 rfl) ?_
      refine lv_bipush (v := 13) hx hb dL_hangs_1020 (by decide) ?_
      have hPs := k_self hP
      have hDs := k_selfD hD
      refine k_behq (X := []) (Y := []) (va_runV (As := [.int 13]) (rest := []) ⟨hx, hb, hml, hown, hts⟩ (c_X4_count l D cI cC cQ H.size d0 n0 na s0 sa h1 h2 mm ma t0 p0 pa tk N S oo zz M0 M1 M2 M3 rs de pc pg sg ln po dd lt pl f1s s2s tms 13) (kcwV hts wd_ml_RL_53 wd_im_yX4_count wd_sel_yX4_count wd_ini_RX4 wd_code_yX4_count rfl rfl rfl hd_X4_count ⟨Nat.le_of_ble_eq_true rfl, Nat.le_of_ble_eq_true rfl⟩) ⟨in_blind, va_recv hK (pa_l (pa_r hPs)) (ci := 4) (q0 := 0) rfl rfl, k_pre hK (pa_l (pa_r hPs)) (da_l (da_r hDs)) hN⟩ rfl rfl hl.1 rfl (lv_room (Nat.le_of_ble_eq_true rfl)) dL_hangs_1022 ⟨Nat.le_of_ble_eq_true rfl, Nat.le_of_ble_eq_true rfl⟩) hPs hDs hS hA (fun u44 H locs hP hD hS => ?_)
      have hP := k_unP hP
      have hD := k_unD hD
      have hP : va_P D vwCl (DW cI cC cQ d0 n0 na s0 sa h1 h2 mm ma t0 p0 pa tk N S oo zz M0 M1 M2 M3 rs de pc pg sg ln po dd lt pl f1s s2s tms) H := hP
      have hD : va_D A (DW cI cC cQ d0 n0 na s0 sa h1 h2 mm ma t0 p0 pa tk N S oo zz M0 M1 M2 M3 rs de pc pg sg ln po dd lt pl f1s s2s tms) := hD
      refine lv_if_lt (tgt := 1042) hx hb dL_hangs_1025 (by decide) (fun c9 => absurd c9 (hg_1025 hzz)) (fun _ => ?_)
      refine lv_aload_n hx hb dL_hangs_1028 rfl (lv_at hl 1 rfl) ?_
      refine lv_bipush (v := 13) hx hb dL_hangs_1029 (by decide) ?_
      have hPs := k_self hP
      have hDs := k_selfD hD
      refine k_behq (X := []) (Y := []) (va_runV (As := [.int 13]) (rest := []) ⟨hx, hb, hml, hown, hts⟩ (c_X4_count l D cI cC cQ H.size d0 n0 na s0 sa h1 h2 mm ma t0 p0 pa tk N S oo zz M0 M1 M2 M3 rs de pc pg sg ln po dd lt pl f1s s2s tms 13) (kcwV hts wd_ml_RL_53 wd_im_yX4_count wd_sel_yX4_count wd_ini_RX4 wd_code_yX4_count rfl rfl rfl hd_X4_count ⟨Nat.le_of_ble_eq_true rfl, Nat.le_of_ble_eq_true rfl⟩) ⟨in_blind, va_recv hK (pa_l (pa_r hPs)) (ci := 4) (q0 := 0) rfl rfl, k_pre hK (pa_l (pa_r hPs)) (da_l (da_r hDs)) hN⟩ rfl rfl hl.1 rfl (lv_room (Nat.le_of_ble_eq_true rfl)) dL_hangs_1031 ⟨Nat.le_of_ble_eq_true rfl, Nat.le_of_ble_eq_true rfl⟩) hPs hDs hS hA (fun u47 H locs hP hD hS => ?_)
      have hP := k_unP hP
      have hD := k_unD hD
      have hP : va_P D vwCl (DW cI cC cQ d0 n0 na s0 sa h1 h2 mm ma t0 p0 pa tk N S oo zz M0 M1 M2 M3 rs de pc pg sg ln po dd lt pl f1s s2s tms) H := hP
      have hD : va_D A (DW cI cC cQ d0 n0 na s0 sa h1 h2 mm ma t0 p0 pa tk N S oo zz M0 M1 M2 M3 rs de pc pg sg ln po dd lt pl f1s s2s tms) := hD
      refine lv_iconst (v := 5) hx hb dL_hangs_1034 (by decide) ?_
      refine lv_icmp_ge (tgt := 1042) hx hb dL_hangs_1035 (by decide) (fun c9 => absurd c9 (hg_1035 hzz)) (fun _ => ?_)
      refine lv_iconst (v := 1) hx hb dL_hangs_1038 (by decide) ?_
      refine lv_goto (tgt := 1043) hx hb dL_hangs_1039 (by decide) ?_
      exact go  _ _ _ hP hD hS (lv_sub hl [1] rfl)
  refine lv_icmp_eq (tgt := 909) hx hb dL_hangs_893 (by decide) (fun c4 => ?_) (fun c4 => ?_)
  · skip
    exact K _ _ _ hP hD hS (lv_sub hl [8, 7, 6, 5, 4, 3, 2, 1, 0] rfl)
  · skip
    refine lv_aload_n hx hb dL_hangs_896 rfl (lv_at hl 8 rfl) ?_
    refine lv_iload hx hb dL_hangs_897 (lv_at hl 0 rfl) ?_
    refine lv_bipush (v := 100) hx hb dL_hangs_899 (by decide) ?_
    refine lv_iconst (v := 1) hx hb dL_hangs_901 (by decide) ?_
    have hPs := k_self hP
    have hDs := k_selfD hD
    refine k_behq (X := []) (Y := []) (va_runV (As := [.int r1, .int 100, .int 1]) (rest := []) ⟨hx, hb, hml, hown, hts⟩ (c_X4_lasts l D cI cC cQ H.size d0 n0 na s0 sa h1 h2 mm ma t0 p0 pa tk N S oo zz M0 M1 M2 M3 rs de pc pg sg ln po dd lt pl f1s s2s tms r1 100 1) (kcwV hts wd_ml_RL_63 wd_im_yX4_lasts wd_sel_yX4_lasts wd_ini_RX4 wd_code_yX4_lasts rfl rfl rfl hd_X4_lasts ⟨Nat.le_of_ble_eq_true rfl, Nat.le_of_ble_eq_true rfl⟩) ⟨in_blind, va_recv hK (pa_l (pa_r hPs)) (ci := 4) (q0 := 0) rfl rfl, k_pre hK (pa_l (pa_r hPs)) (da_l (da_r hDs)) hN⟩ rfl rfl hl.1 rfl (lv_room (Nat.le_of_ble_eq_true rfl)) dL_hangs_902 ⟨Nat.le_of_ble_eq_true rfl, Nat.le_of_ble_eq_true rfl⟩) hPs hDs hS hA (fun u6 H locs hP hD hS => ?_)
    have hP := k_unP hP
    have hD := k_unD hD
    have hP : va_P D vwCl (DW cI cC cQ d0 n0 na s0 sa h1 h2 mm ma t0 p0 pa tk N S oo zz M0 M1 M2 M3 rs de pc pg sg ln po dd lt pl f1s s2s tms) H := hP
    have hD : va_D A (DW cI cC cQ d0 n0 na s0 sa h1 h2 mm ma t0 p0 pa tk N S oo zz M0 M1 M2 M3 rs de pc pg sg ln po dd lt pl f1s s2s tms) := hD
    refine lv_iconst (v := 5) hx hb dL_hangs_905 (by decide) ?_
    refine lv_icmp_lt (tgt := 913) hx hb dL_hangs_906 (by decide) (fun c9 => absurd c9 (hg_906b hw3 c4)) (fun _ => ?_)
    exact K _ _ _ hP hD hS (lv_sub hl [8, 7, 6, 5, 4, 3, 2, 1, 0] rfl)
