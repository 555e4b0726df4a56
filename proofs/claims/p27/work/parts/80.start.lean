theorem k_arrT {s : State} {args : Array Value} {ty : FieldType} (h : (Cond.arrayClass ty).before args s = true) : ∃ cA : ClassId, ArrOfT s cA ty ∧ s.vm.findClass ("[" ++ ty.toString) = some cA := by
  obtain ⟨cA, kA, comp, h1, h2, h3⟩ := Cond.arrayClass_spec h
  exact ⟨cA, fun n z => ⟨fun k h => (by cases h), kA, h2, comp, h3⟩, h1⟩
theorem k_arrQ {s : State} (h : va_AO RX1 s) : ∃ cA : ClassId, ArrOfT s cA (.object RX1) ∧ va_RA s cA (.object RX1) := by
  obtain ⟨comp, c, k, h1, h2, h3, h4, h5⟩ := Cond.arrayOver_spec h
  exact ⟨c, fun n z => ⟨fun k h => (by cases h), k, h3, comp, h4⟩, k, comp, h3, h4, h1, h5⟩
theorem ini_good : goodM 0 iniM iniS := by
  refine ⟨?_, ?_, fun k h1 h2 => ?_, ?_, fun q hq => ?_⟩
  · unfold mrel
    decide +kernel
  · unfold iv
    decide +kernel
  · rcases (show k = 18 ∨ k = 19 ∨ k = 20 ∨ k = 21 ∨ k = 22 ∨ k = 23 by omega) with rfl | rfl | rfl | rfl | rfl | rfl <;> decide +kernel
  · unfold totT
    decide +kernel
  · rcases (show q = 0 ∨ q = 1 by omega) with rfl | rfl <;> (unfold prnB; decide +kernel)
theorem ini_gd : Gd 0 0 iniM iniM 0 0 iniM iniM iniM iniM (-4) (-4) (-4) (-4) (fun _ => 0) 0 := by
  refine ⟨iniS, (fun _ => 0), 0, (fun _ => 0), 0, (fun _ => 0), 0, (fun _ => 0), ini_good, ⟨k_in (by decide), k_in (by decide), rfl, fun k hk => ?_⟩, ⟨rfl, fun a => absurd rfl a⟩, ⟨rfl, padr_0⟩, Or.inl ⟨rfl, rfl, rfl, rfl, rfl⟩⟩
  rw [show (0 : Int32).toNatClampNeg = 0 from rfl] at hk
  omega
theorem ini_cnt : sh_X4_count iniM 0 0 0 = 16000 := by decide +kernel
set_option maxHeartbeats 40000000 in
set_option maxRecDepth 100000 in
theorem whole_start {p : Program} {e : Env} {s : State} {m : MethodId} {below : List Frame} {meth : Method} {c : Code} (l : Launch) (hflags : l.flags = flags0) {b L : Nat} {xs : Nat → Int32} (hL : L ≤ 260) (C0 : lw_At p s m meth c b L xs) : W p l e room_1 s m #[Value.ref b] below meth c s.heap [] 0 0 (lw_Z below #[Value.ref b] s) (entryFrame m ([Value.ref b] : List Value).toArray 9) := by
  obtain ⟨hx, hb, hr, hml, hown, hts0, hX, hbl, hlocks, hgv⟩ := id C0
  have hts : ∀ w ∈ lwA, w.before #[Value.ref b] s = true := fun w h => hts0 w (lwA_tbl w h)
  have hs := flat_of_before _ hgv
  have hA : ∀ q : Nat, s.heap.size ≤ q → (fun q : Nat => s.heap.size ≤ q) q := fun _ h => h
  have hA0 : ∀ a : Nat, a < s.heap.size → ¬ (fun q : Nat => s.heap.size ≤ q) a := fun a h => Nat.not_le.mpr h
  have hN : nbW s := by
    refine ⟨fun w hw => ?_, va_AO.of (hts0 (Cond.arrayOver (.object RX1)) (by decide +kernel))⟩
    have ht : w ∈ lw_tbl := by
      simp only [lwN, List.mem_cons, List.not_mem_nil, or_false] at hw
      rcases hw with rfl | rfl | rfl | rfl | rfl | rfl | rfl | rfl
      · exact wt_nl_RX4_9
      · exact wt_nl_RX4_25
      · exact wt_nl_RX0_9
      · exact wt_nl_RX4_32
      · exact wt_nl_RX4_39
      · exact wt_nl_RX1_65
      · exact wt_nl_RX1_84
      · exact wt_nl_RX1_90
    obtain ⟨a, i, y, h, rfl⟩ := lwN_form w hw
    exact va_Nw.of rfl (hts0 _ ht)
  obtain ⟨cI, aI, nI1⟩ := k_arrT (hts _ wd_ac_int)
  obtain ⟨cC, aC, nC1⟩ := k_arrT (hts _ wd_ac_char)
  obtain ⟨cQ, aQ, nQ1⟩ := k_arrQ hN.2
  obtain ⟨c0, iS0, hKn0⟩ := u_known (C := RX0) (T := TX0) (N := 3) (n := 3) hts inA0 (hts _ wd_inst_RX0)
  obtain ⟨c1, iS1, hKn1⟩ := u_known (C := RX1) (T := TX1) (N := 14) (n := 14) hts inA1 (hts _ wd_inst_RX1)
  obtain ⟨c2, iS2, hKn2⟩ := u_known (C := RX2) (T := TX2) (N := 9) (n := 9) hts inA2 (hts _ wd_inst_RX2)
  obtain ⟨c3, iS3, hKn3⟩ := u_known (C := RX3) (T := TX3) (N := 4) (n := 4) hts inA3 (hts _ wd_inst_RX3)
  obtain ⟨c4, iS4, hKn4⟩ := u_known (C := RX4) (T := TX4) (N := 6) (n := 6) hts inA4 (hts _ wd_inst_RX4)
  obtain ⟨D, hKc⟩ : ∃ D : va_G, ∀ (k : Nat) (q : vw_C), vwCl[k]? = some q → u_Kn s q.1 q.2.1 q.2.2 (D.1 k) (D.2 k) := by
    refine ⟨(fun k => match k with | 0 => c0 | 1 => c1 | 2 => c2 | 3 => c3 | _ => c4, fun k => match k with | 0 => iS0 | 1 => iS1 | 2 => iS2 | 3 => iS3 | _ => iS4), ?_⟩
    intro k q hq
    match k, hq with
    | 0, hq => cases hq; exact hKn0
    | 1, hq => cases hq; exact hKn1
    | 2, hq => cases hq; exact hKn2
    | 3, hq => cases hq; exact hKn3
    | 4, hq => cases hq; exact hKn4
    | k + 5, hq => simp [vwCl] at hq
  have hK : va_K D vwCl (TYS cI cC cQ) s := by
    refine ⟨hKc, fun k q hq => ?_⟩
    match k, hq with
    | 0, hq => cases hq; exact ⟨aI, nI1⟩
    | 1, hq => cases hq; exact ⟨aC, nC1⟩
    | 2, hq => cases hq; exact ⟨aQ, nQ1⟩
    | k + 3, hq => simp at hq
  have hZ : stZ (fun q : Nat => s.heap.size ≤ q) s s.heap := by
    refine ⟨?_, ?_⟩
    · have hel : ∀ j : Nat, j < 4 → (Term.elem (.static RX4 "LOWEST" "[I") (.int (Int32.ofNat j))).eval #[Value.ref b] s none [] s = some (.int (lowF j)) := by
        intro j hj
        rcases (show j = 0 ∨ j = 1 ∨ j = 2 ∨ j = 3 by omega) with rfl | rfl | rfl | rfl
        · exact va_eqt (z := 1) (hs (Cond.eq (.elem (.static RX4 "LOWEST" "[I") (.int 0)) (.int 1)) (by decide +kernel))
        · exact va_eqt (z := 2) (hs (Cond.eq (.elem (.static RX4 "LOWEST" "[I") (.int 1)) (.int 2)) (by decide +kernel))
        · exact va_eqt (z := 0) (hs (Cond.eq (.elem (.static RX4 "LOWEST" "[I") (.int 2)) (.int 0)) (by decide +kernel))
        · exact va_eqt (z := 1) (hs (Cond.eq (.elem (.static RX4 "LOWEST" "[I") (.int 3)) (.int 1)) (by decide +kernel))
      obtain ⟨t, ht, hT⟩ := va_Tof (N := 4) (f := fun j => .int (lowF j)) (A := (fun q : Nat => s.heap.size ≤ q)) (by decide) (hs (Cond.arrayOf (.static RX4 "LOWEST" "[I") .int) (by decide +kernel)) (va_eqt (z := 4) (hs (Cond.eq (.length (.static RX4 "LOWEST" "[I")) (.int 4)) (by decide +kernel))) hel hA0
      exact ⟨t, va_Zof (hts0 (Cond.laysStatic RX4 "LOWEST" "[I") (by decide +kernel)) (hts _ wd_ini_RX4) ht hA0, hT⟩
    · have hel : ∀ j : Nat, j < 4 → (Term.elem (.static RX4 "HIGHEST" "[I") (.int (Int32.ofNat j))).eval #[Value.ref b] s none [] s = some (.int (highF j)) := by
        intro j hj
        rcases (show j = 0 ∨ j = 1 ∨ j = 2 ∨ j = 3 by omega) with rfl | rfl | rfl | rfl
        · exact va_eqt (z := 5) (hs (Cond.eq (.elem (.static RX4 "HIGHEST" "[I") (.int 0)) (.int 5)) (by decide +kernel))
        · exact va_eqt (z := 50) (hs (Cond.eq (.elem (.static RX4 "HIGHEST" "[I") (.int 1)) (.int 50)) (by decide +kernel))
        · exact va_eqt (z := 1) (hs (Cond.eq (.elem (.static RX4 "HIGHEST" "[I") (.int 2)) (.int 1)) (by decide +kernel))
        · exact va_eqt (z := 500) (hs (Cond.eq (.elem (.static RX4 "HIGHEST" "[I") (.int 3)) (.int 500)) (by decide +kernel))
      obtain ⟨t, ht, hT⟩ := va_Tof (N := 4) (f := fun j => .int (highF j)) (A := (fun q : Nat => s.heap.size ≤ q)) (by decide) (hs (Cond.arrayOf (.static RX4 "HIGHEST" "[I") .int) (by decide +kernel)) (va_eqt (z := 4) (hs (Cond.eq (.length (.static RX4 "HIGHEST" "[I")) (.int 4)) (by decide +kernel))) hel hA0
      exact ⟨t, va_Zof (hts0 (Cond.laysStatic RX4 "HIGHEST" "[I") (by decide +kernel)) (hts _ wd_ini_RX4) ht hA0, hT⟩
  have hS : va_S (fun q : Nat => s.heap.size ≤ q) s.heap s.heap [] := va_S.rf
  have hP : va_P D vwCl ([] : va_W) s.heap := fun k q h => by simp at h
  have hD : va_D (fun q : Nat => s.heap.size ≤ q) ([] : va_W) := ⟨fun i j p q h => by simp at h, fun k q h => by simp at h⟩
  have hl := lv_entry ([.ref b]) (n := 9) (Nat.le_of_ble_eq_true rfl)
  rw [lg_entry_eq]
  generalize (lg_sl ([.ref b]) ++ List.replicate (9 - (lg_sl ([.ref b])).length) Slot.unset).toArray = ls at hl ⊢
  have hl : lv_has ls 9 [(0, .ref b)] := hl
  refine va_new (ci := 4) (fs := [.null, .null, .int 0, .null, .null, .null]) (C := RX4) (T := TX4) (N := 6) hx hb hts inA4 tyX4 tyX4_ok hown (hts _ wd_cl_RL_10) (hts _ wd_inst_RX4) (hts _ wd_ini_RX4) hK hP hD hS hA rfl (by decide +kernel) (Nat.le_of_ble_eq_true rfl) (Nat.le_of_ble_eq_true rfl) dL_law_0 (fun x0 H hP hD hS => ?_)
  have hP : va_P D vwCl [(x0, .inr (4, [.null, .null, .int 0, .null, .null, .null]))] H := hP
  have hD : va_D (fun q : Nat => s.heap.size ≤ q) [(x0, .inr (4, [.null, .null, .int 0, .null, .null, .null]))] := hD
  refine W.widen (k := 1) (n := 6) (Nat.le_of_ble_eq_true rfl) (Nat.le_of_ble_eq_true rfl) ?_
  refine lv_dup hx hb dL_law_3 rfl ?_
  have hPs : va_P D vwCl (([] : va_W) ++ ([(x0, .inr (4, [.null, .null, .int 0, .null, .null, .null]))] ++ ([] : va_W))) H := hP
  have hDs : va_D (fun q : Nat => s.heap.size ≤ q) (([] : va_W) ++ ([(x0, .inr (4, [.null, .null, .int 0, .null, .null, .null]))] ++ ([] : va_W))) := hD
  refine k_behvN (X := ([] : va_W)) (Y := []) (va_runI (As := []) (rest := [.ref x0]) ⟨hx, hb, hml, hown, hts⟩ (c_X4_init l D cI cC cQ H.size x0) (kcwI hts wd_ml_RL_91 wd_im_yX4_init wd_ini_RX4 wd_code_yX4_init rfl rfl rfl hd_X4_init ⟨Nat.le_of_ble_eq_true rfl, Nat.le_of_ble_eq_true rfl⟩) ⟨in_blind, k_pre hK (pa_l (pa_r hPs)) (da_l (da_r hDs)) hN⟩ rfl rfl hl.1 rfl (lv_room (Nat.le_of_ble_eq_true rfl)) dL_law_4 ⟨Nat.le_of_ble_eq_true rfl, Nat.le_of_ble_eq_true rfl⟩) hPs hDs hS hA (fun u H locs _ hP hD hS => ?_)
  have hP : va_P D vwCl (DW cI cC cQ x0 u.1 u.2.1 u.2.2.1 u.2.2.2.1 u.2.2.2.2.1 u.2.2.2.2.2.1.1 u.2.2.2.2.2.1.2.1 u.2.2.2.2.2.1.2.2 u.2.2.2.2.2.2.1 u.2.2.2.2.2.2.2.1 u.2.2.2.2.2.2.2.2 0 iniM iniM 0 0 iniM iniM iniM iniM (-4) (-4) (-4) (-4) (fun _ => 0) 0 0 0 (fun _ => 0) (fun _ => 0) (fun _ => 0) (fun _ => 0) (fun _ => 0)) H := hP
  have hD : va_D (fun q : Nat => s.heap.size ≤ q) (DW cI cC cQ x0 u.1 u.2.1 u.2.2.1 u.2.2.2.1 u.2.2.2.2.1 u.2.2.2.2.2.1.1 u.2.2.2.2.2.1.2.1 u.2.2.2.2.2.1.2.2 u.2.2.2.2.2.2.1 u.2.2.2.2.2.2.2.1 u.2.2.2.2.2.2.2.2 0 iniM iniM 0 0 iniM iniM iniM iniM (-4) (-4) (-4) (-4) (fun _ => 0) 0 0 0 (fun _ => 0) (fun _ => 0) (fun _ => 0) (fun _ => 0) (fun _ => 0)) := hD
  refine W.widen (k := 83) (n := 512) (Nat.le_of_ble_eq_true rfl) (Nat.le_of_ble_eq_true rfl) ?_
  refine lv_astore_n (lv' := [(1, .ref x0), (0, .ref b)]) hx hb dL_law_7 rfl hl (by decide) rfl (fun ls hl => ?_)
  refine va_new (ci := 4) (fs := [.null, .null, .int 0, .null, .null, .null]) (C := RX4) (T := TX4) (N := 6) hx hb hts inA4 tyX4 tyX4_ok hown (hts _ wd_cl_RL_10) (hts _ wd_inst_RX4) (hts _ wd_ini_RX4) hK hP hD hS hA rfl (by decide +kernel) (Nat.le_of_ble_eq_true rfl) (Nat.le_of_ble_eq_true rfl) dL_law_8 (fun z0 H hP hD hS => ?_)
  have hP : va_P D vwCl ((DW cI cC cQ x0 u.1 u.2.1 u.2.2.1 u.2.2.2.1 u.2.2.2.2.1 u.2.2.2.2.2.1.1 u.2.2.2.2.2.1.2.1 u.2.2.2.2.2.1.2.2 u.2.2.2.2.2.2.1 u.2.2.2.2.2.2.2.1 u.2.2.2.2.2.2.2.2 0 iniM iniM 0 0 iniM iniM iniM iniM (-4) (-4) (-4) (-4) (fun _ => 0) 0 0 0 (fun _ => 0) (fun _ => 0) (fun _ => 0) (fun _ => 0) (fun _ => 0)) ++ [(z0, .inr (4, [.null, .null, .int 0, .null, .null, .null]))]) H := hP
  have hD : va_D (fun q : Nat => s.heap.size ≤ q) ((DW cI cC cQ x0 u.1 u.2.1 u.2.2.1 u.2.2.2.1 u.2.2.2.2.1 u.2.2.2.2.2.1.1 u.2.2.2.2.2.1.2.1 u.2.2.2.2.2.1.2.2 u.2.2.2.2.2.2.1 u.2.2.2.2.2.2.2.1 u.2.2.2.2.2.2.2.2 0 iniM iniM 0 0 iniM iniM iniM iniM (-4) (-4) (-4) (-4) (fun _ => 0) 0 0 0 (fun _ => 0) (fun _ => 0) (fun _ => 0) (fun _ => 0) (fun _ => 0)) ++ [(z0, .inr (4, [.null, .null, .int 0, .null, .null, .null]))]) := hD
  refine W.widen (k := 84) (n := 518) (Nat.le_of_ble_eq_true rfl) (Nat.le_of_ble_eq_true rfl) ?_
  refine lv_dup hx hb dL_law_11 rfl ?_
  have hPs : va_P D vwCl ((DW cI cC cQ x0 u.1 u.2.1 u.2.2.1 u.2.2.2.1 u.2.2.2.2.1 u.2.2.2.2.2.1.1 u.2.2.2.2.2.1.2.1 u.2.2.2.2.2.1.2.2 u.2.2.2.2.2.2.1 u.2.2.2.2.2.2.2.1 u.2.2.2.2.2.2.2.2 0 iniM iniM 0 0 iniM iniM iniM iniM (-4) (-4) (-4) (-4) (fun _ => 0) 0 0 0 (fun _ => 0) (fun _ => 0) (fun _ => 0) (fun _ => 0) (fun _ => 0)) ++ ([(z0, .inr (4, [.null, .null, .int 0, .null, .null, .null]))] ++ ([] : va_W))) H := hP
  have hDs : va_D (fun q : Nat => s.heap.size ≤ q) ((DW cI cC cQ x0 u.1 u.2.1 u.2.2.1 u.2.2.2.1 u.2.2.2.2.1 u.2.2.2.2.2.1.1 u.2.2.2.2.2.1.2.1 u.2.2.2.2.2.1.2.2 u.2.2.2.2.2.2.1 u.2.2.2.2.2.2.2.1 u.2.2.2.2.2.2.2.2 0 iniM iniM 0 0 iniM iniM iniM iniM (-4) (-4) (-4) (-4) (fun _ => 0) 0 0 0 (fun _ => 0) (fun _ => 0) (fun _ => 0) (fun _ => 0) (fun _ => 0)) ++ ([(z0, .inr (4, [.null, .null, .int 0, .null, .null, .null]))] ++ ([] : va_W))) := hD
  refine k_behvN (X := (DW cI cC cQ x0 u.1 u.2.1 u.2.2.1 u.2.2.2.1 u.2.2.2.2.1 u.2.2.2.2.2.1.1 u.2.2.2.2.2.1.2.1 u.2.2.2.2.2.1.2.2 u.2.2.2.2.2.2.1 u.2.2.2.2.2.2.2.1 u.2.2.2.2.2.2.2.2 0 iniM iniM 0 0 iniM iniM iniM iniM (-4) (-4) (-4) (-4) (fun _ => 0) 0 0 0 (fun _ => 0) (fun _ => 0) (fun _ => 0) (fun _ => 0) (fun _ => 0))) (Y := []) (va_runI (As := []) (rest := [.ref z0]) ⟨hx, hb, hml, hown, hts⟩ (c_X4_init l D cI cC cQ H.size z0) (kcwI hts wd_ml_RL_91 wd_im_yX4_init wd_ini_RX4 wd_code_yX4_init rfl rfl rfl hd_X4_init ⟨Nat.le_of_ble_eq_true rfl, Nat.le_of_ble_eq_true rfl⟩) ⟨in_blind, k_pre hK (pa_l (pa_r hPs)) (da_l (da_r hDs)) hN⟩ rfl rfl hl.1 rfl (lv_room (Nat.le_of_ble_eq_true rfl)) dL_law_12 ⟨Nat.le_of_ble_eq_true rfl, Nat.le_of_ble_eq_true rfl⟩) hPs hDs hS hA (fun u2 H locs _ hP hD hS => ?_)
  have hP : va_P D vwCl ((DW cI cC cQ x0 u.1 u.2.1 u.2.2.1 u.2.2.2.1 u.2.2.2.2.1 u.2.2.2.2.2.1.1 u.2.2.2.2.2.1.2.1 u.2.2.2.2.2.1.2.2 u.2.2.2.2.2.2.1 u.2.2.2.2.2.2.2.1 u.2.2.2.2.2.2.2.2 0 iniM iniM 0 0 iniM iniM iniM iniM (-4) (-4) (-4) (-4) (fun _ => 0) 0 0 0 (fun _ => 0) (fun _ => 0) (fun _ => 0) (fun _ => 0) (fun _ => 0)) ++ ((DW cI cC cQ z0 u2.1 u2.2.1 u2.2.2.1 u2.2.2.2.1 u2.2.2.2.2.1 u2.2.2.2.2.2.1.1 u2.2.2.2.2.2.1.2.1 u2.2.2.2.2.2.1.2.2 u2.2.2.2.2.2.2.1 u2.2.2.2.2.2.2.2.1 u2.2.2.2.2.2.2.2.2 0 iniM iniM 0 0 iniM iniM iniM iniM (-4) (-4) (-4) (-4) (fun _ => 0) 0 0 0 (fun _ => 0) (fun _ => 0) (fun _ => 0) (fun _ => 0) (fun _ => 0)) ++ ([] : va_W))) H := hP
  have hD : va_D (fun q : Nat => s.heap.size ≤ q) ((DW cI cC cQ x0 u.1 u.2.1 u.2.2.1 u.2.2.2.1 u.2.2.2.2.1 u.2.2.2.2.2.1.1 u.2.2.2.2.2.1.2.1 u.2.2.2.2.2.1.2.2 u.2.2.2.2.2.2.1 u.2.2.2.2.2.2.2.1 u.2.2.2.2.2.2.2.2 0 iniM iniM 0 0 iniM iniM iniM iniM (-4) (-4) (-4) (-4) (fun _ => 0) 0 0 0 (fun _ => 0) (fun _ => 0) (fun _ => 0) (fun _ => 0) (fun _ => 0)) ++ ((DW cI cC cQ z0 u2.1 u2.2.1 u2.2.2.1 u2.2.2.2.1 u2.2.2.2.2.1 u2.2.2.2.2.2.1.1 u2.2.2.2.2.2.1.2.1 u2.2.2.2.2.2.1.2.2 u2.2.2.2.2.2.2.1 u2.2.2.2.2.2.2.2.1 u2.2.2.2.2.2.2.2.2 0 iniM iniM 0 0 iniM iniM iniM iniM (-4) (-4) (-4) (-4) (fun _ => 0) 0 0 0 (fun _ => 0) (fun _ => 0) (fun _ => 0) (fun _ => 0) (fun _ => 0)) ++ ([] : va_W))) := hD
  have hP := k_unendP hP
  have hD := k_unendD hD
  refine W.widen (k := 166) (n := 1024) (Nat.le_of_ble_eq_true rfl) (Nat.le_of_ble_eq_true rfl) ?_
  refine lv_astore_n (lv' := [(2, .ref z0), (1, .ref x0), (0, .ref b)]) hx hb dL_law_15 rfl hl (by decide) rfl (fun ls hl => ?_)
  have F : FxM p s m c #[Value.ref b] (fun q : Nat => s.heap.size ≤ q) D cI cC cQ cL_law 9 := ⟨hx, hb, hml, hown, hts, hN, hA, hK⟩
  have ig := ini_gd
  refine lg_0 F (gd_ok ig (by decide)) (gd_oo ig) ini_cnt ?_ H locs ls hP hD hS hl
  refine lw_loop F hZ hX hbl (hA0 b hbl) hL (fun H locs ls hS => ?_) 33 0 (by decide) (by decide) _ _ _ _ _ _ _ _ _ _ _ _ _ _ _ _ _ _ _ _ _ _ _ _ _ _ _ ig padr_0 ?_ ?_
  · refine va_forget (fun q hq => hS.2.2 q hq) ?_
    exact lw_ret (d0 := s.drawn) (Drawn.sameBut.refl s.drawn lw_cs) hx hb hr hlocks dL_law_510
  · exact alk_symm alk_u0
  · exact alk_symm alk_u0
