theorem k_out24 {x : Int32} (h0 : ¬ x = 0) (h1 : ¬ x = 1) (h2 : ¬ x = 2) (h3 : ¬ x = 3) (h4 : ¬ x = 4) (h5 : ¬ x = 5) (h6 : ¬ x = 6) (h7 : ¬ x = 7) (h8 : ¬ x = 8) (h9 : ¬ x = 9) (h10 : ¬ x = 10) (h11 : ¬ x = 11) (h12 : ¬ x = 12) (h13 : ¬ x = 13) (h14 : ¬ x = 14) (h15 : ¬ x = 15) (h16 : ¬ x = 16) (h17 : ¬ x = 17) (h18 : ¬ x = 18) (h19 : ¬ x = 19) (h20 : ¬ x = 20) (h21 : ¬ x = 21) (h22 : ¬ x = 22) (h23 : ¬ x = 23) : x.toInt < 0 ∨ 23 < x.toInt := by
  have h0 := k_ne h0
  rw [show (0 : Int32).toInt = 0 from rfl] at h0
  have h1 := k_ne h1
  rw [show (1 : Int32).toInt = 1 from rfl] at h1
  have h2 := k_ne h2
  rw [show (2 : Int32).toInt = 2 from rfl] at h2
  have h3 := k_ne h3
  rw [show (3 : Int32).toInt = 3 from rfl] at h3
  have h4 := k_ne h4
  rw [show (4 : Int32).toInt = 4 from rfl] at h4
  have h5 := k_ne h5
  rw [show (5 : Int32).toInt = 5 from rfl] at h5
  have h6 := k_ne h6
  rw [show (6 : Int32).toInt = 6 from rfl] at h6
  have h7 := k_ne h7
  rw [show (7 : Int32).toInt = 7 from rfl] at h7
  have h8 := k_ne h8
  rw [show (8 : Int32).toInt = 8 from rfl] at h8
  have h9 := k_ne h9
  rw [show (9 : Int32).toInt = 9 from rfl] at h9
  have h10 := k_ne h10
  rw [show (10 : Int32).toInt = 10 from rfl] at h10
  have h11 := k_ne h11
  rw [show (11 : Int32).toInt = 11 from rfl] at h11
  have h12 := k_ne h12
  rw [show (12 : Int32).toInt = 12 from rfl] at h12
  have h13 := k_ne h13
  rw [show (13 : Int32).toInt = 13 from rfl] at h13
  have h14 := k_ne h14
  rw [show (14 : Int32).toInt = 14 from rfl] at h14
  have h15 := k_ne h15
  rw [show (15 : Int32).toInt = 15 from rfl] at h15
  have h16 := k_ne h16
  rw [show (16 : Int32).toInt = 16 from rfl] at h16
  have h17 := k_ne h17
  rw [show (17 : Int32).toInt = 17 from rfl] at h17
  have h18 := k_ne h18
  rw [show (18 : Int32).toInt = 18 from rfl] at h18
  have h19 := k_ne h19
  rw [show (19 : Int32).toInt = 19 from rfl] at h19
  have h20 := k_ne h20
  rw [show (20 : Int32).toInt = 20 from rfl] at h20
  have h21 := k_ne h21
  rw [show (21 : Int32).toInt = 21 from rfl] at h21
  have h22 := k_ne h22
  rw [show (22 : Int32).toInt = 22 from rfl] at h22
  have h23 := k_ne h23
  rw [show (23 : Int32).toInt = 23 from rfl] at h23
  omega
set_option maxHeartbeats 40000000 in
set_option maxRecDepth 100000 in
theorem law_body {p : Program} {l : Launch} {e : Env} {s : State} {m : MethodId} {below : List Frame} {meth : Method} {c : Code} {b L : Nat} {xs : Nat → Int32} {D : va_G} {cI cC cQ : ClassId} {d0 n0 : Nat} {na : Nat → Nat} {s0 : Nat} {sa : Nat → Nat} {h1 h2 : Nat} {mm : Nat → Nat} {ma : Nat → Nat → Nat} {t0 p0 : Nat} {pA : Nat → Nat} {z0 : Nat} {za : Nat → Nat} {B : Int} {i : Int32} (F : FxL p s m meth c b L xs D cI cC cQ) (hi0 : vp_in i L) (hi : vp_in (i + 1) L ∧ vp_in (i + 2) L ∧ vp_in (i + 3) L ∧ vp_in (i + 4) L) (hB : B ≤ 400000000) (go : GoL p l e s m below meth c b D cI cC cQ d0 n0 na s0 sa h1 h2 mm ma t0 p0 pA z0 za 830 (B + 10000) i) : GoL p l e s m below meth c b D cI cC cQ d0 n0 na s0 sa h1 h2 mm ma t0 p0 pA z0 za 26 B i := by
  intro tk N S oo zz M0 M1 M2 M3 rs de pc pg sg ln po dd lt pl f1s s2s tms sv pa pn sn kp pd l2 so p2 wr l5 fr sc tm hd st H locs ls hrel hP hD hS hl
  obtain ⟨hx, hb, hr, hlocks, hml, hown, hts, hX, hbl, hN, hK, hZ⟩ := id F
  have hbA : ¬ (fun q : Nat => s.heap.size ≤ q) b := Nat.not_le.mpr hbl
  refine lv_aload_n hx hb dL_law_26 rfl (lv_at hl 3 rfl) ?_
  refine lv_iload_n hx hb dL_law_27 rfl (lv_at hl 0 rfl) ?_
  refine va_sld hx hb hX hbl hbA hS hi0 dL_law_28 ?_
  refine lv_bipush (v := 31) hx hb dL_law_29 (by decide) ?_
  refine lv_iand hx hb dL_law_31 ?_
  generalize xs i.toNatClampNeg &&& 31 = x
  by_cases c0 : x = 0
  · refine lv_tableIn (tgt := 144) hx hb dL_law_32 (by rw [c0]; decide) (by rw [c0]; decide) (by rw [c0] <;> rfl) (by decide) ?_
    exact law_0 F hi hB go tk N S oo zz M0 M1 M2 M3 rs de pc pg sg ln po dd lt pl f1s s2s tms sv pa pn sn kp pd l2 so p2 wr l5 fr sc tm hd st _ _ _ hrel hP hD hS hl
  by_cases c1 : x = 1
  · refine lv_tableIn (tgt := 177) hx hb dL_law_32 (by rw [c1]; decide) (by rw [c1]; decide) (by rw [c1] <;> rfl) (by decide) ?_
    exact law_1 F hi hB go tk N S oo zz M0 M1 M2 M3 rs de pc pg sg ln po dd lt pl f1s s2s tms sv pa pn sn kp pd l2 so p2 wr l5 fr sc tm hd st _ _ _ hrel hP hD hS hl
  by_cases c2 : x = 2
  · refine lv_tableIn (tgt := 200) hx hb dL_law_32 (by rw [c2]; decide) (by rw [c2]; decide) (by rw [c2] <;> rfl) (by decide) ?_
    exact law_2 F hi hB go tk N S oo zz M0 M1 M2 M3 rs de pc pg sg ln po dd lt pl f1s s2s tms sv pa pn sn kp pd l2 so p2 wr l5 fr sc tm hd st _ _ _ hrel hP hD hS hl
  by_cases c3 : x = 3
  · refine lv_tableIn (tgt := 233) hx hb dL_law_32 (by rw [c3]; decide) (by rw [c3]; decide) (by rw [c3] <;> rfl) (by decide) ?_
    exact law_3 F hi hB go tk N S oo zz M0 M1 M2 M3 rs de pc pg sg ln po dd lt pl f1s s2s tms sv pa pn sn kp pd l2 so p2 wr l5 fr sc tm hd st _ _ _ hrel hP hD hS hl
  by_cases c4 : x = 4
  · refine lv_tableIn (tgt := 256) hx hb dL_law_32 (by rw [c4]; decide) (by rw [c4]; decide) (by rw [c4] <;> rfl) (by decide) ?_
    exact law_4 F hi hB go tk N S oo zz M0 M1 M2 M3 rs de pc pg sg ln po dd lt pl f1s s2s tms sv pa pn sn kp pd l2 so p2 wr l5 fr sc tm hd st _ _ _ hrel hP hD hS hl
  by_cases c5 : x = 5
  · refine lv_tableIn (tgt := 289) hx hb dL_law_32 (by rw [c5]; decide) (by rw [c5]; decide) (by rw [c5] <;> rfl) (by decide) ?_
    exact law_5 F hi hB go tk N S oo zz M0 M1 M2 M3 rs de pc pg sg ln po dd lt pl f1s s2s tms sv pa pn sn kp pd l2 so p2 wr l5 fr sc tm hd st _ _ _ hrel hP hD hS hl
  by_cases c6 : x = 6
  · refine lv_tableIn (tgt := 322) hx hb dL_law_32 (by rw [c6]; decide) (by rw [c6]; decide) (by rw [c6] <;> rfl) (by decide) ?_
    exact law_6 F hi hB go tk N S oo zz M0 M1 M2 M3 rs de pc pg sg ln po dd lt pl f1s s2s tms sv pa pn sn kp pd l2 so p2 wr l5 fr sc tm hd st _ _ _ hrel hP hD hS hl
  by_cases c7 : x = 7
  · refine lv_tableIn (tgt := 345) hx hb dL_law_32 (by rw [c7]; decide) (by rw [c7]; decide) (by rw [c7] <;> rfl) (by decide) ?_
    exact law_7 F hi hB go tk N S oo zz M0 M1 M2 M3 rs de pc pg sg ln po dd lt pl f1s s2s tms sv pa pn sn kp pd l2 so p2 wr l5 fr sc tm hd st _ _ _ hrel hP hD hS hl
  by_cases c8 : x = 8
  · refine lv_tableIn (tgt := 358) hx hb dL_law_32 (by rw [c8]; decide) (by rw [c8]; decide) (by rw [c8] <;> rfl) (by decide) ?_
    exact law_8 F hi hB go tk N S oo zz M0 M1 M2 M3 rs de pc pg sg ln po dd lt pl f1s s2s tms sv pa pn sn kp pd l2 so p2 wr l5 fr sc tm hd st _ _ _ hrel hP hD hS hl
  by_cases c9 : x = 9
  · refine lv_tableIn (tgt := 371) hx hb dL_law_32 (by rw [c9]; decide) (by rw [c9]; decide) (by rw [c9] <;> rfl) (by decide) ?_
    exact law_9 F hi hB go tk N S oo zz M0 M1 M2 M3 rs de pc pg sg ln po dd lt pl f1s s2s tms sv pa pn sn kp pd l2 so p2 wr l5 fr sc tm hd st _ _ _ hrel hP hD hS hl
  by_cases c10 : x = 10
  · refine lv_tableIn (tgt := 384) hx hb dL_law_32 (by rw [c10]; decide) (by rw [c10]; decide) (by rw [c10] <;> rfl) (by decide) ?_
    exact law_10 F hi hB go tk N S oo zz M0 M1 M2 M3 rs de pc pg sg ln po dd lt pl f1s s2s tms sv pa pn sn kp pd l2 so p2 wr l5 fr sc tm hd st _ _ _ hrel hP hD hS hl
  by_cases c11 : x = 11
  · refine lv_tableIn (tgt := 407) hx hb dL_law_32 (by rw [c11]; decide) (by rw [c11]; decide) (by rw [c11] <;> rfl) (by decide) ?_
    exact law_11 F hi hB go tk N S oo zz M0 M1 M2 M3 rs de pc pg sg ln po dd lt pl f1s s2s tms sv pa pn sn kp pd l2 so p2 wr l5 fr sc tm hd st _ _ _ hrel hP hD hS hl
  by_cases c12 : x = 12
  · refine lv_tableIn (tgt := 440) hx hb dL_law_32 (by rw [c12]; decide) (by rw [c12]; decide) (by rw [c12] <;> rfl) (by decide) ?_
    exact law_12 F hi hB go tk N S oo zz M0 M1 M2 M3 rs de pc pg sg ln po dd lt pl f1s s2s tms sv pa pn sn kp pd l2 so p2 wr l5 fr sc tm hd st _ _ _ hrel hP hD hS hl
  by_cases c13 : x = 13
  · refine lv_tableIn (tgt := 473) hx hb dL_law_32 (by rw [c13]; decide) (by rw [c13]; decide) (by rw [c13] <;> rfl) (by decide) ?_
    exact law_13 F hi hB go tk N S oo zz M0 M1 M2 M3 rs de pc pg sg ln po dd lt pl f1s s2s tms sv pa pn sn kp pd l2 so p2 wr l5 fr sc tm hd st _ _ _ hrel hP hD hS hl
  by_cases c14 : x = 14
  · refine lv_tableIn (tgt := 516) hx hb dL_law_32 (by rw [c14]; decide) (by rw [c14]; decide) (by rw [c14] <;> rfl) (by decide) ?_
    exact law_14 F hi hB go tk N S oo zz M0 M1 M2 M3 rs de pc pg sg ln po dd lt pl f1s s2s tms sv pa pn sn kp pd l2 so p2 wr l5 fr sc tm hd st _ _ _ hrel hP hD hS hl
  by_cases c15 : x = 15
  · refine lv_tableIn (tgt := 539) hx hb dL_law_32 (by rw [c15]; decide) (by rw [c15]; decide) (by rw [c15] <;> rfl) (by decide) ?_
    exact law_15 F hi hB go tk N S oo zz M0 M1 M2 M3 rs de pc pg sg ln po dd lt pl f1s s2s tms sv pa pn sn kp pd l2 so p2 wr l5 fr sc tm hd st _ _ _ hrel hP hD hS hl
  by_cases c16 : x = 16
  · refine lv_tableIn (tgt := 562) hx hb dL_law_32 (by rw [c16]; decide) (by rw [c16]; decide) (by rw [c16] <;> rfl) (by decide) ?_
    exact law_16 F hi hB go tk N S oo zz M0 M1 M2 M3 rs de pc pg sg ln po dd lt pl f1s s2s tms sv pa pn sn kp pd l2 so p2 wr l5 fr sc tm hd st _ _ _ hrel hP hD hS hl
  by_cases c17 : x = 17
  · refine lv_tableIn (tgt := 603) hx hb dL_law_32 (by rw [c17]; decide) (by rw [c17]; decide) (by rw [c17] <;> rfl) (by decide) ?_
    exact law_17 F hi hB go tk N S oo zz M0 M1 M2 M3 rs de pc pg sg ln po dd lt pl f1s s2s tms sv pa pn sn kp pd l2 so p2 wr l5 fr sc tm hd st _ _ _ hrel hP hD hS hl
  by_cases c18 : x = 18
  · refine lv_tableIn (tgt := 662) hx hb dL_law_32 (by rw [c18]; decide) (by rw [c18]; decide) (by rw [c18] <;> rfl) (by decide) ?_
    exact law_18 F hi hB go tk N S oo zz M0 M1 M2 M3 rs de pc pg sg ln po dd lt pl f1s s2s tms sv pa pn sn kp pd l2 so p2 wr l5 fr sc tm hd st _ _ _ hrel hP hD hS hl
  by_cases c19 : x = 19
  · refine lv_tableIn (tgt := 715) hx hb dL_law_32 (by rw [c19]; decide) (by rw [c19]; decide) (by rw [c19] <;> rfl) (by decide) ?_
    exact law_19 F hi hB go tk N S oo zz M0 M1 M2 M3 rs de pc pg sg ln po dd lt pl f1s s2s tms sv pa pn sn kp pd l2 so p2 wr l5 fr sc tm hd st _ _ _ hrel hP hD hS hl
  by_cases c20 : x = 20
  · refine lv_tableIn (tgt := 748) hx hb dL_law_32 (by rw [c20]; decide) (by rw [c20]; decide) (by rw [c20] <;> rfl) (by decide) ?_
    exact law_20 F hi hB go tk N S oo zz M0 M1 M2 M3 rs de pc pg sg ln po dd lt pl f1s s2s tms sv pa pn sn kp pd l2 so p2 wr l5 fr sc tm hd st _ _ _ hrel hP hD hS hl
  by_cases c21 : x = 21
  · refine lv_tableIn (tgt := 791) hx hb dL_law_32 (by rw [c21]; decide) (by rw [c21]; decide) (by rw [c21] <;> rfl) (by decide) ?_
    exact law_21 F hi hB go tk N S oo zz M0 M1 M2 M3 rs de pc pg sg ln po dd lt pl f1s s2s tms sv pa pn sn kp pd l2 so p2 wr l5 fr sc tm hd st _ _ _ hrel hP hD hS hl
  by_cases c22 : x = 22
  · refine lv_tableIn (tgt := 804) hx hb dL_law_32 (by rw [c22]; decide) (by rw [c22]; decide) (by rw [c22] <;> rfl) (by decide) ?_
    exact law_22 F hi hB go tk N S oo zz M0 M1 M2 M3 rs de pc pg sg ln po dd lt pl f1s s2s tms sv pa pn sn kp pd l2 so p2 wr l5 fr sc tm hd st _ _ _ hrel hP hD hS hl
  by_cases c23 : x = 23
  · refine lv_tableIn (tgt := 817) hx hb dL_law_32 (by rw [c23]; decide) (by rw [c23]; decide) (by rw [c23] <;> rfl) (by decide) ?_
    exact law_23 F hi hB go tk N S oo zz M0 M1 M2 M3 rs de pc pg sg ln po dd lt pl f1s s2s tms sv pa pn sn kp pd l2 so p2 wr l5 fr sc tm hd st _ _ _ hrel hP hD hS hl
  refine lv_tableOut (tgt := 830) hx hb dL_law_32 (k_out24 c0 c1 c2 c3 c4 c5 c6 c7 c8 c9 c10 c11 c12 c13 c14 c15 c16 c17 c18 c19 c20 c21 c22 c23) (by decide) ?_
  exact go tk N S oo zz M0 M1 M2 M3 rs de pc pg sg ln po dd lt pl f1s s2s tms sv pa pn sn kp pd l2 so p2 wr l5 fr sc tm hd st _ _ _ (hrel.mono (by omega)) hP hD hS hl
set_option maxHeartbeats 40000000 in
set_option maxRecDepth 100000 in
theorem law_loop {p : Program} {l : Launch} {e : Env} {s : State} {m : MethodId} {below : List Frame} {meth : Method} {c : Code} {b L : Nat} {xs : Nat → Int32} {D : va_G} {cI cC cQ : ClassId} {d0 n0 : Nat} {na : Nat → Nat} {s0 : Nat} {sa : Nat → Nat} {h1 h2 : Nat} {mm : Nat → Nat} {ma : Nat → Nat → Nat} {t0 p0 : Nat} {pA : Nat → Nat} {z0 : Nat} {za : Nat → Nat} (hL : L ≤ 2560) (F : FxL p s m meth c b L xs D cI cC cQ) : ∀ (n j : Nat), L - j < n → j ≤ L + 5 → GoL p l e s m below meth c b D cI cC cQ d0 n0 na s0 sa h1 h2 mm ma t0 p0 pA z0 za 18 (2000 * j) (nI j) := by
  intro n
  induction n with
  | zero => intro j h; exact absurd h (Nat.not_lt_zero _)
  | succ n ih =>
    intro j hn hj tk N S oo zz M0 M1 M2 M3 rs de pc pg sg ln po dd lt pl f1s s2s tms sv pa pn sn kp pd l2 so p2 wr l5 fr sc tm hd st H locs ls hrel hP hD hS hl
    obtain ⟨hx, hb, hr, hlocks, hml, hown, hts, hX, hbl, hN, hK, hZ⟩ := id F
    have hbA : ¬ (fun q : Nat => s.heap.size ≤ q) b := Nat.not_le.mpr hbl
    have t5 : (5 : Int32).toInt = 5 := rfl
    have tL : (nI L).toInt = (L : Int) := nI_toInt (by omega)
    have tj : (nI j).toInt = (j : Int) := nI_toInt (by omega)
    have t5L : (nI L - 5).toInt = (L : Int) - 5 := by rw [isub_to (by omega) (by omega), tL, t5]
    refine lv_iload_n hx hb dL_law_18 rfl (lv_at hl 0 rfl) ?_
    refine lv_aload_n hx hb dL_law_19 rfl (lv_at hl 3 rfl) ?_
    refine va_slen hx hb hX hbl hbA hS dL_law_20 ?_
    refine lv_iconst (v := 5) hx hb dL_law_21 (by decide) ?_
    refine lv_isub hx hb dL_law_22 ?_
    refine lv_icmp_gt (tgt := 836) hx hb dL_law_23 (by decide) (fun g => ?_) (fun g => ?_)
    · refine lv_iconst (v := 1) hx hb dL_law_836 (by decide) ?_
      refine va_forget (fun q hq => hS.2.2 q hq) ?_
      exact lw_ret (d0 := s.drawn) (Drawn.sameBut.refl s.drawn lw_cs) hx hb hr hlocks dL_law_837
    · have g : ¬ nI L - 5 < nI j := g
      rw [Int32.lt_iff_toInt_lt, t5L, tj] at g
      have iv : ∀ k : Nat, k < 5 → vp_in (nI j + nI k) L := fun k hk => by
        rw [nI_add]; exact vp_in_nI (by omega) (by omega)
      have go : GoL p l e s m below meth c b D cI cC cQ d0 n0 na s0 sa h1 h2 mm ma t0 p0 pA z0 za 830 (2000 * j + 10000) (nI j) := by
        intro tk N S oo zz M0 M1 M2 M3 rs de pc pg sg ln po dd lt pl f1s s2s tms sv pa pn sn kp pd l2 so p2 wr l5 fr sc tm hd st H locs ls hrel hP hD hS hl
        refine lv_iinc (v := nI (j + 5)) (lv' := [(3, .int (nI (j + 5))), (2, .ref z0), (1, .ref d0), (0, .ref b)]) hx hb dL_law_830 hl (k := 0) rfl (by rw [← nI_add]; rfl) (by decide) rfl (fun ls hl => ?_)
        refine lv_goto (tgt := 18) hx hb dL_law_833 (by decide) ?_
        exact ih (j + 5) (by omega) (by omega) tk N S oo zz M0 M1 M2 M3 rs de pc pg sg ln po dd lt pl f1s s2s tms sv pa pn sn kp pd l2 so p2 wr l5 fr sc tm hd st _ _ _ (hrel.mono (by omega)) hP hD hS hl
      have i0 := iv 0 (by decide)
      rw [nI_add, Nat.add_zero] at i0
      exact law_body F i0 ⟨iv 1 (by decide), iv 2 (by decide), iv 3 (by decide), iv 4 (by decide)⟩ (by omega) go tk N S oo zz M0 M1 M2 M3 rs de pc pg sg ln po dd lt pl f1s s2s tms sv pa pn sn kp pd l2 so p2 wr l5 fr sc tm hd st _ _ _ hrel hP hD hS hl
