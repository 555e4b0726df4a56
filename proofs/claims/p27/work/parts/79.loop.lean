/-- at the head of the law's loop, with both objects in order and alike, the pads apart -/
def At78 (p : Program) (l : Launch) (e : Env) (s : State) (m : MethodId) (args : Array Value) (below : List Frame) (meth : Method) (c : Code) (A : Nat → Prop) (Q : State → Prop) (D : va_G) (cI cC cQ : ClassId) (d0 : Nat) (n0 : Nat) (na : Nat → Nat) (s0 : Nat) (sa : Nat → Nat) (h1 : Nat) (h2 : Nat) (mm : Nat → Nat) (ma : Nat → Nat → Nat) (t0 : Nat) (p0 : Nat) (pa : Nat → Nat) (d0q : Nat) (n0q : Nat) (naq : Nat → Nat) (s0q : Nat) (saq : Nat → Nat) (h1q : Nat) (h2q : Nat) (mmq : Nat → Nat) (maq : Nat → Nat → Nat) (t0q : Nat) (p0q : Nat) (paq : Nat → Nat) (b : Nat) (B : Int) (k : Int32) : Prop :=
  ∀ (tk : Int32) (N : TMa) (S : TMa) (oo : Int32) (zz : Int32) (M0 : TMa) (M1 : TMa) (M2 : TMa) (M3 : TMa) (rs : Int32) (de : Int32) (pc : Int32) (pg : Int32) (sg : Nat → Int32) (ln : Int32) (po : Int32) (dd : Int32) (lt : Nat → Int32) (pl : Nat → Int32) (f1s : Nat → Int32) (s2s : Nat → Int32) (tms : Nat → Int32) (lnq : Int32) (poq : Int32) (ddq : Int32) (ltq : Nat → Int32) (plq : Nat → Int32), Gd B tk N S oo zz M0 M1 M2 M3 rs de pc pg sg ln → padr sg sg lnq → alk lt ltq → alk pl plq → AtL p l e room_1 s m args below meth c A Q D 166 1024 9 ((DW cI cC cQ d0 n0 na s0 sa h1 h2 mm ma t0 p0 pa tk N S oo zz M0 M1 M2 M3 rs de pc pg sg ln po dd lt pl f1s s2s tms) ++ (DW cI cC cQ d0q n0q naq s0q saq h1q h2q mmq maq t0q p0q paq tk N S oo zz M0 M1 M2 M3 rs de pc pg sg lnq poq ddq ltq plq f1s s2s tms)) [(4, .int k), (3, .int 1), (2, .ref d0q), (1, .ref d0), (0, .ref b)] 78 []
theorem two_eqs {r1 r2 : Int32} {tk1 : Int32} {N1 : TMa} {S1 : TMa} {oo1 : Int32} {zz1 : Int32} {M01 : TMa} {M11 : TMa} {M21 : TMa} {M31 : TMa} {rs1 : Int32} {de1 : Int32} {pc1 : Int32} {pg1 : Int32} {sg1 : Nat → Int32} {ln1 : Int32} {po1 : Int32} {dd1 : Int32} {lt1 : Nat → Int32} {pl1 : Nat → Int32} {f1s1 : Nat → Int32} {s2s1 : Nat → Int32} {tms1 : Nat → Int32} {tk2 : Int32} {N2 : TMa} {S2 : TMa} {oo2 : Int32} {zz2 : Int32} {M02 : TMa} {M12 : TMa} {M22 : TMa} {M32 : TMa} {rs2 : Int32} {de2 : Int32} {pc2 : Int32} {pg2 : Int32} {sg2 : Nat → Int32} {ln2 : Int32} {po2 : Int32} {dd2 : Int32} {lt2 : Nat → Int32} {pl2 : Nat → Int32} {f1s2 : Nat → Int32} {s2s2 : Nat → Int32} {tms2 : Nat → Int32} (h : twoR (r1, tk1, N1, S1, oo1, zz1, M01, M11, M21, M31, rs1, de1, pc1, pg1, sg1, ln1, po1, dd1, lt1, pl1, f1s1, s2s1, tms1) (r2, tk2, N2, S2, oo2, zz2, M02, M12, M22, M32, rs2, de2, pc2, pg2, sg2, ln2, po2, dd2, lt2, pl2, f1s2, s2s2, tms2)) : r1 = r2 ∧ tk1 = tk2 ∧ N1 = N2 ∧ S1 = S2 ∧ oo1 = oo2 ∧ zz1 = zz2 ∧ M01 = M02 ∧ M11 = M12 ∧ M21 = M22 ∧ M31 = M32 ∧ rs1 = rs2 ∧ de1 = de2 ∧ pc1 = pc2 ∧ pg1 = pg2 ∧ sg1 = sg2 ∧ f1s1 = f1s2 ∧ s2s1 = s2s2 ∧ tms1 = tms2 ∧ alk lt1 lt2 ∧ alk pl1 pl2 := h
set_option maxHeartbeats 40000000 in
set_option maxRecDepth 100000 in
theorem lw_step {p : Program} {l : Launch} {e : Env} {s : State} {m : MethodId} {args : Array Value} {below : List Frame} {meth : Method} {c : Code} {A : Nat → Prop} {Q : State → Prop} {D : va_G} {cI cC cQ : ClassId} {d0 : Nat} {n0 : Nat} {na : Nat → Nat} {s0 : Nat} {sa : Nat → Nat} {h1 : Nat} {h2 : Nat} {mm : Nat → Nat} {ma : Nat → Nat → Nat} {t0 : Nat} {p0 : Nat} {pa : Nat → Nat} {d0q : Nat} {n0q : Nat} {naq : Nat → Nat} {s0q : Nat} {saq : Nat → Nat} {h1q : Nat} {h2q : Nat} {mmq : Nat → Nat} {maq : Nat → Nat → Nat} {t0q : Nat} {p0q : Nat} {paq : Nat → Nat} {b L : Nat} {xs : Nat → Int32} {B : Int} {k4 : Int32} (F : FxM p s m c args A D cI cC cQ cL_law 9) (hZ : stZ A s s.heap) (hX : va_X b L xs s s.heap) (hbl : b < s.heap.size) (hbA : ¬ A b) (hL : L ≤ 260) (hk : vp_in k4 33) (h32 : ¬ 32 ≤ k4) (hB : B ≤ 1000000) (go : At78 p l e s m args below meth c A Q D cI cC cQ d0 n0 na s0 sa h1 h2 mm ma t0 p0 pa d0q n0q naq s0q saq h1q h2q mmq maq t0q p0q paq b (B + 10000) (k4 + 1)) : At78 p l e s m args below meth c A Q D cI cC cQ d0 n0 na s0 sa h1 h2 mm ma t0 p0 pa d0q n0q naq s0q saq h1q h2q mmq maq t0q p0q paq b B k4 := by
  intro tk N S oo zz M0 M1 M2 M3 rs de pc pg sg ln po dd lt pl f1s s2s tms lnq poq ddq ltq plq G hpq a1 a2
  refine lg_1 F hZ hX hbl hbA hL hk h32 (gd_oo G) (gd_zz G) (gd_pad G) (fun cc r1 tk1 N1 S1 oo1 zz1 M01 M11 M21 M31 rs1 de1 pc1 pg1 sg1 ln1 po1 dd1 lt1 pl1 f1s1 s2s1 tms1 hc hw => ?_)
  refine lg_2 F hZ (gd_oo G) (gd_zz G) hpq hc (fun lnw pow ddw ltw plw hpw b1 b2 => ?_)
  have Gq : Gd B tk N S oo zz M0 M1 M2 M3 rs de pc pg sg lnw := gd_pads G hpw
  have G1 : GdR (B + 10000) (sh_L_acts tk N S oo zz M0 M1 M2 M3 rs de pc pg sg ln po dd lt pl f1s s2s tms cc) := acts_gd G (by omega)
  have Gq1 : GdR (B + 10000) (sh_L_acts tk N S oo zz M0 M1 M2 M3 rs de pc pg sg lnw pow ddw ltw plw f1s s2s tms cc) := acts_gd Gq (by omega)
  have T : twoR (sh_L_acts tk N S oo zz M0 M1 M2 M3 rs de pc pg sg ln po dd lt pl f1s s2s tms cc) (sh_L_acts tk N S oo zz M0 M1 M2 M3 rs de pc pg sg lnw pow ddw ltw plw f1s s2s tms cc) := acts_two (alk_trans a1 b1) (alk_trans a2 b2) hc
  rw [← hw] at G1 T
  refine lg_3 F hZ (gd_oo G) (gd_zz G) hpw T (fun r2 tk2 N2 S2 oo2 zz2 M02 M12 M22 M32 rs2 de2 pc2 pg2 sg2 ln2 po2 dd2 lt2 pl2 f1s2 s2s2 tms2 hw2 => ?_)
  rw [← hw2] at Gq1 T
  clear hw hw2
  have g1 : Gd (B + 10000) tk1 N1 S1 oo1 zz1 M01 M11 M21 M31 rs1 de1 pc1 pg1 sg1 ln1 := G1
  have gq1 : Gd (B + 10000) tk2 N2 S2 oo2 zz2 M02 M12 M22 M32 rs2 de2 pc2 pg2 sg2 ln2 := Gq1
  have pq := gd_pad gq1
  obtain ⟨_, e_tk, e_N, e_S, e_oo, e_zz, e_M0, e_M1, e_M2, e_M3, e_rs, e_de, e_pc, e_pg, e_sg, e_f1s, e_s2s, e_tms, t1, t2⟩ := two_eqs T
  clear T G1 Gq1 gq1
  subst e_tk e_N e_S e_oo e_zz e_M0 e_M1 e_M2 e_M3 e_rs e_de e_pc e_pg e_sg e_f1s e_s2s e_tms
  exact lg_4 F (gd_ok g1 (by omega)) (gd_oo g1) (gd_zz g1) (go _ _ _ _ _ _ _ _ _ _ _ _ _ _ _ _ _ _ _ _ _ _ _ _ _ _ _ g1 pq t1 t2)
set_option maxHeartbeats 40000000 in
set_option maxRecDepth 100000 in
theorem lw_tail {p : Program} {l : Launch} {e : Env} {s : State} {m : MethodId} {args : Array Value} {below : List Frame} {meth : Method} {c : Code} {A : Nat → Prop} {Q : State → Prop} {D : va_G} {cI cC cQ : ClassId} {d0 : Nat} {n0 : Nat} {na : Nat → Nat} {s0 : Nat} {sa : Nat → Nat} {h1 : Nat} {h2 : Nat} {mm : Nat → Nat} {ma : Nat → Nat → Nat} {t0 : Nat} {p0 : Nat} {pa : Nat → Nat} {d0q : Nat} {n0q : Nat} {naq : Nat → Nat} {s0q : Nat} {saq : Nat → Nat} {h1q : Nat} {h2q : Nat} {mmq : Nat → Nat} {maq : Nat → Nat → Nat} {t0q : Nat} {p0q : Nat} {paq : Nat → Nat} {b L : Nat} {xs : Nat → Int32} {B : Int} {k4 : Int32} (F : FxM p s m c args A D cI cC cQ cL_law 9) (hZ : stZ A s s.heap) (hX : va_X b L xs s s.heap) (hbl : b < s.heap.size) (hbA : ¬ A b) (hL : L ≤ 260) (h32 : 32 ≤ k4) (hB : B ≤ 1000000) (fin : ∀ (H : Heap) (locs : List Loc) (ls : Array Slot), va_S A s.heap H locs → W p l e room_1 s m args below meth c H locs 166 1024 Q (F0 m 510 ls [.int 1])) : At78 p l e s m args below meth c A Q D cI cC cQ d0 n0 na s0 sa h1 h2 mm ma t0 p0 pa d0q n0q naq s0q saq h1q h2q mmq maq t0q p0q paq b B k4 := by
  intro tk N S oo zz M0 M1 M2 M3 rs de pc pg sg ln po dd lt pl f1s s2s tms lnq poq ddq ltq plq G hpq a1 a2
  refine lg_5 F hX hbl hbA hL h32 (fun dg hd => ?_)
  refine lg_6 F hd ?_
  have finish : ∀ (k8 la mq : Int32) (Nv : TMa) (oov : Int32) (zzv : Int32) (M0v : TMa) (M1v : TMa) (M2v : TMa) (M3v : TMa), ((jobF N pl f1s s2s tms dg).1 = mq ∧ (jobF N pl f1s s2s tms dg).2.1 = Nv ∧ (10 ≤ la → (jobF N pl f1s s2s tms dg).2.2.1 = -4 ∧ (jobF N pl f1s s2s tms dg).2.2.2.2.2 = -4) ∧ (¬ 10 ≤ la → (jobF N pl f1s s2s tms dg).2.2.1 = la ∧ (jobF N pl f1s s2s tms dg).2.2.2.2.2 = mq)) → AtL p l e room_1 s m args below meth c A Q D 166 1024 9 ((DW cI cC cQ d0 n0 na s0 sa h1 h2 mm ma t0 p0 pa tk N S oo zz M0 M1 M2 M3 rs de pc pg (padJ sg dg) 7 po dd lt pl f1s s2s tms) ++ (DW cI cC cQ d0q n0q naq s0q saq h1q h2q mmq maq t0q p0q paq tk Nv S oov zzv M0v M1v M2v M3v rs de pc pg sg lnq poq ddq ltq plq f1s s2s tms)) [(8, .int k8), (7, .int la), (6, .int mq), (5, .int dg), (4, .int 7), (3, .int 1), (2, .ref d0q), (1, .ref d0), (0, .ref b)] 318 [] := by
    intro k8 la mq Nv oov zzv M0v M1v M2v M3v hx
    have hx := hx
    have GJ : Gd B tk N S oo zz M0 M1 M2 M3 rs de pc pg (padJ sg dg) 7 := gd_pads G (pj_pad hd)
    refine lg_10 F (gd_oo G) (gd_zz G) (pj_pad hd) (fun hR => ?_) (fun r1 N1 oo1 zz1 M01 M11 M21 M31 rs1 de1 pc1 pg1 ln1 po1 dd1 lt1 pl1 f1s1 s2s1 tms1 hw => ?_)
    · obtain ⟨x1, x2, x3, x4⟩ := run_job hd hR
      rw [x1, x2, x3, x4]
      exact hx
    · have hn1 := (run_job hd hw).2.1.trans hx.2.1
      have g1 := gd_run GJ (by omega) hw
      clear hw hx
      have hn1 : N1 = Nv := hn1
      have g1 : Gd (B + 10000) tk N1 S oo1 zz1 M01 M11 M21 M31 rs1 de1 pc1 pg1 (padJ sg dg) ln1 := g1
      subst hn1
      have L6 : ∀ (fu : Nat) (k8 : Int32), ((6 : Int32).toInt - k8.toInt).toNat < fu → AtL p l e room_1 s m args below meth c A Q D 166 1024 9 ((DW cI cC cQ d0 n0 na s0 sa h1 h2 mm ma t0 p0 pa tk N1 S oo1 zz1 M01 M11 M21 M31 rs1 de1 pc1 pg1 (padJ sg dg) ln1 po1 dd1 lt1 pl1 f1s1 s2s1 tms1) ++ (DW cI cC cQ d0q n0q naq s0q saq h1q h2q mmq maq t0q p0q paq tk N1 S oov zzv M0v M1v M2v M3v rs de pc pg sg lnq poq ddq ltq plq f1s s2s tms)) [(8, .int k8), (3, .int 1), (2, .ref d0q), (1, .ref d0), (0, .ref b)] 391 [] := by
        intro fu
        induction fu with
        | zero => intro k8 h; exact absurd h (Nat.not_lt_zero _)
        | succ fu ih =>
          intro k8 hmu
          by_cases h6 : 6 ≤ k8
          · exact lg_12 F (gd_ok g1 (by omega)) (gd_oo g1) (gd_zz g1) h6 (fun H locs ls hP hD hS hl => fin H locs ls hS)
          · exact lg_11 F h6 (ih _ (k_mu hmu h6))
      exact L6 _ 0 (Nat.lt_succ_self _)
  have L7 : ∀ (fu j : Nat) (la : Int32) (Nv : TMa) (oov : Int32) (zzv : Int32) (M0v : TMa) (M1v : TMa) (M2v : TMa) (M3v : TMa), j ≤ 7 → 7 - j < fu → Gd (B + 10000 * j) tk Nv S oov zzv M0v M1v M2v M3v rs de pc pg sg lnq → ¬ la < 10 → (jobF N pl f1s s2s tms dg) = jobX Nv pl f1s s2s tms dg fu (nI j) → AtL p l e room_1 s m args below meth c A Q D 166 1024 9 ((DW cI cC cQ d0 n0 na s0 sa h1 h2 mm ma t0 p0 pa tk N S oo zz M0 M1 M2 M3 rs de pc pg (padJ sg dg) 7 po dd lt pl f1s s2s tms) ++ (DW cI cC cQ d0q n0q naq s0q saq h1q h2q mmq maq t0q p0q paq tk Nv S oov zzv M0v M1v M2v M3v rs de pc pg sg lnq poq ddq ltq plq f1s s2s tms)) [(8, .int (nI j)), (7, .int la), (6, .int (nI j)), (5, .int dg), (4, .int 7), (3, .int 1), (2, .ref d0q), (1, .ref d0), (0, .ref b)] 269 [] := by
    intro fu
    induction fu with
    | zero => intro j la Nv oov zzv M0v M1v M2v M3v _ h; exact absurd h (Nat.not_lt_zero _)
    | succ fu ih =>
      intro j la Nv oov zzv M0v M1v M2v M3v hj hf Gq hla hx
      have tn : (10 : Int32).toInt = 10 := rfl
      have sv : (7 : Int32).toInt = 7 := rfl
      have tj : (nI j).toInt = (j : Int) := nI_toInt (by omega)
      by_cases c7 : 7 ≤ nI j
      · refine lg_8 F c7 ?_
        rw [jobX_end c7] at hx
        have ej : (7 : Int32) = nI j := by
          rw [Int32.le_iff_toInt_le] at c7
          exact Int32.toInt_inj.mp (by omega)
        refine finish _ _ _ Nv oov zzv M0v M1v M2v M3v ?_
        rw [hx]
        refine ⟨ej, rfl, fun _ => ⟨rfl, rfl⟩, fun h => absurd ?_ h⟩
        rw [Int32.lt_iff_toInt_lt] at hla
        rw [Int32.le_iff_toInt_le]; omega
      · refine lg_7 F (gd_oo Gq) (gd_zz Gq) c7 hla (fun r1 N1 oo1 zz1 M01 M11 M21 M31 v hw hv => ?_)
        have st := hx.trans (jobX_step (pl := pl) (f1s := f1s) (s2s := s2s) (tms := tms) (fu := fu) hd c7 hw)
        have Gq1 := gd_print Gq (by omega) hw
        have Gq1 : Gd (B + 10000 * j + 10000) tk N1 S oo1 zz1 M01 M11 M21 M31 rs de pc pg sg lnq := Gq1
        have st : (jobF N pl f1s s2s tms dg) = if 10 ≤ r1 then jobX N1 pl f1s s2s tms dg fu (nI j + 1) else (nI j, N1, r1, 0, 0, nI j) := st
        clear hw hx
        have tr := r1.toInt
        by_cases c10 : 10 ≤ r1
        · have nl : ¬ r1 < 10 := by
            rw [Int32.le_iff_toInt_le] at c10
            rw [Int32.lt_iff_toInt_lt]; omega
          rw [if_neg nl] at hv
          rw [if_pos c10, nI_up] at st
          rw [hv, nI_up]
          have j7 : j < 7 := by
            rw [Int32.le_iff_toInt_le] at c7
            omega
          exact ih (j + 1) r1 N1 oo1 zz1 M01 M11 M21 M31 (by omega) (by omega) (gd_mono Gq1 (by omega)) nl st
        · have l10 : r1 < 10 := by
            rw [Int32.le_iff_toInt_le] at c10
            rw [Int32.lt_iff_toInt_lt]; omega
          rw [if_pos l10] at hv
          rw [if_neg c10] at st
          rw [hv, Int32.add_zero]
          have fx : (jobF N pl f1s s2s tms dg).1 = nI j ∧ (jobF N pl f1s s2s tms dg).2.1 = N1 ∧ (10 ≤ r1 → (jobF N pl f1s s2s tms dg).2.2.1 = -4 ∧ (jobF N pl f1s s2s tms dg).2.2.2.2.2 = -4) ∧ (¬ 10 ≤ r1 → (jobF N pl f1s s2s tms dg).2.2.1 = r1 ∧ (jobF N pl f1s s2s tms dg).2.2.2.2.2 = nI j) := by
            rw [st]
            exact ⟨rfl, rfl, fun h => absurd h c10, fun _ => ⟨rfl, rfl⟩⟩
          by_cases c77 : 7 ≤ nI j + 1
          · exact lg_8 F c77 (finish _ _ _ N1 oo1 zz1 M01 M11 M21 M31 fx)
          · exact lg_9 F c77 l10 (finish _ _ _ N1 oo1 zz1 M01 M11 M21 M31 fx)
  exact L7 (((7 : Int32).toInt - (0 : Int32).toInt).toNat + 1) 0 10 N oo zz M0 M1 M2 M3 (by decide) (by decide) (gd_mono (gd_pads G hpq) (by omega)) (by decide) rfl
set_option maxHeartbeats 40000000 in
set_option maxRecDepth 100000 in
theorem lw_loop {p : Program} {l : Launch} {e : Env} {s : State} {m : MethodId} {args : Array Value} {below : List Frame} {meth : Method} {c : Code} {A : Nat → Prop} {Q : State → Prop} {D : va_G} {cI cC cQ : ClassId} {d0 : Nat} {n0 : Nat} {na : Nat → Nat} {s0 : Nat} {sa : Nat → Nat} {h1 : Nat} {h2 : Nat} {mm : Nat → Nat} {ma : Nat → Nat → Nat} {t0 : Nat} {p0 : Nat} {pa : Nat → Nat} {d0q : Nat} {n0q : Nat} {naq : Nat → Nat} {s0q : Nat} {saq : Nat → Nat} {h1q : Nat} {h2q : Nat} {mmq : Nat → Nat} {maq : Nat → Nat → Nat} {t0q : Nat} {p0q : Nat} {paq : Nat → Nat} {b L : Nat} {xs : Nat → Int32} (F : FxM p s m c args A D cI cC cQ cL_law 9) (hZ : stZ A s s.heap) (hX : va_X b L xs s s.heap) (hbl : b < s.heap.size) (hbA : ¬ A b) (hL : L ≤ 260) (fin : ∀ (H : Heap) (locs : List Loc) (ls : Array Slot), va_S A s.heap H locs → W p l e room_1 s m args below meth c H locs 166 1024 Q (F0 m 510 ls [.int 1])) : ∀ (n k : Nat), 32 - k < n → k ≤ 32 → At78 p l e s m args below meth c A Q D cI cC cQ d0 n0 na s0 sa h1 h2 mm ma t0 p0 pa d0q n0q naq s0q saq h1q h2q mmq maq t0q p0q paq b (10000 * k) (nI k) := by
  intro n
  induction n with
  | zero => intro k h; exact absurd h (Nat.not_lt_zero _)
  | succ n ih =>
    intro k hn hk
    have t32 : (32 : Int32).toInt = 32 := rfl
    have tk : (nI k).toInt = (k : Int) := nI_toInt (by omega)
    by_cases c : 32 ≤ nI k
    · exact lw_tail F hZ hX hbl hbA hL c (by omega) fin
    · have c2 := c
      rw [Int32.le_iff_toInt_le] at c2
      have I := ih (k + 1) (by omega) (by omega)
      rw [← nI_up, show (10000 * ((k + 1 : Nat) : Int)) = 10000 * (k : Int) + 10000 by omega] at I
      exact lw_step F hZ hX hbl hbA hL (vp_in_nI (by omega) (by decide)) c (by omega) I
