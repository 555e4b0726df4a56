/-- the digit of the law's last job -/
def dgR (d : Int32) : Prop := 1 ≤ d.toInt ∧ d.toInt ≤ 9
theorem dg_of {c : Int32} (h : ¬ c < 0) : dgR (1 + (c - c / 9 * 9)) := by
  rw [Int32.lt_iff_toInt_lt] at h
  obtain ⟨n, hn, rfl⟩ := ige_of (x := c) (by have z : (0 : Int32).toInt = 0 := rfl; omega)
  have m := Nat.mod_lt n (show 0 < 9 by decide)
  unfold dgR
  rw [show (9 : Int32) = nI 9 from rfl, pk_rem hn (by decide) (by decide), show (1 : Int32) = nI 1 from rfl, nI_add, nI_toInt (by omega)]
  omega
theorem dg_cases {d : Int32} (h : dgR d) : d = 1 ∨ d = 2 ∨ d = 3 ∨ d = 4 ∨ d = 5 ∨ d = 6 ∨ d = 7 ∨ d = 8 ∨ d = 9 := by
  unfold dgR at h
  have e : ∀ k : Int32, d.toInt = k.toInt → d = k := fun k h => Int32.toInt_inj.mp h
  have e1 : (1 : Int32).toInt = 1 := rfl
  have e2 : (2 : Int32).toInt = 2 := rfl
  have e3 : (3 : Int32).toInt = 3 := rfl
  have e4 : (4 : Int32).toInt = 4 := rfl
  have e5 : (5 : Int32).toInt = 5 := rfl
  have e6 : (6 : Int32).toInt = 6 := rfl
  have e7 : (7 : Int32).toInt = 7 := rfl
  have e8 : (8 : Int32).toInt = 8 := rfl
  have e9 : (9 : Int32).toInt = 9 := rfl
  rcases (show d.toInt = 1 ∨ d.toInt = 2 ∨ d.toInt = 3 ∨ d.toInt = 4 ∨ d.toInt = 5 ∨ d.toInt = 6 ∨ d.toInt = 7 ∨ d.toInt = 8 ∨ d.toInt = 9 by omega) with h | h | h | h | h | h | h | h | h
  · exact Or.inl (e 1 (by omega))
  · exact Or.inr (Or.inl (e 2 (by omega)))
  · exact Or.inr (Or.inr (Or.inl (e 3 (by omega))))
  · exact Or.inr (Or.inr (Or.inr (Or.inl (e 4 (by omega)))))
  · exact Or.inr (Or.inr (Or.inr (Or.inr (Or.inl (e 5 (by omega))))))
  · exact Or.inr (Or.inr (Or.inr (Or.inr (Or.inr (Or.inl (e 6 (by omega)))))))
  · exact Or.inr (Or.inr (Or.inr (Or.inr (Or.inr (Or.inr (Or.inl (e 7 (by omega))))))))
  · exact Or.inr (Or.inr (Or.inr (Or.inr (Or.inr (Or.inr (Or.inr (Or.inl (e 8 (by omega)))))))))
  · exact Or.inr (Or.inr (Or.inr (Or.inr (Or.inr (Or.inr (Or.inr (Or.inr (e 9 (by omega)))))))))
theorem app_at {sg : Nat → Int32} {k j x : Int32} (e : k + 1 = j) (hl : vp_in k 60) (h1 : 33 ≤ x.toInt) (h2 : x.toInt ≤ 126) : sh_X4_append sg k x = (j, upd sg k.toNatClampNeg x, j) := by
  have o : (33 : Int32).toInt = 33 := rfl
  have f : (126 : Int32).toInt = 126 := rfl
  have s : (60 : Int32).toInt = 60 := rfl
  have v := vp_in_iff.mp hl
  have hr : sh_X2_hasRoom k = 1 := by
    unfold sh_X2_hasRoom
    rw [if_neg]
    rw [Int32.le_iff_toInt_le]; omega
  obtain ⟨n, hn, en⟩ := ige_of (x := x) (by omega)
  have n2 : n < 127 := by rw [en, nI_toInt hn] at h2; omega
  subst e
  unfold sh_X4_append
  rw [if_neg (by rw [Int32.lt_iff_toInt_lt]; omega), if_pos (by rw [Int32.le_iff_toInt_le]; omega), if_neg (by rw [hr]; decide), show (x.toUInt32 % 65536).toInt32 = x by rw [en]; exact i2c_id n n2]
  simp only [kb]
  unfold sh_X2_add
  rw [if_neg (by rw [hr]; decide), show vp_nar .char x = x by rw [en]; exact nar_id n n2]
/-- the law's last job: p1:d0x7 -/
def padJ (sg : Nat → Int32) (dg : Int32) : Nat → Int32 := (upd (upd (upd (upd (upd (upd (upd sg (0 : Int32).toNatClampNeg 112) (1 : Int32).toNatClampNeg 49) (2 : Int32).toNatClampNeg 58) (3 : Int32).toNatClampNeg (48 + dg)) (4 : Int32).toNatClampNeg 48) (5 : Int32).toNatClampNeg 120) (6 : Int32).toNatClampNeg 55)
section PJ
variable {sg lt pl f1s s2s tms : Nat → Int32} {dg : Int32}
theorem pj_0 : padJ sg dg 0 = 112 := rfl
theorem pj_1 : padJ sg dg 1 = 49 := rfl
theorem pj_2 : padJ sg dg 2 = 58 := rfl
theorem pj_3 : padJ sg dg 3 = 48 + dg := rfl
theorem pj_4 : padJ sg dg 4 = 48 := rfl
theorem pj_5 : padJ sg dg 5 = 120 := rfl
theorem pj_6 : padJ sg dg 6 = 55 := rfl
theorem dg_ch (h : dgR dg) : 33 ≤ (48 + dg).toInt ∧ (48 + dg).toInt ≤ 126 := by
  have e : (48 : Int32).toInt = 48 := rfl
  unfold dgR at h
  rw [iadd_to (by omega) (by omega)]
  omega
theorem pj_pad (h : dgR dg) : padr (padJ sg dg) (padJ sg dg) 7 := by
  refine ⟨k_in (by decide), fun i hi => ⟨rfl, ?_⟩⟩
  rw [show (7 : Int32).toInt = 7 from rfl] at hi
  rcases (show i = 0 ∨ i = 1 ∨ i = 2 ∨ i = 3 ∨ i = 4 ∨ i = 5 ∨ i = 6 by omega) with rfl | rfl | rfl | rfl | rfl | rfl | rfl
  · rw [pj_0]; decide
  · rw [pj_1]; decide
  · rw [pj_2]; decide
  · rw [pj_3]; exact dg_ch h
  · rw [pj_4]; decide
  · rw [pj_5]; decide
  · rw [pj_6]; decide
theorem rd_at {ln po x po1 : Int32} (h : ¬ ln ≤ po) (e : sg po.toNatClampNeg = x) (e1 : po + 1 = po1) : sh_X2_read sg ln po x = (1, po1) := by
  unfold sh_X2_read
  rw [if_neg h, if_pos e, e1]
theorem rn_up {ln x y n i q n1 i1 : Int32} {fu : Nat} (h : ¬ ln ≤ i) (h1 : ¬ sg i.toNatClampNeg - 48 < 0) (h2 : ¬ 9 < sg i.toNatClampNeg - 48) (h3 : ¬ 10 * n + (sg i.toNatClampNeg - 48) = 0) (h4 : 10 * n + (sg i.toNatClampNeg - 48) ≤ y) (e1 : 10 * n + (sg i.toNatClampNeg - 48) = n1) (e2 : i + 1 = i1) :
    lp_X2_readNumber_8 sg ln x y (fu + 1) n i q = lp_X2_readNumber_8 sg ln x y fu n1 i1 i1 := by
  rw [lp_X2_readNumber_8, if_neg h, if_neg h1, if_neg h2, if_neg h3, if_pos h4, e1, e2]
theorem rn_st {ln x y n i q : Int32} {fu : Nat} (h : ¬ ln ≤ i) (h1 : ¬ sg i.toNatClampNeg - 48 < 0) (h2 : 9 < sg i.toNatClampNeg - 48) (h3 : ¬ n < x) :
    lp_X2_readNumber_8 sg ln x y (fu + 1) n i q = (n, q) := by
  rw [lp_X2_readNumber_8, if_neg h, if_neg h1, if_pos h2, if_neg h3]
theorem rn_en {ln x y n i q : Int32} {fu : Nat} (h : ln ≤ i) (h3 : ¬ n < x) : lp_X2_readNumber_8 sg ln x y (fu + 1) n i q = (n, q) := by
  rw [lp_X2_readNumber_8, if_pos h, if_neg h3]
theorem dg_48 : 48 + dg - 48 = dg := by rw [Int32.add_comm, Int32.add_sub_cancel]
theorem kbr {α β : Type} {x y : α} {f : α → β} (e : x = y) : kb x f = f y := by rw [e]; rfl
theorem lpff {ln s1 m2 po dd : Int32} {fu : Nat} (h30 : ¬ 30 ≤ m2) (hs : ¬ s1 = 0) (r : sh_X2_read sg ln po 59 = (0, po)) (e : po = ln) : lp_X2_findFault_17 sg ln (fu + 1) s1 m2 po dd lt pl f1s s2s tms = (-4, po, dd, lt, pl, f1s, s2s, tms) := by
  rw [lp_X2_findFault_17, if_neg h30, if_neg hs]
  refine (kbr r).trans ?_
  refine (if_pos rfl).trans ?_
  refine (if_neg hs).trans ?_
  exact if_pos e
theorem ff_job (h : dgR dg) : sh_X2_findFault (padJ sg dg) 7 lt pl f1s s2s tms = (-4, 7, 1, upd lt (0 : Int32).toNatClampNeg (vp_nar .char 112), upd pl (0 : Int32).toNatClampNeg 0, upd f1s (0 : Int32).toNatClampNeg 1, upd s2s (0 : Int32).toNatClampNeg (10 * dg), upd tms (0 : Int32).toNatClampNeg 7) := by
  have r0 : sh_X2_read (padJ sg dg) 7 0 112 = (1, 1) := rd_at (by decide) rfl (by decide)
  have r1 : sh_X2_readBelow (padJ sg dg) 7 1 2 = (1, 2) := by
    unfold sh_X2_readBelow
    rw [if_neg (by decide), show (1 : Int32).toNatClampNeg = 1 from rfl, pj_1]
    simp only [kb]
    rw [if_neg (by decide), if_pos (by decide)]
    rfl
  have r2 : sh_X2_read (padJ sg dg) 7 2 58 = (1, 3) := rd_at (by decide) rfl (by decide)
  have r3 : sh_X2_readNumber (padJ sg dg) 7 3 1 999 = (10 * dg, 5) := by
    have g := h
    have c := dg_cases h
    unfold sh_X2_readNumber
    have u1 : ∀ fu q, lp_X2_readNumber_8 (padJ sg dg) 7 1 999 (fu + 1) 0 3 q = lp_X2_readNumber_8 (padJ sg dg) 7 1 999 fu dg 4 4 := fun fu q => by
      refine rn_up (by decide) ?_ ?_ ?_ ?_ ?_ (by decide) <;> (rw [show (3 : Int32).toNatClampNeg = 3 from rfl, pj_3, dg_48]; rcases c with rfl | rfl | rfl | rfl | rfl | rfl | rfl | rfl | rfl <;> decide)
    have u2 : ∀ fu q, lp_X2_readNumber_8 (padJ sg dg) 7 1 999 (fu + 1) dg 4 q = lp_X2_readNumber_8 (padJ sg dg) 7 1 999 fu (10 * dg) 5 5 := fun fu q => by
      refine rn_up (by decide) ?_ ?_ ?_ ?_ ?_ (by decide) <;> (rw [show (4 : Int32).toNatClampNeg = 4 from rfl, pj_4]; rcases c with rfl | rfl | rfl | rfl | rfl | rfl | rfl | rfl | rfl <;> decide)
    have u3 : ∀ fu q, lp_X2_readNumber_8 (padJ sg dg) 7 1 999 (fu + 1) (10 * dg) 5 q = (10 * dg, q) := fun fu q => by
      refine rn_st (by decide) ?_ ?_ ?_
      · rw [show (5 : Int32).toNatClampNeg = 5 from rfl, pj_5]; decide
      · rw [show (5 : Int32).toNatClampNeg = 5 from rfl, pj_5]; decide
      · rcases c with rfl | rfl | rfl | rfl | rfl | rfl | rfl | rfl | rfl <;> decide
    rw [show ((7 : Int32).toInt - (3 : Int32).toInt).toNat + 1 = 2 + 1 + 1 + 1 from by decide, u1, u2, u3]
  have r4 : sh_X2_read (padJ sg dg) 7 5 120 = (1, 6) := rd_at (by decide) rfl (by decide)
  have r5 : sh_X2_readNumber (padJ sg dg) 7 6 2 50 = (7, 7) := by
    unfold sh_X2_readNumber
    rw [show ((7 : Int32).toInt - (6 : Int32).toInt).toNat + 1 = 0 + 1 + 1 from by decide]
    have u1 : ∀ fu q, lp_X2_readNumber_8 (padJ sg dg) 7 2 50 (fu + 1) 0 6 q = lp_X2_readNumber_8 (padJ sg dg) 7 2 50 fu 7 7 7 := fun fu q => by
      refine rn_up (by decide) ?_ ?_ ?_ ?_ ?_ (by decide) <;> (rw [show (6 : Int32).toNatClampNeg = 6 from rfl, pj_6]; decide)
    rw [u1, rn_en (by decide) (by decide)]
  have n4 : ¬ 10 * dg = -4 := by
    rcases dg_cases h with rfl | rfl | rfl | rfl | rfl | rfl | rfl | rfl | rfl <;> decide
  have p : ∀ dd, sh_X2_readPrinting (padJ sg dg) 7 1 dd f1s s2s tms = (1, 7, upd f1s dd.toNatClampNeg 1, upd s2s dd.toNatClampNeg (10 * dg), upd tms dd.toNatClampNeg 7) := fun dd => by
    unfold sh_X2_readPrinting
    refine (kbr r1).trans ?_
    refine (if_neg (by decide)).trans ?_
    refine (kbr r2).trans ?_
    refine (if_neg (by decide)).trans ?_
    refine (kbr r3).trans ?_
    refine (if_neg n4).trans ?_
    refine (kbr r4).trans ?_
    refine (if_neg (by decide)).trans ?_
    refine (kbr r5).trans ?_
    exact if_neg (by decide)
  have d : sh_X2_readDeed (padJ sg dg) 7 0 0 lt pl f1s s2s tms = (1, 7, 1, upd lt (0 : Int32).toNatClampNeg (vp_nar .char 112), upd pl (0 : Int32).toNatClampNeg 0, upd f1s (0 : Int32).toNatClampNeg 1, upd s2s (0 : Int32).toNatClampNeg (10 * dg), upd tms (0 : Int32).toNatClampNeg 7) := by
    unfold sh_X2_readDeed
    refine (if_pos (by decide)).trans ?_
    refine (kbr r0).trans ?_
    refine (if_neg (by decide)).trans ?_
    exact kbr (p _)
  have r6 : sh_X2_read (padJ sg dg) 7 7 59 = (0, 7) := by
    unfold sh_X2_read
    exact if_pos (by decide)
  unfold sh_X2_findFault
  refine (kbr d).trans ?_
  exact lpff (by decide) (show ¬ (1 : Int32) = 0 by decide) r6 rfl
end PJ
/-- what the job's seven pages leave -/
def jobX (N : TMa) (pl f1s s2s tms : Nat → Int32) (dg : Int32) (fu : Nat) (k : Int32) : Int32 × TMa × Int32 × Int32 × Int32 × Int32 :=
  lp_X4_printPagesOf_12 (-4) (-4) (-4) (-4) (upd pl (0 : Int32).toNatClampNeg 0) (upd f1s (0 : Int32).toNatClampNeg 1) (upd s2s (0 : Int32).toNatClampNeg (10 * dg)) (upd tms (0 : Int32).toNatClampNeg 7) 0 fu k N
section JX
variable {N : TMa} {oo zz rs de pc pg : Int32} {M0 M1 M2 M3 : TMa} {sg lt pl f1s s2s tms : Nat → Int32} {dg k : Int32} {fu : Nat}
theorem dg_dots (h : dgR dg) : ¬ sh_X4_isDots (10 * dg) = 0 := by
  rcases dg_cases h with rfl | rfl | rfl | rfl | rfl | rfl | rfl | rfl | rfl <;> decide
theorem jobX_end (c : 7 ≤ k) : jobX N pl f1s s2s tms dg (fu + 1) k = (7, N, -4, -4, -4, -4) := by
  unfold jobX
  rw [lp_X4_printPagesOf_12, pk_us, if_pos c]
theorem jobX_step (h : dgR dg) (c : ¬ 7 ≤ k) {R} (hR : R = sh_X4_print N oo zz M0 M1 M2 M3 1 (10 * dg)) : jobX N pl f1s s2s tms dg (fu + 1) k = if 10 ≤ R.1 then jobX R.2.1 pl f1s s2s tms dg fu (k + 1) else (k, R.2.1, R.1, 0, 0, k) := by
  unfold sh_X4_print at hR
  rw [if_neg (by decide), if_neg (dg_dots h)] at hR
  unfold jobX
  rw [lp_X4_printPagesOf_12, pk_us, if_neg c, pk_us, pk_us]
  generalize sh_X1_printPage N.1 N.2.1 N.2.2.1 N.2.2.2.1 N.2.2.2.2.1 N.2.2.2.2.2.1 N.2.2.2.2.2.2.1 N.2.2.2.2.2.2.2.1 N.2.2.2.2.2.2.2.2.1 N.2.2.2.2.2.2.2.2.2.1 N.2.2.2.2.2.2.2.2.2.2.1 N.2.2.2.2.2.2.2.2.2.2.2.1 1 (10 * dg) = P at hR ⊢
  generalize sh_X0_keep N oo zz M0 M1 M2 M3 = Kk at hR
  replace hR := kb_to hR (rfl : Kk = Kk)
  replace hR := kb_to hR (rfl : P = P)
  subst hR
  refine kb_ind (P := fun r : Int32 × TMa × Int32 × Int32 × Int32 × Int32 => r = _) (fun z hz => ?_)
  subst hz
  by_cases d : 10 ≤ z.1
  · rw [if_pos d, if_pos d]
  · rw [if_neg d, if_neg d, pk_us]
    rfl
abbrev jobF (N : TMa) (pl f1s s2s tms : Nat → Int32) (dg : Int32) : Int32 × TMa × Int32 × Int32 × Int32 × Int32 := jobX N pl f1s s2s tms dg (((7 : Int32).toInt - (0 : Int32).toInt).toNat + 1) 0
theorem run_job (h : dgR dg) {R : RunC} (hR : R = sh_X4_run N oo zz M0 M1 M2 M3 rs de pc pg (padJ sg dg) 7 lt pl f1s s2s tms) :
    R.1 = (jobF N pl f1s s2s tms dg).1 ∧ R.2.1 = (jobF N pl f1s s2s tms dg).2.1 ∧ R.2.2.2.2.2.2.2.2.1 = (jobF N pl f1s s2s tms dg).2.2.1 ∧ R.2.2.2.2.2.2.2.2.2.2.2.1 = (jobF N pl f1s s2s tms dg).2.2.2.2.2 := by
  unfold sh_X4_run at hR
  rw [ff_job h] at hR
  replace hR := kb_to hR rfl
  dsimp only at hR
  rw [if_pos rfl] at hR
  generalize sh_X0_keep N oo zz M0 M1 M2 M3 = Kk at hR
  replace hR := kb_to hR (rfl : Kk = Kk)
  replace hR := kb_to hR forget_eq
  dsimp only at hR
  rw [show ((30 : Int32).toInt - (0 : Int32).toInt).toNat + 1 = 29 + 1 + 1 from by decide, lp_X4_run_37, if_neg (by decide), if_pos (by decide)] at hR
  unfold sh_X4_doDeed at hR
  rw [pk_us, if_pos (by decide)] at hR
  have e : sh_X4_printPagesOf N (-4) (-4) (-4) (-4) (upd pl (0 : Int32).toNatClampNeg 0) (upd f1s (0 : Int32).toNatClampNeg 1) (upd s2s (0 : Int32).toNatClampNeg (10 * dg)) (upd tms (0 : Int32).toNatClampNeg 7) 0 = jobF N pl f1s s2s tms dg := by
    unfold sh_X4_printPagesOf jobF jobX
    rw [pk_us]
  rw [e] at hR
  generalize jobF N pl f1s s2s tms dg = X at hR ⊢
  simp only [kb] at hR
  rw [cls_exit (Or.inl (by decide))] at hR
  subst hR
  exact ⟨Int32.zero_add _, rfl, rfl, rfl⟩
end JX
