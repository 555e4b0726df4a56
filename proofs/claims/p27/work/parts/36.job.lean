/-- a row holds what the reference reads there -/
def rowQ (Q : Int32 × Int32 × Int32 × Int32 × Int32 × Int32) (e l f s t : Int32) : Prop :=
  Q.1 = e ∧ Q.2.1 = 0 ∧ Q.2.2.1 = l ∧ Q.2.2.2.1 = f ∧ (¬ l = 115 → Q.2.2.2.2.1 = s) ∧ (l = 112 → Q.2.2.2.2.2 = t)
/-- n rows from the k-th, which stand at po and on, to the pad's end -/
def rowsG (pd : Nat → Int32) (ln : Int32) (lt pl f1s s2s tms : Nat → Int32) : Nat → Nat → Int32 → Prop
  | 0, _, po => po.toInt = ln.toInt + 1
  | n + 1, k, po => pl k = po ∧ poOK po ln ∧ ¬ ln ≤ po ∧ ∃ e, (∀ fr sc, rowQ (sh_X5_deed pd ln po 0 fr sc) e (lt k) (f1s k) (s2s k) (tms k)) ∧ rowsG pd ln lt pl f1s s2s tms n (k + 1) (e + 1)
def jobR (R : Int32 × Int32 × Int32 × (Nat → Int32) × (Nat → Int32) × (Nat → Int32) × (Nat → Int32) × (Nat → Int32)) (T : Int32 × Int32 × Int32 × Int32 × Int32 × Int32 × Int32) (pd : Nat → Int32) (ln po dd : Int32) (lt pl f1s s2s tms : Nat → Int32) : Prop :=
  (T.1 = 0 → R.1 = T.2.1 ∧ 0 ≤ R.1.toInt) ∧
  (¬ T.1 = 0 → R.1 = -4 ∧ T.2.2.1 = 0 ∧ ∃ n : Nat, R.2.2.1.toInt = dd.toInt + n ∧ dd.toInt + n ≤ 30 ∧ rowsG pd ln R.2.2.2.1 R.2.2.2.2.1 R.2.2.2.2.2.1 R.2.2.2.2.2.2.1 R.2.2.2.2.2.2.2 n dd.toNatClampNeg po ∧
    ∀ j, j < dd.toNatClampNeg → R.2.2.2.1 j = lt j ∧ R.2.2.2.2.1 j = pl j ∧ R.2.2.2.2.2.1 j = f1s j ∧ R.2.2.2.2.2.2.1 j = s2s j ∧ R.2.2.2.2.2.2.2 j = tms j)
theorem rowQ_of {sg pd : Nat → Int32} {ln po dd : Int32} {lt pl f1s s2s tms : Nat → Int32} (h : padr sg pd ln) (hp : poOK po ln) (hd : dd < 30) {fr0 sc0 : Int32} (h0 : (sh_X5_deed pd ln po 0 fr0 sc0).2.1 = 0) {lt1 f1 s1 t1 : Nat → Int32}
    (e1 : lt1 dd.toNatClampNeg = (sh_X2_readDeed sg ln po dd lt pl f1s s2s tms).2.2.2.1 dd.toNatClampNeg) (e3 : f1 dd.toNatClampNeg = (sh_X2_readDeed sg ln po dd lt pl f1s s2s tms).2.2.2.2.2.1 dd.toNatClampNeg) (e4 : s1 dd.toNatClampNeg = (sh_X2_readDeed sg ln po dd lt pl f1s s2s tms).2.2.2.2.2.2.1 dd.toNatClampNeg) (e5 : t1 dd.toNatClampNeg = (sh_X2_readDeed sg ln po dd lt pl f1s s2s tms).2.2.2.2.2.2.2 dd.toNatClampNeg) (fr sc : Int32) :
    rowQ (sh_X5_deed pd ln po 0 fr sc) (sh_X5_deed pd ln po 0 fr0 sc0).1 (lt1 dd.toNatClampNeg) (f1 dd.toNatClampNeg) (s1 dd.toNatClampNeg) (t1 dd.toNatClampNeg) := by
  have a0 := (q_deed (dd := dd) (lt := lt) (pl := pl) (f1s := f1s) (s2s := s2s) (tms := tms) (fr := fr0) (sc := sc0) h hp hd).1
  have a1 := (q_deed (dd := dd) (lt := lt) (pl := pl) (f1s := f1s) (s2s := s2s) (tms := tms) (fr := fr) (sc := sc) h hp hd).1
  generalize sh_X2_readDeed sg ln po dd lt pl f1s s2s tms = R at *
  generalize sh_X5_deed pd ln po 0 fr0 sc0 = Q0 at *
  generalize sh_X5_deed pd ln po 0 fr sc = Q at *
  have b0 := a0.2 h0
  have w : Q.2.1 = 0 := by
    by_cases c : Q.2.1 = 0
    · exact c
    · have := (a1.1 c).1
      rw [b0] at this
      exact absurd this (show ¬ (1 : Int32) = 0 by decide)
  have b1 := a1.2 w
  rw [e1, e3, e4, e5]
  have p : R.2.1 = Q0.1 := by rw [b0]
  refine ⟨?_, w, ?_, ?_, ?_, ?_⟩
  · rw [← p, b1]
  · rw [b1]; exact pk_us.symm
  · rw [b1]; exact pk_us.symm
  · intro g
    rw [b1] at g
    have g : ¬ Q.2.2.1 = 115 := fun e => g (pk_us.trans e)
    rw [b1]
    dsimp only
    rw [if_neg g]
    exact pk_us.symm
  · intro g
    rw [b1] at g
    have g : Q.2.2.1 = 112 := pk_us.symm.trans g
    rw [b1]
    dsimp only
    rw [if_pos g]
    exact pk_us.symm
theorem jobR_step {R : Int32 × Int32 × Int32 × (Nat → Int32) × (Nat → Int32) × (Nat → Int32) × (Nat → Int32) × (Nat → Int32)} {T : Int32 × Int32 × Int32 × Int32 × Int32 × Int32 × Int32} {pd : Nat → Int32} {ln po dd e : Int32} {lt pl f1s s2s tms lt1 pl1 f1 s1 t1 : Nat → Int32} (I : jobR R T pd ln (e + 1) (dd + 1) lt1 pl1 f1 s1 t1)
    (d1 : (dd + 1).toInt = dd.toInt + 1) (dn1 : (dd + 1).toNatClampNeg = dd.toNatClampNeg + 1) (g5 : pl1 dd.toNatClampNeg = po) (hp : poOK po ln) (c0 : ¬ ln ≤ po)
    (RQ : ∀ lt2 f2 s2 t2 : Nat → Int32, lt2 dd.toNatClampNeg = lt1 dd.toNatClampNeg → f2 dd.toNatClampNeg = f1 dd.toNatClampNeg → s2 dd.toNatClampNeg = s1 dd.toNatClampNeg → t2 dd.toNatClampNeg = t1 dd.toNatClampNeg → ∀ fr sc, rowQ (sh_X5_deed pd ln po 0 fr sc) e (lt2 dd.toNatClampNeg) (f2 dd.toNatClampNeg) (s2 dd.toNatClampNeg) (t2 dd.toNatClampNeg))
    (rw0 : ∀ j, j < dd.toNatClampNeg → lt1 j = lt j ∧ pl1 j = pl j ∧ f1 j = f1s j ∧ s1 j = s2s j ∧ t1 j = tms j) : jobR R T pd ln po dd lt pl f1s s2s tms := by
  refine ⟨I.1, fun t => ?_⟩
  obtain ⟨t1, t2, n, t3, t4, t5, t6⟩ := I.2 t
  rw [dn1] at t5 t6
  have t7 := t6 dd.toNatClampNeg (Nat.lt_succ_self _)
  refine ⟨t1, t2, n + 1, ?_, by omega, ⟨by rw [t7.2.1, g5], hp, c0, e, RQ _ _ _ _ t7.1 t7.2.2.1 t7.2.2.2.1 t7.2.2.2.2, t5⟩, fun j hj => ?_⟩
  · rw [t3, d1]; omega
  · have u := t6 j (by omega)
    have v := rw0 j hj
    exact ⟨u.1.trans v.1, u.2.1.trans v.2.1, u.2.2.1.trans v.2.2.1, u.2.2.2.1.trans v.2.2.2.1, u.2.2.2.2.trans v.2.2.2.2⟩
theorem q_job {sg pd : Nat → Int32} {ln : Int32} (h : padr sg pd ln) : ∀ (fu fw : Nat) (po dd : Int32) (lt pl f1s s2s tms : Nat → Int32) (l5 fr sc tm : Int32), poOK po ln → po.toInt ≤ ln.toInt → 0 ≤ dd.toInt → 3 * dd.toInt ≤ po.toInt → (30 - (dd.toInt + 1)).toNat < fu → (ln.toInt - po.toInt).toNat + 1 < fw →
    jobR (kb (sh_X2_readDeed sg ln po dd lt pl f1s s2s tms) (fun z => lp_X2_findFault_17 sg ln fu z.1 (dd + 1) z.2.1 z.2.2.1 z.2.2.2.1 z.2.2.2.2.1 z.2.2.2.2.2.1 z.2.2.2.2.2.2.1 z.2.2.2.2.2.2.2)) (lp_X5_isJob_12 pd ln fw 1 po 0 l5 fr sc tm) pd ln po dd lt pl f1s s2s tms := by
  intro fu
  induction fu with
  | zero => intro fw po dd lt pl f1s s2s tms l5 fr sc tm _ _ _ _ h; exact absurd h (Nat.not_lt_zero _)
  | succ fu ih =>
    intro fw po dd lt pl f1s s2s tms l5 fr sc tm hp hl d0 d3 hf hw
    obtain ⟨fw, rfl⟩ : ∃ k, fw = k + 2 := ⟨fw - 2, by omega⟩
    have l60 := hp.2
    rw [vp_in_iff] at l60
    have p60 := hp.1
    rw [vp_in_iff] at p60
    have z : (0 : Int32).toInt = 0 := rfl
    have o1 : (1 : Int32).toInt = 1 := rfl
    have e30 : (30 : Int32).toInt = 30 := rfl
    have hd : dd < 30 := by rw [Int32.lt_iff_toInt_lt]; omega
    have d1 : (dd + 1).toInt = dd.toInt + 1 := by rw [iadd_to (by omega) (by omega), o1]
    have dn : (dd.toNatClampNeg : Int) = dd.toInt := by rw [show dd.toNatClampNeg = dd.toInt.toNat from rfl]; omega
    have dn1 : (dd + 1).toNatClampNeg = dd.toNatClampNeg + 1 := by
      rw [show (dd + 1).toNatClampNeg = (dd + 1).toInt.toNat from rfl]; omega
    have m30 : ¬ (30 : Int32) ≤ dd + 1 := by rw [Int32.le_iff_toInt_le]; omega
    have Z := q_deed (dd := dd) (lt := lt) (pl := pl) (f1s := f1s) (s2s := s2s) (tms := tms) (fr := fr) (sc := sc) h hp hd
    have hQ := deed_po (pd := pd) (wr := 0) (fr := fr) (sc := sc) hp
    have RQ := fun w lt1 f1 s1 t1 => rowQ_of (lt1 := lt1) (f1 := f1) (s1 := s1) (t1 := t1) (lt := lt) (pl := pl) (f1s := f1s) (s2s := s2s) (tms := tms) (fr0 := fr) (sc0 := sc) h hp hd w
    rw [lp_X5_isJob_12, if_neg (by decide)]
    simp only [kb]
    rw [lp_X2_findFault_17]
    simp only [kb]
    generalize hR : sh_X2_readDeed sg ln po dd lt pl f1s s2s tms = R at *
    generalize hq : sh_X5_deed pd ln po 0 fr sc = Q at *
    obtain ⟨Z1, Z2⟩ := Z
    by_cases w : Q.2.1 = 0
    · have b := Z1.2 w
      have f := Z2 w
      have RQ := RQ w
      have hp1 := f.2.2.1
      have rw0 : ∀ j, j < dd.toNatClampNeg → R.2.2.2.1 j = lt j ∧ R.2.2.2.2.1 j = pl j ∧ R.2.2.2.2.2.1 j = f1s j ∧ R.2.2.2.2.2.2.1 j = s2s j ∧ R.2.2.2.2.2.2.2 j = tms j := by
        intro j hj
        rw [b]
        have ne : j ≠ dd.toNatClampNeg := by omega
        refine ⟨pk_un ne, pk_un ne, pk_un ne, ?_, ?_⟩
        · dsimp only
          split
          · rfl
          · exact pk_un ne
        · dsimp only
          split
          · exact pk_un ne
          · rfl
      have g1 : R.1 = 1 := by rw [b]
      have g2 : R.2.1 = Q.1 := by rw [b]
      have g3 : R.2.2.1 = dd + 1 := by rw [b]
      have g5 : R.2.2.2.2.1 dd.toNatClampNeg = po := by rw [b]; exact pk_us
      have c0 : ¬ ln ≤ po := by rw [Int32.le_iff_toInt_le]; omega
      rw [if_neg m30, if_neg (by rw [g1]; decide), if_pos w, g1, g2, g3]
      have rd := q_read h hp1 (x := 59) (by decide)
      have s9 := q_sign (pd := pd) (ln := ln) (po := Q.1) (x := 59)
      rw [w]
      by_cases c : ln ≤ Q.1
      · have q1 : Q.1 = ln := by
          rw [Int32.le_iff_toInt_le] at c
          exact Int32.toInt_inj.mp (by omega)
        rw [if_neg (by rw [nx_end c]; decide)] at rd
        rw [rd, if_pos c, if_pos rfl, if_pos rfl, if_neg (by decide), if_pos q1, lp_X5_isJob_12, if_pos rfl, if_pos rfl]
        refine ⟨fun e => absurd e (show ¬ (1 : Int32) = 0 by decide), fun _ => ⟨rfl, rfl, 1, ?_, by omega, ⟨g5, hp, c0, Q.1, RQ _ _ _ _ rfl rfl rfl rfl, ?_⟩, rw0⟩⟩
        · show (dd + 1).toInt = _
          omega
        · show (Q.1 + 1).toInt = _
          rw [up1_to hp1, q1]
      · rw [if_neg c, if_neg (show ¬ (1 : Int32) = 0 by decide)]
        by_cases k : sh_X5_next pd ln Q.1 = 59
        · rw [if_pos k] at rd s9
          rw [rd, s9, if_neg (show ¬ (1 : Int32) = 0 by decide)]
          dsimp only
          rw [if_pos rfl, if_neg (show ¬ (1 : Int32) = 0 by decide)]
          have q1 := up1_to hp1
          have I := ih (fw + 1) (Q.1 + 1) (dd + 1) R.2.2.2.1 R.2.2.2.2.1 R.2.2.2.2.2.1 R.2.2.2.2.2.2.1 R.2.2.2.2.2.2.2 Q.2.2.1 Q.2.2.2.1 Q.2.2.2.2.1 Q.2.2.2.2.2 (po_up hp1 c) (up1_le hp1 c) (by omega) (by omega) (by omega) (by omega)
          simp only [kb] at I
          with_reducible exact jobR_step I d1 dn1 g5 hp c0 RQ rw0
        · rw [if_neg k] at rd s9
          have q1 : ¬ Q.1 = ln := fun e => c (by rw [e, Int32.le_iff_toInt_le]; omega)
          rw [rd, s9, if_pos rfl]
          dsimp only
          simp only [if_neg (show ¬ (1 : Int32) = 0 by decide), if_neg q1]
          rw [lp_X5_isJob_12, if_pos rfl, if_neg (show ¬ (1 : Int32) = 0 by decide)]
          refine ⟨fun _ => ⟨rfl, ?_⟩, fun e => absurd rfl e⟩
          show 0 ≤ Q.1.toInt
          omega
    · have b := Z1.1 w
      rw [b.1, b.2, if_neg m30, if_pos rfl, if_pos rfl, if_neg w, if_pos rfl, lp_X5_isJob_12, if_pos rfl, if_neg w]
      refine ⟨fun _ => ⟨rfl, ?_⟩, fun e => absurd rfl e⟩
      show 0 ≤ Q.1.toInt
      have := hQ.2
      omega
/-- both read the pad alike -/
theorem q_fault {sg pd : Nat → Int32} {ln : Int32} (h : padr sg pd ln) (lt pl f1s s2s tms : Nat → Int32) (l5 fr sc tm : Int32) : jobR (sh_X2_findFault sg ln lt pl f1s s2s tms) (sh_X5_isJob pd ln l5 fr sc tm) pd ln 0 0 lt pl f1s s2s tms := by
  have l := h.1
  have l2 := l
  rw [vp_in_iff] at l2
  have z : (0 : Int32).toInt = 0 := rfl
  exact q_job h _ _ 0 0 lt pl f1s s2s tms l5 fr sc tm ⟨k_in (by decide), l⟩ (by omega) (by decide) (by decide) (by decide) (by simp)
