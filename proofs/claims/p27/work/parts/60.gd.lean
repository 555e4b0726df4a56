/-- a Machine's numbers are in order: what the law asks of one object stands on this -/
def okN (N : TMa) : Prop :=
  (∀ c, c < 4 → 0 ≤ (N.2.1 c).toInt ∧ (N.2.1 c).toInt ≤ 2) ∧
  (∀ c, c < 4 → 0 ≤ (N.2.2.1 c).toInt ∧ 0 ≤ (N.2.2.2.1 c).toInt ∧ (N.2.2.1 c).toInt + (N.2.2.2.1 c).toInt ≤ 6000 ∧ 0 ≤ (N.2.2.2.2.1 c).toInt ∧ (N.2.2.2.2.1 c).toInt ≤ 4000) ∧
  (∀ q, q < 2 → N.2.2.2.2.2.1 q = -4 ∨ (0 ≤ (N.2.2.2.2.2.1 q).toInt ∧ (N.2.2.2.2.2.1 q).toInt ≤ 3)) ∧
  (N.2.2.2.2.2.1 0 = -4 ∨ ¬ N.2.2.2.2.2.1 0 = N.2.2.2.2.2.1 1) ∧
  (1 ≤ (N.1 0).toInt ∧ (N.1 0).toInt ≤ 5) ∧ (2 ≤ (N.1 1).toInt ∧ (N.1 1).toInt ≤ 50) ∧ (0 ≤ (N.1 2).toInt ∧ (N.1 2).toInt ≤ 1) ∧ (1 ≤ (N.1 3).toInt ∧ (N.1 3).toInt ≤ 500) ∧
  (∀ q, q < 2 → 0 ≤ (N.2.2.2.2.2.2.1 q).toInt ∧ (N.2.2.2.2.2.2.1 q).toInt ≤ 4000000 ∧ 0 ≤ (N.2.2.2.2.2.2.2.1 q).toInt ∧ (N.2.2.2.2.2.2.2.1 q).toInt ≤ 4000000 ∧ 0 ≤ (N.2.2.2.2.2.2.2.2.1 q).toInt ∧
    (N.2.2.2.2.2.2.1 q).toInt + (N.2.2.2.2.2.2.2.1 q).toInt ≤ (N.2.2.2.2.2.2.2.2.2.1 q).toInt ∧
    ((N.2.2.2.2.2.2.2.2.2.2.1 q = -4 ∧ (N.2.2.2.2.2.2.1 q).toInt + (N.2.2.2.2.2.2.2.1 q).toInt = 0) ∨ (0 ≤ (N.2.2.2.2.2.2.2.2.2.2.1 q).toInt ∧ (N.2.2.2.2.2.2.2.2.2.2.1 q).toInt ≤ 100 ∧ 0 < (N.2.2.2.2.2.2.1 q).toInt + (N.2.2.2.2.2.2.2.1 q).toInt))) ∧
  (((N.2.2.1 0 + N.2.2.2.1 0) + (N.2.2.1 1 + N.2.2.2.1 1)) + ((N.2.2.1 2 + N.2.2.2.1 2) + (N.2.2.1 3 + N.2.2.2.1 3))) + N.2.2.2.2.2.2.2.2.2.2.2.1 + N.2.2.2.2.2.2.2.2.2.2.2.2.1 - N.2.2.2.2.2.2.2.2.2.2.2.2.2 = 16000
theorem dec4_rg {v : Int32} (h : -1 ≤ v.toInt) (h2 : v.toInt ≤ 3) : dec4 v = -4 ∨ (0 ≤ (dec4 v).toInt ∧ (dec4 v).toInt ≤ 3) := by
  unfold dec4
  by_cases a : v = -1
  · rw [if_pos a]; exact Or.inl rfl
  · rw [if_neg a]
    have := k_ne a
    have e : (-1 : Int32).toInt = -1 := rfl
    exact Or.inr ⟨by omega, h2⟩
theorem okN_of {B : Int} {N : TMa} {sv : Nat → Int32} (h : goodM B N sv) (hB : B ≤ 4000000) : okN N := by
  obtain ⟨⟨h0, h1, h2, h3, h4, h5, h6, h7, h8, h9, h10, h11, h12, h13⟩, ⟨i1, i2, i3, i4, i5, i6, i7, i8⟩, p1, p2, p3⟩ := h
  refine ⟨fun c hc => ?_, fun c hc => ?_, fun q hq => ?_, ?_, ?_, ?_, ?_, ?_, fun q hq => ?_, ?_⟩
  · rw [h1 c hc]; exact i1 c hc
  · rw [h2 c hc, h3 c hc, h4 c hc]; exact i2 c hc
  · rw [h5 q hq]; exact dec4_rg (i3 q hq).1 (i3 q hq).2
  · rw [h5 0 (by decide), h5 1 (by decide)]
    have a0 := i3 0 (by decide)
    have a1 := i3 1 (by decide)
    rw [show 16 + 0 = 16 from rfl] at *
    rw [show 16 + 1 = 17 from rfl] at *
    rcases i4 with e | e
    · rw [e]; exact Or.inl dec4_no
    · by_cases n : sv 16 = -1
      · rw [n]; exact Or.inl dec4_no
      · refine Or.inr (fun g => e ?_)
        unfold dec4 at g
        rw [if_neg n] at g
        by_cases m : sv 17 = -1
        · rw [if_pos m] at g
          rw [g] at a0
          exact absurd a0.1 (by decide)
        · rw [if_neg m] at g; exact g
  · rw [h0 0 (by decide)]; exact i5
  · rw [h0 1 (by decide)]; exact i6
  · rw [h0 2 (by decide)]; exact i7
  · rw [h0 3 (by decide)]; exact i8
  · rw [h6 q hq, h7 q hq, h8 q hq, h9 q hq, h10 q hq]
    have a := p1 (18 + q) (by omega) (by omega)
    have b := p1 (20 + q) (by omega) (by omega)
    have c := p1 (22 + q) (by omega) (by omega)
    obtain ⟨d1, d2, d3⟩ := p3 q hq
    refine ⟨a.1, by omega, b.1, by omega, c.1, d1, ?_⟩
    rcases d3 with ⟨e, f⟩ | ⟨e1, e2, e3⟩
    · rw [e]; exact Or.inl ⟨dec4_no, f⟩
    · refine Or.inr ?_
      have : dec4 (sv (26 + q)) = sv (26 + q) := by
        unfold dec4
        rw [if_neg]
        intro g
        rw [g] at e1
        exact absurd e1 (by decide)
      rw [this]; exact ⟨e1, e2, e3⟩
  · rw [h2 0 (by decide), h2 1 (by decide), h2 2 (by decide), h2 3 (by decide), h3 0 (by decide), h3 1 (by decide), h3 2 (by decide), h3 3 (by decide), h11, h12, h13]
    exact p2
/-- all that holds of an object between calls: it stands as some state of the numbers does -/
def Gd (B : Int) (tk : Int32) (N S : TMa) (oo zz : Int32) (M0 M1 M2 M3 : TMa) (rs de pc pg : Int32) (sg : Nat → Int32) (ln : Int32) : Prop :=
  ∃ (sv pa : Nat → Int32) (pn : Int32) (sn : Nat → Int32) (kp : Int32) (pd : Nat → Int32) (l2 : Int32) (so : Nat → Int32), Rel B tk N S oo zz M0 M1 M2 M3 rs de pc pg sg ln sv pa pn sn kp pd l2 so
section GDL
variable {B : Int} {tk : Int32} {N S : TMa} {oo zz : Int32} {M0 M1 M2 M3 : TMa} {rs de pc pg : Int32} {sg : Nat → Int32} {ln x1 x2 : Int32}
theorem padr_slf {sg pd : Nat → Int32} {ln : Int32} (h : padr sg pd ln) : padr sg sg ln := ⟨h.1, fun i hi => by
  have := h.2 i hi
  rw [this.1]
  exact ⟨rfl, this.2⟩⟩
theorem gd_oo (h : Gd B tk N S oo zz M0 M1 M2 M3 rs de pc pg sg ln) : vp_in oo 4 := by
  obtain ⟨sv, pa, pn, sn, kp, pd, l2, so, h⟩ := h
  exact h.2.1.1
theorem gd_zz (h : Gd B tk N S oo zz M0 M1 M2 M3 rs de pc pg sg ln) : vp_in zz 5 := by
  obtain ⟨sv, pa, pn, sn, kp, pd, l2, so, h⟩ := h
  exact h.2.1.2.1
theorem gd_pad (h : Gd B tk N S oo zz M0 M1 M2 M3 rs de pc pg sg ln) : padr sg sg ln := by
  obtain ⟨sv, pa, pn, sn, kp, pd, l2, so, h⟩ := h
  exact padr_slf h.2.2.2.1.2
theorem gd_ok (h : Gd B tk N S oo zz M0 M1 M2 M3 rs de pc pg sg ln) (hB : B ≤ 4000000) : okN N := by
  obtain ⟨sv, pa, pn, sn, kp, pd, l2, so, h⟩ := h
  exact okN_of h.1 hB
theorem gd_mono {B1 : Int} (h : Gd B tk N S oo zz M0 M1 M2 M3 rs de pc pg sg ln) (e : B ≤ B1) : Gd B1 tk N S oo zz M0 M1 M2 M3 rs de pc pg sg ln := by
  obtain ⟨sv, pa, pn, sn, kp, pd, l2, so, h⟩ := h
  exact ⟨sv, pa, pn, sn, kp, pd, l2, so, h.mono e⟩
theorem gd_print (h : Gd B tk N S oo zz M0 M1 M2 M3 rs de pc pg sg ln) (hB : B ≤ 3900000) {R} (hR : R = sh_X4_print N oo zz M0 M1 M2 M3 x1 x2) : Gd (B + 10000) tk R.2.1 S R.2.2.1 R.2.2.2.1 R.2.2.2.2.1 R.2.2.2.2.2.1 R.2.2.2.2.2.2.1 R.2.2.2.2.2.2.2 rs de pc pg sg ln := by
  obtain ⟨sv, pa, pn, sn, kp, pd, l2, so, h⟩ := h
  exact ⟨_, _, _, sn, kp, pd, l2, so, (e_print h (by omega) hR rfl).2⟩
theorem gd_shake (h : Gd B tk N S oo zz M0 M1 M2 M3 rs de pc pg sg ln) {R} (hR : R = sh_X4_shake N oo zz M0 M1 M2 M3 x1) : Gd (B + 10000) tk R.2.1 S R.2.2.1 R.2.2.2.1 R.2.2.2.2.1 R.2.2.2.2.2.1 R.2.2.2.2.2.2.1 R.2.2.2.2.2.2.2 rs de pc pg sg ln := by
  obtain ⟨sv, pa, pn, sn, kp, pd, l2, so, h⟩ := h
  exact ⟨_, _, _, sn, kp, pd, l2, so, (e_shake h hR rfl).2⟩
theorem gd_move (h : Gd B tk N S oo zz M0 M1 M2 M3 rs de pc pg sg ln) {R} (hR : R = sh_X4_move N oo zz M0 M1 M2 M3 x1 x2) : Gd (B + 10000) tk R.2.1 S R.2.2.1 R.2.2.2.1 R.2.2.2.2.1 R.2.2.2.2.2.1 R.2.2.2.2.2.2.1 R.2.2.2.2.2.2.2 rs de pc pg sg ln := by
  obtain ⟨sv, pa, pn, sn, kp, pd, l2, so, h⟩ := h
  exact ⟨_, _, _, sn, kp, pd, l2, so, (e_move h hR rfl).2⟩
theorem gd_takeOut (h : Gd B tk N S oo zz M0 M1 M2 M3 rs de pc pg sg ln) {R} (hR : R = sh_X4_takeOut N oo zz M0 M1 M2 M3 x1) : Gd (B + 10000) tk R.2.1 S R.2.2.1 R.2.2.2.1 R.2.2.2.2.1 R.2.2.2.2.2.1 R.2.2.2.2.2.2.1 R.2.2.2.2.2.2.2 rs de pc pg sg ln := by
  obtain ⟨sv, pa, pn, sn, kp, pd, l2, so, h⟩ := h
  exact ⟨_, _, _, sn, kp, pd, l2, so, (e_takeOut h hR rfl).2⟩
theorem gd_refill (h : Gd B tk N S oo zz M0 M1 M2 M3 rs de pc pg sg ln) {R} (hR : R = sh_X4_refill N oo zz M0 M1 M2 M3 x1 x2) : Gd (B + 10000) tk R.2.1 S R.2.2.1 R.2.2.2.1 R.2.2.2.2.1 R.2.2.2.2.2.1 R.2.2.2.2.2.2.1 R.2.2.2.2.2.2.2 rs de pc pg sg ln := by
  obtain ⟨sv, pa, pn, sn, kp, pd, l2, so, h⟩ := h
  exact ⟨_, _, _, sn, kp, pd, l2, so, (e_refill h hR rfl).2⟩
theorem gd_set (h : Gd B tk N S oo zz M0 M1 M2 M3 rs de pc pg sg ln) {R} (hR : R = sh_X4_set N oo zz M0 M1 M2 M3 x1 x2) : Gd (B + 10000) tk R.2.1 S R.2.2.1 R.2.2.2.1 R.2.2.2.2.1 R.2.2.2.2.2.1 R.2.2.2.2.2.2.1 R.2.2.2.2.2.2.2 rs de pc pg sg ln := by
  obtain ⟨sv, pa, pn, sn, kp, pd, l2, so, h⟩ := h
  exact ⟨_, _, _, sn, kp, pd, l2, so, (e_set h hR rfl).2⟩
theorem gd_undo (h : Gd B tk N S oo zz M0 M1 M2 M3 rs de pc pg sg ln) {R} (hR : R = sh_X4_undo N oo zz M0 M1 M2 M3) : Gd (B + 10000) tk R.2.1 S oo R.2.2 M0 M1 M2 M3 rs de pc pg sg ln := by
  obtain ⟨sv, pa, pn, sn, kp, pd, l2, so, h⟩ := h
  exact ⟨_, pa, _, sn, kp, pd, l2, so, (e_undo h hR rfl).2⟩
theorem gd_save (h : Gd B tk N S oo zz M0 M1 M2 M3 rs de pc pg sg ln) {R} (hR : R = sh_X4_save N S) : Gd (B + 10000) R.2.1 N R.2.2 oo zz M0 M1 M2 M3 rs de pc pg sg ln := by
  obtain ⟨sv, pa, pn, sn, kp, pd, l2, so, h⟩ := h
  exact ⟨sv, pa, pn, _, _, pd, l2, so, (e_save h hR rfl).2⟩
theorem gd_restore (h : Gd B tk N S oo zz M0 M1 M2 M3 rs de pc pg sg ln) {R} (hR : R = sh_X4_restore tk N S oo zz M0 M1 M2 M3) : Gd (B + 10000) tk R.2.1 S R.2.2.1 R.2.2.2.1 R.2.2.2.2.1 R.2.2.2.2.2.1 R.2.2.2.2.2.2.1 R.2.2.2.2.2.2.2 rs de pc pg sg ln := by
  obtain ⟨sv, pa, pn, sn, kp, pd, l2, so, h⟩ := h
  exact ⟨_, _, _, sn, kp, pd, l2, so, (e_restore h hR rfl).2⟩
theorem gd_pads (h : Gd B tk N S oo zz M0 M1 M2 M3 rs de pc pg sg ln) {sg1 : Nat → Int32} {ln1 : Int32} (hp : padr sg1 sg1 ln1) : Gd B tk N S oo zz M0 M1 M2 M3 rs de pc pg sg1 ln1 := by
  obtain ⟨sv, pa, pn, sn, kp, pd, l2, so, h⟩ := h
  exact ⟨sv, pa, pn, sn, kp, sg1, ln1, so, h.1, h.2.1, h.2.2.1, ⟨rfl, hp⟩, h.2.2.2.2⟩
theorem padr_app (h : padr sg sg ln) {R} (hR : R = sh_X4_append sg ln x1) : padr R.2.1 R.2.1 R.2.2 := by
  have o : (33 : Int32).toInt = 33 := rfl
  have f : (126 : Int32).toInt = 126 := rfl
  have s : (60 : Int32).toInt = 60 := rfl
  unfold sh_X4_append at hR
  by_cases a1 : x1 < 33
  · rw [if_pos a1] at hR; subst hR; exact h
  · rw [if_neg a1] at hR
    by_cases a2 : x1 ≤ 126
    · rw [if_pos a2] at hR
      rw [Int32.lt_iff_toInt_lt] at a1
      rw [Int32.le_iff_toInt_le] at a2
      by_cases b : sh_X2_hasRoom ln = 0
      · rw [if_pos b] at hR; subst hR; exact h
      · rw [if_neg b] at hR
        obtain ⟨n, hn, en⟩ := ige_of (x := x1) (by omega)
        have n2 : n < 127 := by rw [en, nI_toInt hn] at a2; omega
        rw [show (x1.toUInt32 % 65536).toInt32 = x1 by rw [en]; exact i2c_id n n2] at hR
        simp only [kb] at hR
        unfold sh_X2_add at hR
        rw [if_neg b, show vp_nar .char x1 = x1 by rw [en]; exact nar_id n n2] at hR
        subst hR
        exact padr_up h (room_in h.1 b) (by omega) (by omega)
    · rw [if_neg a2] at hR; subst hR; exact h
theorem gd_run (h : Gd B tk N S oo zz M0 M1 M2 M3 rs de pc pg sg ln) (hB : B ≤ 3900000) {lt pl f1s s2s tms : Nat → Int32} {R : RunC} (hR : R = sh_X4_run N oo zz M0 M1 M2 M3 rs de pc pg sg ln lt pl f1s s2s tms) : Gd (B + 10000) tk R.2.1 S R.2.2.1 R.2.2.2.1 R.2.2.2.2.1 R.2.2.2.2.2.1 R.2.2.2.2.2.2.1 R.2.2.2.2.2.2.2.1 R.2.2.2.2.2.2.2.2.1 R.2.2.2.2.2.2.2.2.2.1 R.2.2.2.2.2.2.2.2.2.2.1 R.2.2.2.2.2.2.2.2.2.2.2.1 sg R.2.2.2.2.2.2.2.2.2.2.2.2.1 := by
  obtain ⟨sv, pa, pn, sn, kp, pd, l2, so, h⟩ := h
  have E := e_run h hB hR (T := sh_X5_run sv pa pn pd l2 so 0 0 0 0) rfl
  exact ⟨_, _, _, sn, kp, pd, _, _, E.2⟩
end GDL
