def rowP (pa : Nat → Int32) (k : Nat) : Nat → Int32 := fun j => pa (35 * k + j)
/-- a Machine stands as a row of numbers does, and they are in order -/
def goodM (B : Int) (x : TMa) (sv : Nat → Int32) : Prop := mrel x sv ∧ iv sv ∧ pgB B sv
theorem mrel_cong {x : TMa} {f g : Nat → Int32} (h : mrel x f) (e : ∀ j, j < 35 → g j = f j) : mrel x g := by
  obtain ⟨h0, h1, h2, h3, h4, h5, h6, h7, h8, h9, h10, h11, h12, h13⟩ := h
  refine ⟨fun k hk => ?_, fun k hk => ?_, fun k hk => ?_, fun k hk => ?_, fun k hk => ?_, fun k hk => ?_, fun k hk => ?_, fun k hk => ?_, fun k hk => ?_, fun k hk => ?_, fun k hk => ?_, ?_, ?_, ?_⟩
  · rw [e _ (by omega)]; exact h0 k hk
  · rw [e _ (by omega)]; exact h1 k hk
  · rw [e _ (by omega)]; exact h2 k hk
  · rw [e _ (by omega)]; exact h3 k hk
  · rw [e _ (by omega)]; exact h4 k hk
  · rw [e _ (by omega)]; exact h5 k hk
  · rw [e _ (by omega)]; exact h6 k hk
  · rw [e _ (by omega)]; exact h7 k hk
  · rw [e _ (by omega)]; exact h8 k hk
  · rw [e _ (by omega)]; exact h9 k hk
  · rw [e _ (by omega)]; exact h10 k hk
  · rw [e _ (by omega)]; exact h11
  · rw [e _ (by omega)]; exact h12
  · rw [e _ (by omega)]; exact h13
theorem iv_cong {f g : Nat → Int32} (h : iv f) (e : ∀ j, j < 35 → g j = f j) : iv g := by
  obtain ⟨a, b, c, d, g1, g2, g3, g4⟩ := h
  refine ⟨fun k hk => ?_, fun k hk => ?_, fun k hk => ?_, ?_, ?_, ?_, ?_, ?_⟩
  · rw [e _ (by omega)]; exact a k hk
  · rw [e (4 + k) (by omega), e (8 + k) (by omega), e (12 + k) (by omega)]; exact b k hk
  · rw [e _ (by omega)]; exact c k hk
  · rw [e _ (by omega), e _ (by omega)]; exact d
  · rw [e _ (by omega)]; exact g1
  · rw [e _ (by omega)]; exact g2
  · rw [e _ (by omega)]; exact g3
  · rw [e _ (by omega)]; exact g4
theorem pgB_cong {B : Int} {f g : Nat → Int32} (h : pgB B f) (e : ∀ j, j < 35 → g j = f j) : pgB B g := by
  refine ⟨fun k h1 h2 => ?_, ?_, fun q hq => ?_⟩
  · rw [e k (by omega)]; exact h.1 k h1 h2
  · unfold totT
    rw [e 4 (by omega), e 8 (by omega), e 5 (by omega), e 9 (by omega), e 6 (by omega), e 10 (by omega), e 7 (by omega), e 11 (by omega), e 28 (by omega), e 29 (by omega), e 30 (by omega)]
    exact h.2.1
  · unfold prnB
    rw [e (18 + q) (by omega), e (20 + q) (by omega), e (24 + q) (by omega), e (26 + q) (by omega)]
    exact h.2.2 q hq
theorem goodM.cong {B : Int} {x : TMa} {f g : Nat → Int32} (h : goodM B x f) (e : ∀ j, j < 35 → g j = f j) : goodM B x g := ⟨mrel_cong h.1 e, iv_cong h.2.1 e, pgB_cong h.2.2 e⟩
theorem pgB.mono {B B1 : Int} {f : Nat → Int32} (h : pgB B f) (e : B ≤ B1) : pgB B1 f := by
  refine ⟨fun k h1 h2 => ?_, h.2.1, fun q hq => ?_⟩
  · have := h.1 k h1 h2
    omega
  · have := h.2.2 q hq
    exact ⟨this.1, by have := this.2.1; omega, this.2.2⟩
theorem goodM.mono {B B1 : Int} {x : TMa} {f : Nat → Int32} (h : goodM B x f) (e : B ≤ B1) : goodM B1 x f := ⟨h.1, h.2.1, h.2.2.mono e⟩
/-- a Machine that has become like another -/
abbrev likeM (M N : TMa) : TMa := sh_X1_becomeLike M.1 M.2.1 M.2.2.1 M.2.2.2.1 M.2.2.2.2.1 M.2.2.2.2.2.1 M.2.2.2.2.2.2.1 M.2.2.2.2.2.2.2.1 M.2.2.2.2.2.2.2.2.1 M.2.2.2.2.2.2.2.2.2.1 M.2.2.2.2.2.2.2.2.2.2.1 N.1 N.2.1 N.2.2.1 N.2.2.2.1 N.2.2.2.2.1 N.2.2.2.2.2.1 N.2.2.2.2.2.2.1 N.2.2.2.2.2.2.2.1 N.2.2.2.2.2.2.2.2.1 N.2.2.2.2.2.2.2.2.2.1 N.2.2.2.2.2.2.2.2.2.2.1 N.2.2.2.2.2.2.2.2.2.2.2.1 N.2.2.2.2.2.2.2.2.2.2.2.2.1 N.2.2.2.2.2.2.2.2.2.2.2.2.2
theorem cpy_at {f g : Nat → Int32} {n k : Nat} (h : k < n) : va_cpy f g 0 0 n k = f k := by
  unfold va_cpy
  rw [if_pos ⟨Nat.zero_le _, by omega⟩, Nat.sub_zero, Nat.zero_add]
theorem mrel_like {M N : TMa} {sv : Nat → Int32} (h : mrel N sv) : mrel (likeM M N) sv := by
  obtain ⟨h0, h1, h2, h3, h4, h5, h6, h7, h8, h9, h10, h11, h12, h13⟩ := h
  exact ⟨fun k hk => (cpy_at hk).trans (h0 k hk), fun k hk => (cpy_at hk).trans (h1 k hk), fun k hk => (cpy_at hk).trans (h2 k hk), fun k hk => (cpy_at hk).trans (h3 k hk), fun k hk => (cpy_at hk).trans (h4 k hk), fun k hk => (cpy_at hk).trans (h5 k hk), fun k hk => (cpy_at hk).trans (h6 k hk), fun k hk => (cpy_at hk).trans (h7 k hk), fun k hk => (cpy_at hk).trans (h8 k hk), fun k hk => (cpy_at hk).trans (h9 k hk), fun k hk => (cpy_at hk).trans (h10 k hk), h11, h12, h13⟩
theorem goodM.like {B : Int} {M N : TMa} {sv : Nat → Int32} (h : goodM B N sv) : goodM B (likeM M N) sv := ⟨mrel_like h.1, h.2⟩
/-! the reference's copies -/
theorem le35 {n : Int32} {N b : Nat} (hn : n = nI N) (hN : N < 2 ^ 31) (hb : b < 2 ^ 31) : n ≤ nI b ↔ N ≤ b := by
  rw [hn, Int32.le_iff_toInt_le, nI_toInt hN, nI_toInt hb]
  omega
theorem nI_up (b : Nat) : nI b + 1 = nI (b + 1) := by rw [show (1 : Int32) = nI 1 from rfl, nI_add]
theorem ix_row {a b : Nat} (ha : a < 4) (hb : b < 35) : ((35 * nI a) + nI b).toNatClampNeg = 35 * a + b := by
  rw [show (35 : Int32) = nI 35 from rfl, pk_mul, nI_add, nI_clamp (by omega)]
theorem rec49 {sv : Nat → Int32} {a : Nat} (ha : a < 4) : ∀ (fu b : Nat) (pa : Nat → Int32), b ≤ 35 → 35 - b < fu →
    (lp_X5_records_49 sv fu (nI b) pa (nI a)).2 = nI a + 1 ∧ ∀ j, (lp_X5_records_49 sv fu (nI b) pa (nI a)).1 j = if 35 * a + b ≤ j ∧ j < 35 * a + 35 then sv (j - 35 * a) else pa j := by
  intro fu
  induction fu with
  | zero => intro b pa _ h; exact absurd h (Nat.not_lt_zero _)
  | succ fu ih =>
    intro b pa hb hf
    rw [lp_X5_records_49]
    by_cases c : 35 ≤ b
    · rw [if_pos ((le35 (n := 35) (N := 35) rfl (by decide) (by omega)).mpr c)]
      exact ⟨rfl, fun j => by rw [if_neg (by omega)]⟩
    · rw [if_neg (fun e => c ((le35 (n := 35) (N := 35) rfl (by decide) (by omega)).mp e))]
      simp only [kb]
      rw [nI_up, ix_row ha (by omega), nI_clamp (by omega)]
      have I := ih (b + 1) (upd pa (35 * a + b) (sv b)) (by omega) (by omega)
      refine ⟨I.1, fun j => ?_⟩
      rw [I.2 j]
      by_cases e : j = 35 * a + b
      · rw [if_neg (by omega), if_pos (by omega), e, pk_us, show 35 * a + b - 35 * a = b by omega]
      · rw [pk_un e]
        by_cases g : 35 * a + b ≤ j ∧ j < 35 * a + 35
        · rw [if_pos g, if_pos (by omega)]
        · rw [if_neg g, if_neg (by omega)]
theorem rec10 {sv : Nat → Int32} {pn : Int32} : ∀ (fu b : Nat) (pa : Nat → Int32), b ≤ 105 → 105 - b < fu →
    ∃ pa1 : Nat → Int32, (∀ j, pa1 j = if b ≤ j ∧ j < 105 then pa (35 + j) else pa j) ∧ lp_X5_records_10 sv pn fu (nI b) pa = lp_X5_records_49 sv (((35 : Int32).toInt - (0 : Int32).toInt).toNat + 1) 0 pa1 (pn - 1) := by
  intro fu
  induction fu with
  | zero => intro b pa _ h; exact absurd h (Nat.not_lt_zero _)
  | succ fu ih =>
    intro b pa hb hf
    rw [lp_X5_records_10]
    by_cases c : 105 ≤ b
    · rw [if_pos ((le35 (n := 105) (N := 105) rfl (by decide) (by omega)).mpr c)]
      exact ⟨pa, fun j => by rw [if_neg (by omega)], rfl⟩
    · rw [if_neg (fun e => c ((le35 (n := 105) (N := 105) rfl (by decide) (by omega)).mp e))]
      simp only [kb]
      rw [nI_up, show (35 : Int32) + nI b = nI (35 + b) by rw [show (35 : Int32) = nI 35 from rfl, nI_add], nI_clamp (n := b) (by omega), nI_clamp (n := 35 + b) (by omega)]
      obtain ⟨pa1, h1, h2⟩ := ih (b + 1) (upd pa b (pa (35 + b))) (by omega) (by omega)
      refine ⟨pa1, fun j => ?_, h2⟩
      rw [h1 j]
      by_cases e : j = b
      · rw [if_neg (by omega), if_pos (by omega), e, pk_us]
      · by_cases g : b ≤ j ∧ j < 105
        · rw [if_pos g, if_pos (by omega), pk_un (j := 35 + j) (by omega)]
        · rw [if_neg g, if_neg (by omega), pk_un e]
theorem rec_less {sv pa : Nat → Int32} {a : Nat} (ha : a < 4) : (sh_X5_records sv pa (nI a)).2 = nI (a + 1) ∧ (∀ k, k < a → ∀ j, j < 35 → rowP (sh_X5_records sv pa (nI a)).1 k j = rowP pa k j) ∧ ∀ j, j < 35 → rowP (sh_X5_records sv pa (nI a)).1 a j = sv j := by
  have n4 : ¬ nI a = 4 := fun e => by
    have := congrArg Int32.toInt e
    rw [nI_toInt (by omega), show (4 : Int32).toInt = 4 from rfl] at this
    omega
  unfold sh_X5_records
  rw [if_neg n4]
  have I := rec49 (sv := sv) ha (((35 : Int32).toInt - (0 : Int32).toInt).toNat + 1) 0 pa (by decide) (by decide)
  rw [show nI 0 = 0 from rfl] at I
  refine ⟨by rw [I.1, nI_up], fun k hk j hj => ?_, fun j hj => ?_⟩
  · unfold rowP
    rw [I.2, if_neg (by omega)]
  · unfold rowP
    rw [I.2, if_pos (by omega), show 35 * a + j - 35 * a = j by omega]
theorem rec_full {sv pa : Nat → Int32} : (sh_X5_records sv pa 4).2 = 4 ∧ (∀ k, k < 3 → ∀ j, j < 35 → rowP (sh_X5_records sv pa 4).1 k j = rowP pa (k + 1) j) ∧ ∀ j, j < 35 → rowP (sh_X5_records sv pa 4).1 3 j = sv j := by
  unfold sh_X5_records
  rw [if_pos rfl]
  obtain ⟨pa1, h1, h2⟩ := rec10 (sv := sv) (pn := 4) (((105 : Int32).toInt - (0 : Int32).toInt).toNat + 1) 0 pa (by decide) (by decide)
  rw [show nI 0 = 0 from rfl] at h2
  rw [h2]
  have I := rec49 (sv := sv) (a := 3) (by decide) (((35 : Int32).toInt - (0 : Int32).toInt).toNat + 1) 0 pa1 (by decide) (by decide)
  rw [show nI 0 = 0 from rfl, show nI 3 = (4 : Int32) - 1 from rfl] at I
  refine ⟨I.1, fun k hk j hj => ?_, fun j hj => ?_⟩
  · unfold rowP
    rw [I.2, if_neg (by omega), h1, if_pos (by omega), show 35 + (35 * k + j) = 35 * (k + 1) + j by omega]
  · unfold rowP
    rw [I.2, if_pos (by omega), show 35 * 3 + j - 35 * 3 = j by omega]
theorem und22 {pa : Nat → Int32} {a : Nat} (ha : a < 4) : ∀ (fu b : Nat) (sv : Nat → Int32), b ≤ 35 → 35 - b < fu →
    (lp_X5_undo_22 pa (nI a + 1) fu (nI b) sv).1 = nI a ∧ (lp_X5_undo_22 pa (nI a + 1) fu (nI b) sv).2.2 = nI a ∧ ∀ j, (lp_X5_undo_22 pa (nI a + 1) fu (nI b) sv).2.1 j = if b ≤ j ∧ j < 35 then pa (35 * a + j) else sv j := by
  have e1 : nI a + 1 - 1 = nI a := Int32.add_sub_cancel _ _
  intro fu
  induction fu with
  | zero => intro b pa _ h; exact absurd h (Nat.not_lt_zero _)
  | succ fu ih =>
    intro b sv hb hf
    rw [lp_X5_undo_22, e1]
    by_cases c : 35 ≤ b
    · rw [if_pos ((le35 (n := 35) (N := 35) rfl (by decide) (by omega)).mpr c)]
      exact ⟨rfl, rfl, fun j => by rw [if_neg (by omega)]⟩
    · rw [if_neg (fun e => c ((le35 (n := 35) (N := 35) rfl (by decide) (by omega)).mp e))]
      simp only [kb]
      rw [nI_up b, ix_row ha (by omega), nI_clamp (n := b) (by omega)]
      have I := ih (b + 1) (upd sv b (pa (35 * a + b))) (by omega) (by omega)
      refine ⟨I.1, I.2.1, fun j => ?_⟩
      rw [I.2.2 j]
      by_cases e : j = b
      · rw [if_neg (by omega), if_pos (by omega), e, pk_us]
      · rw [pk_un e]
        by_cases g : b ≤ j ∧ j < 35
        · rw [if_pos g, if_pos (by omega)]
        · rw [if_neg g, if_neg (by omega)]
theorem sav2 {sv : Nat → Int32} : ∀ (fu b : Nat) (sn : Nat → Int32), b ≤ 35 → 35 - b < fu →
    (lp_X5_save_2 sv fu (nI b) sn).1 = sh_X5_toner sv ∧ (lp_X5_save_2 sv fu (nI b) sn).2.2 = 1 ∧ ∀ j, (lp_X5_save_2 sv fu (nI b) sn).2.1 j = if b ≤ j ∧ j < 35 then sv j else sn j := by
  intro fu
  induction fu with
  | zero => intro b pa _ h; exact absurd h (Nat.not_lt_zero _)
  | succ fu ih =>
    intro b sn hb hf
    rw [lp_X5_save_2]
    by_cases c : 35 ≤ b
    · rw [if_pos ((le35 (n := 35) (N := 35) rfl (by decide) (by omega)).mpr c)]
      exact ⟨rfl, rfl, fun j => by rw [if_neg (by omega)]⟩
    · rw [if_neg (fun e => c ((le35 (n := 35) (N := 35) rfl (by decide) (by omega)).mp e))]
      simp only [kb]
      rw [nI_up, nI_clamp (n := b) (by omega)]
      have I := ih (b + 1) (upd sn b (sv b)) (by omega) (by omega)
      refine ⟨I.1, I.2.1, fun j => ?_⟩
      rw [I.2.2 j]
      by_cases e : j = b
      · rw [if_neg (by omega), if_pos (by omega), e, pk_us]
      · rw [pk_un e]
        by_cases g : b ≤ j ∧ j < 35
        · rw [if_pos g, if_pos (by omega)]
        · rw [if_neg g, if_neg (by omega)]
theorem res16 {f5 sn : Nat → Int32} {v6 : Int32} : ∀ (fu b : Nat) (sv : Nat → Int32), b ≤ 35 → 35 - b < fu →
    (lp_X5_restore_16 f5 v6 sn fu (nI b) sv).1 = sh_X5_toner (lp_X5_restore_16 f5 v6 sn fu (nI b) sv).2.1 ∧ (lp_X5_restore_16 f5 v6 sn fu (nI b) sv).2.2 = (f5, v6) ∧ ∀ j, (lp_X5_restore_16 f5 v6 sn fu (nI b) sv).2.1 j = if b ≤ j ∧ j < 35 then sn j else sv j := by
  intro fu
  induction fu with
  | zero => intro b pa _ h; exact absurd h (Nat.not_lt_zero _)
  | succ fu ih =>
    intro b sv hb hf
    rw [lp_X5_restore_16]
    by_cases c : 35 ≤ b
    · rw [if_pos ((le35 (n := 35) (N := 35) rfl (by decide) (by omega)).mpr c)]
      exact ⟨rfl, rfl, fun j => by rw [if_neg (by omega)]⟩
    · rw [if_neg (fun e => c ((le35 (n := 35) (N := 35) rfl (by decide) (by omega)).mp e))]
      simp only [kb]
      rw [nI_up, nI_clamp (n := b) (by omega)]
      have I := ih (b + 1) (upd sv b (sn b)) (by omega) (by omega)
      refine ⟨I.1, I.2.1, fun j => ?_⟩
      rw [I.2.2 j]
      by_cases e : j = b
      · rw [if_neg (by omega), if_pos (by omega), e, pk_us]
      · rw [pk_un e]
        by_cases g : b ≤ j ∧ j < 35
        · rw [if_pos g, if_pos (by omega)]
        · rw [if_neg g, if_neg (by omega)]
/-! the history of the two -/
def selM (M0 M1 M2 M3 : TMa) (i : Nat) : TMa := if i = 0 then M0 else if i = 1 then M1 else if i = 2 then M2 else M3
def HR (B : Int) (oo zz : Int32) (M0 M1 M2 M3 : TMa) (pa : Nat → Int32) (pn : Int32) : Prop :=
  vp_in oo 4 ∧ vp_in zz 5 ∧ zz = pn ∧ ∀ k, k < zz.toNatClampNeg → goodM B (selM M0 M1 M2 M3 ((oo.toNatClampNeg + k) % 4)) (rowP pa k)
theorem HR.mono {B B1 : Int} {oo zz pn : Int32} {M0 M1 M2 M3 : TMa} {pa : Nat → Int32} (h : HR B oo zz M0 M1 M2 M3 pa pn) (e : B ≤ B1) : HR B1 oo zz M0 M1 M2 M3 pa pn := ⟨h.1, h.2.1, h.2.2.1, fun k hk => (h.2.2.2 k hk).mono e⟩
theorem rem_ix {o z : Nat} (ho : o < 4) (hz : z < 5) : ((nI o + nI z) - (nI o + nI z) / 4 * 4).toNatClampNeg = (o + z) % 4 := by
  rw [nI_add, show (4 : Int32) = nI 4 from rfl, pk_rem (by omega) (by decide) (by decide), nI_clamp (by omega)]
/-- what keep does -/
theorem keep_nf {N M0 M1 M2 M3 : TMa} {o z : Nat} (ho : o < 4) (hz : z < 5) : ∃ L, (∀ B sv, goodM B N sv → goodM B L sv) ∧
    (sh_X0_keep N (nI o) (nI z) M0 M1 M2 M3).1 = (if z = 4 then nI ((o + 1) % 4) else nI o) ∧ (sh_X0_keep N (nI o) (nI z) M0 M1 M2 M3).2.1 = (if z = 4 then nI z else nI (z + 1)) ∧
    ∀ i, i < 4 → selM (sh_X0_keep N (nI o) (nI z) M0 M1 M2 M3).2.2.1 (sh_X0_keep N (nI o) (nI z) M0 M1 M2 M3).2.2.2.1 (sh_X0_keep N (nI o) (nI z) M0 M1 M2 M3).2.2.2.2.1 (sh_X0_keep N (nI o) (nI z) M0 M1 M2 M3).2.2.2.2.2 i = if i = (o + z) % 4 then L else selM M0 M1 M2 M3 i := by
  have r := rem_ix ho hz
  have r1 : (nI o + 1) - (nI o + 1) / 4 * 4 = nI ((o + 1) % 4) := by
    rw [nI_up, show (4 : Int32) = nI 4 from rfl, pk_rem (by omega) (by decide) (by decide)]
  have c4 : 4 ≤ nI z ↔ z = 4 := by
    rw [le35 (n := 4) (N := 4) rfl (by decide) (by omega)]
    omega
  unfold sh_X0_keep
  rw [r, r1, nI_up]
  simp only [c4]
  rcases (show (o + z) % 4 = 0 ∨ (o + z) % 4 = 1 ∨ (o + z) % 4 = 2 ∨ (o + z) % 4 = 3 by omega) with e | e | e | e
  · rw [e, if_pos rfl]
    refine ⟨likeM M0 N, fun B sv h => h.like, ?_⟩
    simp only [kb]
    by_cases c : z = 4
    · simp only [if_pos c]
      refine ⟨trivial, trivial, fun i hi => ?_⟩
      unfold selM
      by_cases i0 : i = 0
      · rw [if_pos i0, if_pos i0]
      · rw [if_neg i0, if_neg i0, if_neg i0]
    · simp only [if_neg c]
      refine ⟨trivial, trivial, fun i hi => ?_⟩
      unfold selM
      by_cases i0 : i = 0
      · rw [if_pos i0, if_pos i0]
      · rw [if_neg i0, if_neg i0, if_neg i0]
  · rw [e, if_neg (by decide), if_pos rfl]
    refine ⟨likeM M1 N, fun B sv h => h.like, ?_⟩
    simp only [kb]
    have fin : ∀ i, i < 4 → selM M0 (likeM M1 N) M2 M3 i = if i = 1 then likeM M1 N else selM M0 M1 M2 M3 i := fun i hi => by
      unfold selM
      rcases (show i = 0 ∨ i = 1 ∨ i = 2 ∨ i = 3 by omega) with rfl | rfl | rfl | rfl <;> rfl
    by_cases c : z = 4
    · simp only [if_pos c]
      exact ⟨trivial, trivial, fin⟩
    · simp only [if_neg c]
      exact ⟨trivial, trivial, fin⟩
  · rw [e, if_neg (by decide), if_neg (by decide), if_pos rfl]
    refine ⟨likeM M2 N, fun B sv h => h.like, ?_⟩
    simp only [kb]
    have fin : ∀ i, i < 4 → selM M0 M1 (likeM M2 N) M3 i = if i = 2 then likeM M2 N else selM M0 M1 M2 M3 i := fun i hi => by
      unfold selM
      rcases (show i = 0 ∨ i = 1 ∨ i = 2 ∨ i = 3 by omega) with rfl | rfl | rfl | rfl <;> rfl
    by_cases c : z = 4
    · simp only [if_pos c]
      exact ⟨trivial, trivial, fin⟩
    · simp only [if_neg c]
      exact ⟨trivial, trivial, fin⟩
  · rw [e, if_neg (by decide), if_neg (by decide), if_neg (by decide)]
    refine ⟨likeM M3 N, fun B sv h => h.like, ?_⟩
    simp only [kb]
    have fin : ∀ i, i < 4 → selM M0 M1 M2 (likeM M3 N) i = if i = 3 then likeM M3 N else selM M0 M1 M2 M3 i := fun i hi => by
      unfold selM
      rcases (show i = 0 ∨ i = 1 ∨ i = 2 ∨ i = 3 by omega) with rfl | rfl | rfl | rfl <;> rfl
    by_cases c : z = 4
    · simp only [if_pos c]
      exact ⟨trivial, trivial, fin⟩
    · simp only [if_neg c]
      exact ⟨trivial, trivial, fin⟩
/-- both keep the state before a call -/
theorem HR.keep {B : Int} {oo zz pn : Int32} {N M0 M1 M2 M3 : TMa} {sv pa : Nat → Int32} (h : HR B oo zz M0 M1 M2 M3 pa pn) (g : goodM B N sv) : HR B (sh_X0_keep N oo zz M0 M1 M2 M3).1 (sh_X0_keep N oo zz M0 M1 M2 M3).2.1 (sh_X0_keep N oo zz M0 M1 M2 M3).2.2.1 (sh_X0_keep N oo zz M0 M1 M2 M3).2.2.2.1 (sh_X0_keep N oo zz M0 M1 M2 M3).2.2.2.2.1 (sh_X0_keep N oo zz M0 M1 M2 M3).2.2.2.2.2 (sh_X5_records sv pa pn).1 (sh_X5_records sv pa pn).2 := by
  obtain ⟨h1, h2, rfl, h3⟩ := h
  obtain ⟨o, ho, rfl⟩ := vp_in_of h1 (by decide)
  obtain ⟨z, hz, rfl⟩ := vp_in_of h2 (by decide)
  obtain ⟨L, hL, k1, k2, k3⟩ := keep_nf (N := N) (M0 := M0) (M1 := M1) (M2 := M2) (M3 := M3) ho hz
  rw [nI_clamp (n := o) (by omega), nI_clamp (n := z) (by omega)] at h3
  generalize sh_X0_keep N (nI o) (nI z) M0 M1 M2 M3 = K at k1 k2 k3 ⊢
  by_cases c : z = 4
  · subst c
    rw [if_pos rfl] at k1 k2
    have R := rec_full (sv := sv) (pa := pa)
    rw [show nI 4 = (4 : Int32) from rfl] at k2 ⊢
    generalize sh_X5_records sv pa 4 = T at R ⊢
    obtain ⟨R1, R2, R3⟩ := R
    refine ⟨by rw [k1]; exact vp_in_nI (by omega) (by decide), by rw [k2]; exact k_in (by decide), by rw [k2, R1], fun k hk => ?_⟩
    rw [k2] at hk
    have hk : k < 4 := hk
    rw [k1, nI_clamp (by omega), k3 _ (by omega)]
    by_cases e : k = 3
    · subst e
      rw [if_pos (by omega)]
      exact (hL B sv g).cong R3
    · rw [if_neg (by omega), show ((o + 1) % 4 + k) % 4 = (o + (k + 1)) % 4 by omega]
      exact (h3 (k + 1) (by omega)).cong (R2 k (by omega))
  · rw [if_neg c] at k1 k2
    have R := rec_less (sv := sv) (pa := pa) (a := z) (by omega)
    generalize sh_X5_records sv pa (nI z) = T at R ⊢
    obtain ⟨R1, R2, R3⟩ := R
    refine ⟨by rw [k1]; exact vp_in_nI ho (by decide), by rw [k2]; exact vp_in_nI (by omega) (by decide), by rw [k2, R1], fun k hk => ?_⟩
    rw [k2, nI_clamp (by omega)] at hk
    rw [k1, nI_clamp (by omega), k3 _ (by omega)]
    by_cases e : k = z
    · subst e
      rw [if_pos rfl]
      exact (hL B sv g).cong R3
    · rw [if_neg (by omega)]
      exact (h3 k (by omega)).cong (R2 k (by omega))
