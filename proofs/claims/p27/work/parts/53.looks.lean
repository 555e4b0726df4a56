theorem dark01 {a b : Int32} (h : ¬ sh_X5_isDark a b = 0) : sh_X5_isDark a b = 1 := by
  unfold sh_X5_isDark at *
  split
  · rename_i c; rw [if_pos c] at h; exact absurd rfl h
  · rename_i c
    rw [if_neg c] at h
    split
    · rename_i c2; rw [if_pos c2] at h; exact absurd rfl h
    · rfl
theorem dark_same {a b : Int32} : sh_X1_wouldBeDark a b = sh_X5_isDark a b := rfl
section LKQ
variable {x : TMa} {sv : Nat → Int32} {se : Nat → Int32} {x1 x2 x3 sh most need : Int32}
theorem last_end {fw : Nat} {n hd st : Int32} : lp_X5_lastsFor_40 sv x1 x2 x3 sh most (fw + 1) n 0 hd st = (n, hd, st) := by
  rw [lp_X5_lastsFor_40, if_pos rfl]
theorem pl_eq {fu : Nat} {hi lo n : Int32} {p : Int32 × Int32} (a : ¬ most ≤ n) (hp : (if sh = 0 then (hi, lo) else (if (sh_X1_wouldBeDark hi need) = 0 then (if (sh_X1_wouldBeDark (hi + (lo / 2)) need) = 0 then (hi, lo) else ((hi + (lo / 2)), (lo - (lo / 2)))) else (hi, lo))) = p) :
    lp_X1_pagesLasting_19 se need sh most (fu + 1) hi lo n = if sh_X1_wouldBeDark p.1 need = 0 then n else lp_X1_pagesLasting_19 se need sh most fu ((p.1 - need) - (sh_X4_share (p.1 - need) (se (1 : Int32).toNatClampNeg))) (p.2 + (sh_X4_share (p.1 - need) (se (1 : Int32).toNatClampNeg))) (n + 1) := by
  rw [lp_X1_pagesLasting_19, if_neg a, hp]
  rfl
theorem lf_eq {fw : Nat} {hd st n : Int32} {p : Int32 × Int32} (a : ¬ most ≤ n) (hp : (if (sh_X5_isDark hd (sh_X5_need sv x1 x2 x3)) = 0 then (if sh = 0 then (hd, st) else ((hd + (st / 2)), (st - (st / 2)))) else (hd, st)) = p) :
    lp_X5_lastsFor_40 sv x1 x2 x3 sh most (fw + 1) n 1 hd st = if sh_X5_isDark p.1 (sh_X5_need sv x1 x2 x3) = 0 then lp_X5_lastsFor_40 sv x1 x2 x3 sh most fw n (sh_X5_isDark p.1 (sh_X5_need sv x1 x2 x3)) p.1 p.2 else lp_X5_lastsFor_40 sv x1 x2 x3 sh most fw (n + 1) (sh_X5_isDark p.1 (sh_X5_need sv x1 x2 x3)) ((p.1 - sh_X5_need sv x1 x2 x3) - ((p.1 - sh_X5_need sv x1 x2 x3) / (sv (32 : Int32).toNatClampNeg))) (p.2 + ((p.1 - sh_X5_need sv x1 x2 x3) / (sv (32 : Int32).toNatClampNeg))) := by
  rw [lp_X5_lastsFor_40, if_neg (show ¬ (1 : Int32) = 0 by decide), if_neg a, hp]
  rfl
theorem q_last (hs : ∀ a, sh_X4_share a (se (1 : Int32).toNatClampNeg) = a / sv (32 : Int32).toNatClampNeg) (hn : sh_X5_need sv x1 x2 x3 = need) : ∀ (fu fw : Nat) (hi lo n : Int32), n.toInt ≤ most.toInt → (most.toInt - n.toInt).toNat < fu → (most.toInt - n.toInt).toNat + 1 < fw →
    lp_X1_pagesLasting_19 se need sh most fu hi lo n = (lp_X5_lastsFor_40 sv x1 x2 x3 sh most fw n 1 hi lo).1 ∧ (lp_X5_lastsFor_40 sv x1 x2 x3 sh most fw n 1 hi lo).1.toInt ≤ most.toInt := by
  subst hn
  intro fu
  induction fu with
  | zero => intro fw hi lo n _ h; exact absurd h (Nat.not_lt_zero _)
  | succ fu ih =>
    intro fw hi lo n hm hf hw
    obtain ⟨fw, rfl⟩ : ∃ k, fw = k + 2 := ⟨fw - 2, by omega⟩
    by_cases a : most ≤ n
    · rw [lp_X1_pagesLasting_19, lp_X5_lastsFor_40, if_neg (show ¬ (1 : Int32) = 0 by decide), if_pos a, if_pos a]
      rw [Int32.le_iff_toInt_le] at a
      have e : most = n := Int32.toInt_inj.mp (by omega)
      exact ⟨e, hm⟩
    · have u := k_mu (x := most) (v := n) (n := (most.toInt - n.toInt).toNat) (by omega) a
      have g : (n + 1).toInt ≤ most.toInt := by
        rw [Int32.le_iff_toInt_le] at a
        have h1 := most.toInt_lt
        have h2 := n.le_toInt
        have o : (1 : Int32).toInt = 1 := rfl
        have e : (n + 1).toInt = n.toInt + 1 := by
          rw [Int32.toInt_add, o]
          exact Int.bmod_eq_of_le (by omega) (by omega)
        omega
      by_cases d0 : sh_X5_isDark hi (sh_X5_need sv x1 x2 x3) = 0
      · have w0 : sh_X1_wouldBeDark hi (sh_X5_need sv x1 x2 x3) = 0 := d0
        by_cases s0 : sh = 0
        · rw [pl_eq a (p := (hi, lo)) (by rw [if_pos s0]), lf_eq a (p := (hi, lo)) (by rw [if_pos d0, if_pos s0]), if_pos w0, if_pos d0, d0, last_end]
          exact ⟨rfl, hm⟩
        · by_cases d1 : sh_X5_isDark (hi + lo / 2) (sh_X5_need sv x1 x2 x3) = 0
          · have w1 : sh_X1_wouldBeDark (hi + lo / 2) (sh_X5_need sv x1 x2 x3) = 0 := d1
            rw [pl_eq a (p := (hi, lo)) (by rw [if_neg s0, if_pos w0, if_pos w1]), lf_eq a (p := (hi + lo / 2, lo - lo / 2)) (by rw [if_pos d0, if_neg s0]), if_pos w0, if_pos d1, d1, last_end]
            exact ⟨rfl, hm⟩
          · have w1 : ¬ sh_X1_wouldBeDark (hi + lo / 2) (sh_X5_need sv x1 x2 x3) = 0 := d1
            rw [pl_eq a (p := (hi + lo / 2, lo - lo / 2)) (by rw [if_neg s0, if_pos w0, if_neg w1]), lf_eq a (p := (hi + lo / 2, lo - lo / 2)) (by rw [if_pos d0, if_neg s0]), if_neg w1, if_neg d1, dark01 d1, hs]
            exact ih _ _ _ _ g (by omega) (by omega)
      · have w0 : ¬ sh_X1_wouldBeDark hi (sh_X5_need sv x1 x2 x3) = 0 := d0
        rw [pl_eq a (p := (hi, lo)) (by
          by_cases s0 : sh = 0
          · rw [if_pos s0]
          · rw [if_neg s0, if_neg w0]), lf_eq a (p := (hi, lo)) (by rw [if_neg d0]), if_neg w0, if_neg d0, dark01 d0, hs]
        exact ih _ _ _ _ g (by omega) (by omega)
theorem addup {f u n s : Int32} : f - (u + n) - s = f - u - s - n := by
  simp only [Int32.sub_sub]
  congr 1
  ac_rfl
theorem addup2 {f u s t : Int32} : f - u - (s + t) = f - u - s - t := by
  simp only [Int32.sub_sub]
  congr 1
  ac_rfl
/-- the two ways, where all pages are dark -/
theorem q_hand2 (hs : ∀ a, sh_X4_share a (se (1 : Int32).toNatClampNeg) = a / sv (32 : Int32).toNatClampNeg) (hn : sh_X5_need sv x1 x2 x3 = need) {ha : Nat → Int32} {c : Int32} : ∀ (fu fw : Nat) (hi lo n us st : Int32), n.toInt ≤ most.toInt → (most.toInt - n.toInt).toNat < fu → (most.toInt - n.toInt).toNat + 1 < fw → ha c.toNatClampNeg - us - st = hi →
    (lp_X5_lastsFor_40 sv x1 x2 x3 0 most fw n 1 hi lo).1 = most → lp_X1_handPageByPage_11 se need most fu hi n = (lp_X5_lastsFor_40 sv x1 x2 x3 0 most fw n 1 hi lo).2.1 ∧ lp_X1_handAddedUp_17 se ha c need most fu us st n = (lp_X5_lastsFor_40 sv x1 x2 x3 0 most fw n 1 hi lo).2.1 := by
  subst hn
  intro fu
  induction fu with
  | zero => intro fw hi lo n us st _ h; exact absurd h (Nat.not_lt_zero _)
  | succ fu ih =>
    intro fw hi lo n us st hm hf hw hh
    obtain ⟨fw, rfl⟩ : ∃ k, fw = k + 2 := ⟨fw - 2, by omega⟩
    rw [lp_X1_handPageByPage_11, lp_X1_handAddedUp_17, lp_X5_lastsFor_40, if_neg (show ¬ (1 : Int32) = 0 by decide)]
    by_cases a : most ≤ n
    · rw [if_pos a, if_pos a, if_pos a]
      exact fun _ => ⟨rfl, hh⟩
    · rw [if_neg a, if_neg a, if_neg a]
      simp only [kb, hs]
      have u := k_mu (x := most) (v := n) (n := (most.toInt - n.toInt).toNat) (by omega) a
      have g : (n + 1).toInt ≤ most.toInt := by
        rw [Int32.le_iff_toInt_le] at a
        have h1 := most.toInt_lt
        have h2 := n.le_toInt
        have o : (1 : Int32).toInt = 1 := rfl
        have e : (n + 1).toInt = n.toInt + 1 := by
          rw [Int32.toInt_add, o]
          exact Int.bmod_eq_of_le (by omega) (by omega)
        omega
      rw [if_pos trivial]
      have e2 : (if sh_X5_isDark hi (sh_X5_need sv x1 x2 x3) = 0 then (hi, lo) else (hi, lo)) = (hi, lo) := by split <;> rfl
      simp only [e2]
      by_cases d0 : sh_X5_isDark hi (sh_X5_need sv x1 x2 x3) = 0
      · rw [if_pos d0, d0, last_end]
        intro e
        exact absurd (by rw [show n = most from e, Int32.le_iff_toInt_le]; exact Int.le_refl _) a
      · rw [if_neg d0, dark01 d0]
        refine ih _ _ _ _ _ _ g (by omega) (by omega) ?_
        rw [addup2, addup, hh]
theorem share1 (h : mrel x sv) (hi : iv sv) : ∀ a, sh_X4_share a (x.1 (1 : Int32).toNatClampNeg) = a / sv (32 : Int32).toNatClampNeg := fun a => by
  have b : 2 ≤ (sv (32 : Int32).toNatClampNeg).toInt := hi.2.2.2.2.2.1.1
  rw [← q_set1 h, q_share (by omega)]
/-- how long a cup lasts -/
theorem q_lasts {c d k s m : Int32} (h : mrel x sv) (hi : iv sv) (hc : vp_in c 4) (hm : 0 ≤ m.toInt) : sh_X1_pagesLasting x.1 x.2.2.1 x.2.2.2.1 c (sh_X1_tonerFor x.2.1 c d k) s m = (sh_X5_lastsFor sv c d k s m).1 ∧ (sh_X5_lastsFor sv c d k s m).1.toInt ≤ m.toInt := by
  unfold sh_X1_pagesLasting sh_X5_lastsFor
  rw [q_hand h hc, q_settled h hc]
  exact q_last (share1 h hi) (q_need h hi hc d k) _ _ _ _ _ hm (Nat.lt_succ_self _) (by rw [if_neg (by decide)]; omega)
theorem q_shaken {c d k m : Int32} (h : mrel x sv) (hi : iv sv) (hc : vp_in c 4) (hm : 0 ≤ m.toInt) : (sh_X1_lastsShaken x.1 x.2.1 x.2.2.1 x.2.2.2.1 c d k m = 0) ↔ ¬ (sh_X5_lastsFor sv c d k 1 m).1 = m := by
  have e := q_lasts (d := d) (k := k) (s := 1) h hi hc hm
  unfold sh_X1_lastsShaken
  rw [e.1]
  generalize (sh_X5_lastsFor sv c d k 1 m).1 = r at e ⊢
  have e2 := e.2
  by_cases a : r < m
  · rw [if_pos a]
    refine ⟨fun _ g => ?_, fun _ => rfl⟩
    rw [g, Int32.lt_iff_toInt_lt] at a
    omega
  · rw [if_neg a]
    rw [Int32.lt_iff_toInt_lt] at a
    exact ⟨fun g => absurd g (by decide), fun g => absurd (Int32.toInt_inj.mp (by omega)) g⟩
theorem e_lasts {hd st : Int32} (h : mrel x sv) (hi : iv sv) : sh_X4_lasts x x1 x2 x3 = (sh_X5_lasts sv hd st x1 x2 x3).1 := by
  unfold sh_X4_lasts sh_X5_lasts
  rw [← q_isCup, ← q_isDots]
  by_cases a : sh_X4_isCup x1 = 0
  · rw [if_pos a, if_pos a]
  · rw [if_neg a, if_neg a]
    by_cases b : sh_X4_isDots x2 = 0
    · rw [if_pos b, if_pos b]
    · rw [if_neg b, if_neg b, ← q_set0 h]
      exact (q_lasts h hi (in_cup a) (by decide)).1
theorem e_atHand {hd st x4 : Int32} (h : mrel x sv) (hi : iv sv) : sh_X4_atHand x x1 x2 x3 x4 = (sh_X5_atHand sv hd st x1 x2 x3 x4).1 := by
  have z : (0 : Int32).toInt = 0 := rfl
  have o : (1 : Int32).toInt = 1 := rfl
  have f : (50 : Int32).toInt = 50 := rfl
  unfold sh_X4_atHand sh_X5_atHand
  rw [← q_isCup, ← q_isDots]
  by_cases a : sh_X4_isCup x1 = 0
  · rw [if_pos a, if_pos a]
  · rw [if_neg a, if_neg a]
    by_cases b : sh_X4_isDots x2 = 0
    · rw [if_pos b, if_pos b]
    · rw [if_neg b, if_neg b]
      by_cases c : sh_X5_in x3 0 50 = 0
      · rw [if_pos c]
        rw [in_iff] at c
        by_cases c1 : x3 < 0
        · rw [if_pos c1]
        · rw [if_neg c1, if_pos]
          rw [Int32.lt_iff_toInt_lt] at c1 ⊢
          omega
      · rw [if_neg c]
        rw [in_iff] at c
        rw [if_neg (show ¬ x3 < 0 by rw [Int32.lt_iff_toInt_lt]; omega), if_neg (show ¬ 50 < x3 by rw [Int32.lt_iff_toInt_lt]; omega)]
        by_cases d : sh_X5_in x4 0 1 = 0
        · rw [if_pos d]
          rw [in_iff] at d
          by_cases d1 : x4 < 0
          · rw [if_pos d1]
          · rw [if_neg d1, if_neg]
            rw [Int32.lt_iff_toInt_lt] at d1
            rw [Int32.le_iff_toInt_le]
            omega
        · rw [if_neg d]
          rw [in_iff] at d
          rw [if_neg (show ¬ x4 < 0 by rw [Int32.lt_iff_toInt_lt]; omega), if_pos (show x4 ≤ 1 by rw [Int32.le_iff_toInt_le]; omega)]
          have hc := in_cup a
          have h0 : 0 ≤ x3.toInt := by omega
          have e := q_lasts (d := x2) (k := x.1 (0 : Int32).toNatClampNeg) (s := 0) h hi hc h0
          have t := q_hand2 (x1 := x1) (x2 := x2) (x3 := x.1 (0 : Int32).toNatClampNeg) (most := x3) (share1 h hi) (q_need h hi hc _ _) (ha := x.2.2.1) (c := x1) ((x3.toInt - (0 : Int32).toInt).toNat + 1) ((x3.toInt - (0 : Int32).toInt).toNat + 2) (x.2.2.1 x1.toNatClampNeg) (x.2.2.2.1 x1.toNatClampNeg) 0 0 0 (by rw [z]; exact h0) (Nat.lt_succ_self _) (Nat.lt_succ_self _) (by rw [Int32.sub_zero, Int32.sub_zero])
          rw [e.1, q_set0 h]
          have u : sh_X5_lastsFor sv x1 x2 (x.1 (0 : Int32).toNatClampNeg) 0 x3 = lp_X5_lastsFor_40 sv x1 x2 (x.1 (0 : Int32).toNatClampNeg) 0 x3 ((x3.toInt - (0 : Int32).toInt).toNat + 2) 0 1 (x.2.2.1 x1.toNatClampNeg) (x.2.2.2.1 x1.toNatClampNeg) := by
            unfold sh_X5_lastsFor
            rw [q_hand h hc, q_settled h hc, if_neg (by decide)]
          rw [← u] at t
          have e2 := e.2
          generalize sh_X5_lastsFor sv x1 x2 (x.1 (0 : Int32).toNatClampNeg) 0 x3 = L at t e2 ⊢
          simp only [kb]
          by_cases g : L.1 = x3
          · rw [if_pos g, if_pos (by rw [g, Int32.le_iff_toInt_le]; exact Int.le_refl _)]
            have t := t g
            unfold sh_X1_handPageByPage sh_X1_handAddedUp
            split
            · exact t.1
            · exact t.2
          · rw [if_neg g, if_neg]
            rw [Int32.le_iff_toInt_le]
            exact fun q => g (Int32.toInt_inj.mp (by omega))
theorem job_pos (b : ¬ sh_X5_in x3 1 50 = 0) : 0 ≤ x3.toInt := by
  rw [in_iff] at b
  have o : (1 : Int32).toInt = 1 := rfl
  omega
theorem e_darkest {hd st : Int32} (h : mrel x sv) (hi : iv sv) : sh_X4_darkest x x1 x2 x3 = (sh_X5_darkest sv hd st x1 x2 x3).1 := by
  unfold sh_X4_darkest sh_X5_darkest
  rw [← q_isCup, ← q_isDots, q_isJobLength]
  by_cases a : sh_X4_isCup x1 = 0
  · rw [if_pos a, if_pos a]
  · rw [if_neg a, if_neg a]
    by_cases b : sh_X4_isDots x2 = 0
    · rw [if_pos b, if_pos b]
    · rw [if_neg b, if_neg b]
      by_cases c : sh_X5_in x3 1 50 = 0
      · rw [if_pos c, if_pos c]
      · rw [if_neg c, if_neg c]
        have hc := in_cup a
        have h0 := job_pos c
        have q := fun k => q_shaken (d := x2) (k := k) (m := x3) h hi hc h0
        simp only [kb, q]
        generalize (sh_X5_lastsFor sv x1 x2 5 1 x3).1 = r5
        generalize (sh_X5_lastsFor sv x1 x2 4 1 x3).1 = r4
        generalize (sh_X5_lastsFor sv x1 x2 3 1 x3).1 = r3
        generalize (sh_X5_lastsFor sv x1 x2 2 1 x3).1 = r2
        generalize (sh_X5_lastsFor sv x1 x2 1 1 x3).1 = r1
        by_cases d5 : r5 = x3
        · simp [d5]
        · by_cases d4 : r4 = x3
          · simp [d5, d4]
          · by_cases d3 : r3 = x3
            · simp [d5, d4, d3]
            · by_cases d2 : r2 = x3
              · simp [d5, d4, d3, d2]
              · simp [d5, d4, d3, d2]
theorem q_best (h : mrel x sv) (hi : iv sv) (h0 : 0 ≤ x2.toInt) : ∀ (fu : Nat) (b l4 c hd st : Int32), ¬ c < 0 → ((4 : Int32).toInt - c.toInt).toNat < fu → (b = -4 ∨ (vp_in b 4 ∧ l4 = sh_X5_tonerOf sv b)) →
    lp_X4_bestFor_25 x x1 x2 fu b l4 c = (lp_X5_bestFor_25 sv x1 x2 fu c b hd st).1 := by
  intro fu
  induction fu with
  | zero => intro b l4 c hd st _ h; exact absurd h (Nat.not_lt_zero _)
  | succ fu ih =>
    intro b l4 c hd st hc hf hb
    rw [lp_X4_bestFor_25, lp_X5_bestFor_25]
    by_cases a : 4 ≤ c
    · rw [if_pos a, if_pos a]
    · rw [if_neg a, if_neg a]
      have hc4 : vp_in c 4 := vp_of_le hc a rfl
      have u := k_mu hf a
      have up := k_up hc a (by decide)
      have q := q_shaken (d := x1) (k := x.1 (0 : Int32).toNatClampNeg) (m := x2) h hi hc4 h0
      rw [q_set0 h]
      generalize sh_X1_lastsShaken x.1 x.2.1 x.2.2.1 x.2.2.2.1 c x1 (x.1 (0 : Int32).toNatClampNeg) x2 = s at q ⊢
      generalize sh_X5_lastsFor sv c x1 (x.1 (0 : Int32).toNatClampNeg) 1 x2 = L at q ⊢
      simp only [kb]
      by_cases g : L.1 = x2
      · have s0 : ¬ s = 0 := fun e => (q.mp e) g
        rw [if_neg s0, if_pos g, if_neg (show ¬ (1 : Int32) = 0 by decide), ← q_toner h hc4]
        by_cases e : b = -4
        · rw [if_pos e, if_pos e]
          exact ih _ _ _ _ _ up u (Or.inr ⟨hc4, rfl⟩)
        · rw [if_neg e, if_neg e]
          obtain ⟨b1, b2⟩ := hb.resolve_left e
          rw [← b2]
          by_cases w : l4 ≤ sh_X5_tonerOf sv c
          · rw [if_pos w, if_pos w]
            exact ih _ _ _ _ _ up u (Or.inr ⟨b1, b2⟩)
          · rw [if_neg w, if_neg w]
            exact ih _ _ _ _ _ up u (Or.inr ⟨hc4, rfl⟩)
      · rw [if_pos (q.mpr g), if_neg g, if_pos rfl]
        exact ih _ _ _ _ _ up u hb
theorem e_bestFor {hd st : Int32} (h : mrel x sv) (hi : iv sv) : sh_X4_bestFor x x1 x2 = (sh_X5_bestFor sv hd st x1 x2).1 := by
  unfold sh_X4_bestFor sh_X5_bestFor
  rw [← q_isDots, q_isJobLength]
  by_cases b : sh_X4_isDots x1 = 0
  · rw [if_pos b, if_pos b]
  · rw [if_neg b, if_neg b]
    by_cases c : sh_X5_in x2 1 50 = 0
    · rw [if_pos c, if_pos c]
    · rw [if_neg c, if_neg c]
      exact q_best h hi (job_pos c) _ _ _ _ _ _ (by decide) (Nat.lt_succ_self _) (Or.inl rfl)
theorem dec4_if {v : Int32} : (if v = -1 then (-4 : Int32) else v) = dec4 v := rfl
theorem e_cup (h : mrel x sv) (hi : iv sv) : sh_X4_cup x x1 x2 = sh_X5_cup sv x1 x2 := by
  unfold sh_X4_cup sh_X5_cup
  rw [← q_isCup]
  by_cases a : sh_X4_isCup x1 = 0
  · rw [if_pos a, if_pos a]
  · rw [if_neg a, if_neg a]
    have hc := in_cup a
    rw [q_kind h hc, h.2.1 _ (k_cl hc).1, q_hand h hc, q_settled h hc, q_chip h hc, dec4_if, q_where h hi hc, q_scale h hi hc, q_left h hi hc, q_toner h hc]
theorem e_printer (h : mrel x sv) : sh_X4_printer x x1 x2 = sh_X5_printer sv x1 x2 := by
  unfold sh_X4_printer sh_X5_printer
  rw [← q_isPrinter]
  by_cases a : sh_X4_isPrinter x1 = 0
  · rw [if_pos a, if_pos a]
  · rw [if_neg a, if_neg a]
    have hq := in_prn a
    have lq := (k_cl hq).1
    have e18 := q_ix (k := 18) (m := 18) hq rfl (by decide) (by decide)
    have e20 := q_ix (k := 20) (m := 20) hq rfl (by decide) (by decide)
    have e22 := q_ix (k := 22) (m := 22) hq rfl (by decide) (by decide)
    have e24 := q_ix (k := 24) (m := 24) hq rfl (by decide) (by decide)
    have e26 := q_ix (k := 26) (m := 26) hq rfl (by decide) (by decide)
    rw [q_ciN h hq, dec4_if, dec4_if, e18, e20, e22, e24, e26, h.2.2.2.2.2.2.1 _ lq, h.2.2.2.2.2.2.2.1 _ lq, h.2.2.2.2.2.2.2.2.1 _ lq, h.2.2.2.2.2.2.2.2.2.1 _ lq, h.2.2.2.2.2.2.2.2.2.2.1 _ lq]
theorem e_needs (h : mrel x sv) (hi : iv sv) : sh_X4_needs x x1 x2 x3 = sh_X5_needs sv x1 x2 x3 := by
  have z : (0 : Int32).toInt = 0 := rfl
  have o : (1 : Int32).toInt = 1 := rfl
  unfold sh_X4_needs sh_X5_needs
  rw [← q_isCup, ← q_isDots]
  by_cases a : sh_X4_isCup x1 = 0
  · rw [if_pos a, if_pos a]
  · rw [if_neg a, if_neg a]
    by_cases b : sh_X4_isDots x2 = 0
    · rw [if_pos b, if_pos b]
    · rw [if_neg b, if_neg b]
      have hc := in_cup a
      by_cases e0 : x3 = 0
      · rw [if_pos e0, if_neg (by rw [in_iff, e0]; decide), if_pos e0, q_set0 h, q_need h hi hc]
      · rw [if_neg e0]
        by_cases e1 : x3 = 1
        · rw [if_pos e1, if_neg (by rw [in_iff, e1]; decide), if_neg e0, q_counted h hi hc]
        · rw [if_neg e1, if_pos]
          rw [in_iff]
          have n0 := k_ne e0
          have n1 := k_ne e1
          omega
theorem e_whyNot (h : mrel x sv) (hi : iv sv) : sh_X4_whyNot x x1 = sh_X5_whyNot sv x1 := by
  unfold sh_X4_whyNot sh_X5_whyNot
  rw [← q_isPrinter]
  by_cases a : sh_X4_isPrinter x1 = 0
  · rw [if_pos a, if_pos a]
  · rw [if_neg a, if_neg a, q_reason h hi (in_prn a)]
theorem q_inside (h : mrel x sv) (hi : iv sv) {q : Int32} (hq : vp_in q 2) : sh_X4_isCup (x.2.2.2.2.2.1 q.toNatClampNeg) = 0 ↔ sv (16 + q).toNatClampNeg = -1 := by
  rw [q_ciN h hq]
  by_cases a : sv (16 + q).toNatClampNeg = -1
  · rw [a, dec4_no]; exact ⟨fun _ => rfl, fun _ => isCup_no⟩
  · have hc := iv_cup hi hq a
    rw [dec4_in hc, isCup_in hc]
    exact ⟨fun e => absurd e (by decide), fun e => absurd e a⟩
theorem q_pages (h : mrel x sv) : sh_X1_darkOfAll x.2.2.2.2.2.2.1 = sh_X5_darkPages sv ∧ sh_X1_darkOfAll x.2.2.2.2.2.2.1 + sh_X1_lightOfAll x.2.2.2.2.2.2.2.1 = sh_X5_allPages sv := by
  unfold sh_X1_darkOfAll sh_X1_lightOfAll sh_X5_allPages sh_X5_darkPages
  have d0 : x.2.2.2.2.2.2.1 (0 : Int32).toNatClampNeg = sv (18 : Int32).toNatClampNeg := h.2.2.2.2.2.2.1 0 (by decide)
  have d1 : x.2.2.2.2.2.2.1 (1 : Int32).toNatClampNeg = sv (19 : Int32).toNatClampNeg := h.2.2.2.2.2.2.1 1 (by decide)
  have l0 : x.2.2.2.2.2.2.2.1 (0 : Int32).toNatClampNeg = sv (20 : Int32).toNatClampNeg := h.2.2.2.2.2.2.2.1 0 (by decide)
  have l1 : x.2.2.2.2.2.2.2.1 (1 : Int32).toNatClampNeg = sv (21 : Int32).toNatClampNeg := h.2.2.2.2.2.2.2.1 1 (by decide)
  rw [d0, d1, l0, l1]
  exact ⟨rfl, (Int32.add_assoc _ _ _).symm⟩
theorem e_count {zz ln : Int32} (h : mrel x sv) (hi : iv sv) : sh_X4_count x zz ln x1 = sh_X5_count sv zz ln x1 := by
  unfold sh_X4_count sh_X5_count
  have i0 := q_inside h hi (q := 0) (k_in (by decide))
  have i1 := q_inside h hi (q := 1) (k_in (by decide))
  have c5 : sh_X1_cupsInside x.2.2.2.2.2.1 = (kb (α := (Int32)) (if (sv (16 : Int32).toNatClampNeg) = (-1) then 0 else 1) (fun z_v23 => (kb (α := (Int32)) (if (sv (17 : Int32).toNatClampNeg) = (-1) then 0 else 1) (fun z_v26 => (z_v23 + z_v26))))) := by
    have i0 : sh_X4_isCup (x.2.2.2.2.2.1 (0 : Int32).toNatClampNeg) = 0 ↔ sv (16 : Int32).toNatClampNeg = -1 := i0
    have i1 : sh_X4_isCup (x.2.2.2.2.2.1 (1 : Int32).toNatClampNeg) = 0 ↔ sv (17 : Int32).toNatClampNeg = -1 := i1
    unfold sh_X1_cupsInside
    simp only [kb, i0, i1]
    by_cases a : sv (16 : Int32).toNatClampNeg = -1
    · by_cases b : sv (17 : Int32).toNatClampNeg = -1
      · rw [if_pos a, if_pos b, if_pos b]; rfl
      · rw [if_pos a, if_neg b, if_neg b]
    · by_cases b : sv (17 : Int32).toNatClampNeg = -1
      · rw [if_neg a, if_pos b, if_pos b]; rfl
      · rw [if_neg a, if_neg b, if_neg b]
  have s0 : x.1 ((8 : Int32) - 8).toNatClampNeg = sv ((31 + (8 : Int32)) - 8).toNatClampNeg := h.1 0 (by decide)
  have s1 : x.1 ((9 : Int32) - 8).toNatClampNeg = sv ((31 + (9 : Int32)) - 8).toNatClampNeg := h.1 1 (by decide)
  have s2 : x.1 ((10 : Int32) - 8).toNatClampNeg = sv ((31 + (10 : Int32)) - 8).toNatClampNeg := h.1 2 (by decide)
  have s3 : x.1 ((11 : Int32) - 8).toNatClampNeg = sv ((31 + (11 : Int32)) - 8).toNatClampNeg := h.1 3 (by decide)
  have u28 : x.2.2.2.2.2.2.2.2.2.2.2.1 = sv (28 : Int32).toNatClampNeg := h.2.2.2.2.2.2.2.2.2.2.2.1
  have u29 : x.2.2.2.2.2.2.2.2.2.2.2.2.1 = sv (29 : Int32).toNatClampNeg := h.2.2.2.2.2.2.2.2.2.2.2.2.1
  have u30 : x.2.2.2.2.2.2.2.2.2.2.2.2.2 = sv (30 : Int32).toNatClampNeg := h.2.2.2.2.2.2.2.2.2.2.2.2.2
  rw [← q_allToner h, u28, u29, u30, (q_pages h).2, c5, ← q_allLeft h hi, ← q_boasts h hi]
  by_cases e8 : x1 = 8
  · subst e8; rw [s0]
  · by_cases e9 : x1 = 9
    · subst e9; rw [s1]
    · by_cases e10 : x1 = 10
      · subst e10; rw [s2]
      · by_cases e11 : x1 = 11
        · subst e11; rw [s3]
        · simp only [if_neg e8, if_neg e9, if_neg e10, if_neg e11]
/-- the counts of pages -/
def pgC (B : Int) (sv : Nat → Int32) : Prop := ∀ k, 18 ≤ k → k < 24 → 0 ≤ (sv k).toInt ∧ (sv k).toInt ≤ B
/-- toner in all cups, used and spilt, less what was refilled -/
def totT (sv : Nat → Int32) : Int32 := (((sv 4 + sv 8) + (sv 5 + sv 9)) + ((sv 6 + sv 10) + (sv 7 + sv 11))) + sv 28 + sv 29 - sv 30
/-- a printer's counts hang together -/
def prnB (B : Int) (sv : Nat → Int32) (q : Nat) : Prop := (sv (18 + q)).toInt + (sv (20 + q)).toInt ≤ (sv (24 + q)).toInt ∧ (sv (24 + q)).toInt ≤ 500 * B ∧ ((sv (26 + q) = -1 ∧ (sv (18 + q)).toInt + (sv (20 + q)).toInt = 0) ∨ (0 ≤ (sv (26 + q)).toInt ∧ (sv (26 + q)).toInt ≤ 100 ∧ 0 < (sv (18 + q)).toInt + (sv (20 + q)).toInt))
def pgB (B : Int) (sv : Nat → Int32) : Prop := pgC B sv ∧ totT sv = 16000 ∧ ∀ q, q < 2 → prnB B sv q
theorem e_darkness {B : Int} (h : mrel x sv) (hb : pgB B sv) (hB : B ≤ 500000000) : sh_X4_darkness x = sh_X5_darkness sv := by
  unfold sh_X4_darkness sh_X5_darkness
  rw [(q_pages h).2, (q_pages h).1]
  have b0 := hb.1 18 (by decide) (by decide)
  have b1 := hb.1 19 (by decide) (by decide)
  have b2 := hb.1 20 (by decide) (by decide)
  have b3 := hb.1 21 (by decide) (by decide)
  have z : (0 : Int32).toInt = 0 := rfl
  have p : 0 ≤ (sh_X5_allPages sv).toInt := by
    unfold sh_X5_allPages sh_X5_darkPages
    rw [show (18 : Int32).toNatClampNeg = 18 from rfl, show (19 : Int32).toNatClampNeg = 19 from rfl, show (20 : Int32).toNatClampNeg = 20 from rfl, show (21 : Int32).toNatClampNeg = 21 from rfl]
    have a1 : (sv 18 + sv 19).toInt = (sv 18).toInt + (sv 19).toInt := by
      rw [Int32.toInt_add]; exact Int.bmod_eq_of_le (by omega) (by omega)
    have a2 : (sv 18 + sv 19 + sv 20).toInt = (sv 18).toInt + (sv 19).toInt + (sv 20).toInt := by
      rw [Int32.toInt_add, a1]; exact Int.bmod_eq_of_le (by omega) (by omega)
    rw [Int32.toInt_add, a2]
    rw [Int.bmod_eq_of_le (by omega) (by omega)]
    omega
  by_cases a : sh_X5_allPages sv = 0
  · rw [if_pos a, if_pos (by rw [a]; decide)]
  · rw [if_neg a, if_neg]
    have n := k_ne a
    rw [Int32.le_iff_toInt_le]
    omega
end LKQ
