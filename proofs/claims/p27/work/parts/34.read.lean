/-- the pads are alike, and hold signs -/
def padr (sg pd : Nat → Int32) (ln : Int32) : Prop := vp_in ln 61 ∧ ∀ i : Nat, (i : Int) < ln.toInt → sg i = pd i ∧ 33 ≤ (pd i).toInt ∧ (pd i).toInt ≤ 126
theorem in_iff {a lo hi : Int32} : sh_X5_in a lo hi = 0 ↔ ¬ (lo.toInt ≤ a.toInt ∧ a.toInt ≤ hi.toInt) := by
  unfold sh_X5_in
  split
  · rename_i c
    rw [Int32.lt_iff_toInt_lt] at c
    exact ⟨fun _ => by omega, fun _ => rfl⟩
  · rename_i c
    rw [Int32.lt_iff_toInt_lt] at c
    split
    · rename_i c2
      rw [Int32.lt_iff_toInt_lt] at c2
      exact ⟨fun _ => by omega, fun _ => rfl⟩
    · rename_i c2
      rw [Int32.lt_iff_toInt_lt] at c2
      exact ⟨fun e => absurd e (by decide), fun e => absurd (by omega) e⟩
section RDQ
variable {sg pd : Nat → Int32} {ln po : Int32}
theorem up1_to (hp : poOK po ln) : (po + 1).toInt = po.toInt + 1 := by
  have h := hp.1
  rw [vp_in_iff] at h
  have e : (1 : Int32).toInt = 1 := rfl
  rw [iadd_to (by omega) (by omega), e]
theorem nx_end (c : ln ≤ po) : sh_X5_next pd ln po = 0 := by
  simp only [sh_X5_next, kb, if_pos c]
theorem nx_in (h : padr sg pd ln) (hp : poOK po ln) (c : ¬ ln ≤ po) : sh_X5_next pd ln po = sg po.toNatClampNeg ∧ 33 ≤ (sg po.toNatClampNeg).toInt ∧ (sg po.toNatClampNeg).toInt ≤ 126 := by
  have e := k_cl (po_in hp c)
  have g := h.2 po.toNatClampNeg (by
    rw [Int32.le_iff_toInt_le] at c
    omega)
  refine ⟨?_, ?_⟩
  · simp only [sh_X5_next, kb, if_neg c]
    exact g.1.symm
  · rw [g.1]; exact g.2
theorem nx_rg (h : padr sg pd ln) (hp : poOK po ln) : 0 ≤ (sh_X5_next pd ln po).toInt ∧ (sh_X5_next pd ln po).toInt ≤ 126 := by
  by_cases c : ln ≤ po
  · rw [nx_end c]; decide
  · have g := nx_in h hp c
    rw [g.1]; omega
theorem nx_48 (h : padr sg pd ln) (hp : poOK po ln) : (sh_X5_next pd ln po - 48).toInt = (sh_X5_next pd ln po).toInt - 48 := by
  have g := nx_rg h hp
  have e : (48 : Int32).toInt = 48 := rfl
  rw [isub_to (by omega) (by omega), e]
theorem nx_ne (h : ¬ sh_X5_next pd ln po = 0) : ¬ ln ≤ po := fun c => h (nx_end c)
theorem q_read (h : padr sg pd ln) (hp : poOK po ln) {x : Int32} (hx : ¬ x = 0) : sh_X2_read sg ln po x = if sh_X5_next pd ln po = x then (1, po + 1) else (0, po) := by
  unfold sh_X2_read
  by_cases c : ln ≤ po
  · rw [if_pos c, nx_end c, if_neg (fun e => hx e.symm)]
  · rw [if_neg c, (nx_in h hp c).1]
theorem q_sign {x : Int32} : sh_X5_sign pd ln po 0 x = if sh_X5_next pd ln po = x then (po + 1, 0) else (po, 1) := by
  by_cases a : sh_X5_next pd ln po = x
  · simp [sh_X5_sign, kb, a]
  · simp [sh_X5_sign, kb, a]
theorem q_sign1 {x w : Int32} (hw : ¬ w = 0) : sh_X5_sign pd ln po w x = (po, 1) := by
  simp [sh_X5_sign, kb, hw]
theorem q_digit {x y : Int32} : sh_X5_digit pd ln po 0 x y = if sh_X5_in (sh_X5_next pd ln po - 48) x y = 0 then (sh_X5_next pd ln po - 48, po, 1) else (sh_X5_next pd ln po - 48, po + 1, 0) := by
  by_cases a : sh_X5_in (sh_X5_next pd ln po - 48) x y = 0
  · simp [sh_X5_digit, kb, a]
  · simp [sh_X5_digit, kb, a]
theorem q_digit1 {x y w : Int32} (hw : ¬ w = 0) : sh_X5_digit pd ln po w x y = (sh_X5_next pd ln po - 48, po, 1) := by
  simp [sh_X5_digit, kb, hw]
theorem q_below (h : padr sg pd ln) (hp : poOK po ln) {x y : Int32} (hy : x.toInt = y.toInt + 1) : sh_X2_readBelow sg ln po x = if sh_X5_in (sh_X5_next pd ln po - 48) 0 y = 0 then (-4, po) else (sh_X5_next pd ln po - 48, po + 1) := by
  have z : (0 : Int32).toInt = 0 := rfl
  have r := nx_48 h hp
  simp only [sh_X2_readBelow, kb]
  by_cases c : ln ≤ po
  · rw [if_pos c, if_pos (by decide), if_pos]
    rw [in_iff, r, nx_end c]
    omega
  · rw [if_neg c]
    rw [(nx_in h hp c).1] at r ⊢
    generalize sg po.toNatClampNeg - 48 = d at r ⊢
    by_cases a : d < 0
    · rw [if_pos a, if_pos]
      rw [Int32.lt_iff_toInt_lt] at a
      rw [in_iff]; omega
    · rw [if_neg a]
      by_cases b : d < x
      · rw [if_pos b, if_neg]
        rw [Int32.lt_iff_toInt_lt] at a b
        rw [in_iff]; omega
      · rw [if_neg b, if_pos]
        rw [Int32.lt_iff_toInt_lt] at a b
        rw [in_iff]; omega
theorem number1 {x y w : Int32} (hw : ¬ w = 0) : (sh_X5_number pd ln po w x y).2 = (po, 1) := by
  simp [sh_X5_number, kb, q_digit1 hw, lp_X5_number_22]
theorem up1_le (hp : poOK po ln) (c : ¬ ln ≤ po) : (po + 1).toInt ≤ ln.toInt := by
  rw [up1_to hp]
  rw [Int32.le_iff_toInt_le] at c
  omega
theorem grown_to {n d : Int32} (h0 : 0 ≤ n.toInt) (h1 : n.toInt ≤ 999) (h2 : 0 ≤ d.toInt) (h3 : d.toInt ≤ 126) : (10 * n + d).toInt = 10 * n.toInt + d.toInt := by
  have e : (10 : Int32).toInt = 10 := rfl
  have m : (10 * n).toInt = 10 * n.toInt := by
    rw [Int32.toInt_mul, e]
    exact Int.bmod_eq_of_le (by omega) (by omega)
  rw [iadd_to (by omega) (by omega), m]
theorem grown_eq {n c : Int32} : 10 * n + (c - 48) = 10 * n + c - 48 := by
  rw [Int32.sub_eq_add_neg, Int32.sub_eq_add_neg, Int32.add_assoc]
theorem q_numb {x y : Int32} (h : padr sg pd ln) (hy : y.toInt ≤ 999) : ∀ (fu fw : Nat) (n q : Int32), poOK q ln → q.toInt ≤ ln.toInt → 1 ≤ n.toInt → n.toInt ≤ y.toInt → (ln.toInt - q.toInt).toNat < fu → (ln.toInt - q.toInt).toNat + 1 < fw →
    lp_X2_readNumber_8 sg ln x y fu n q q = (if (lp_X5_number_22 0 pd ln x y fw n 1 q).2.2 = 0 then ((lp_X5_number_22 0 pd ln x y fw n 1 q).1, (lp_X5_number_22 0 pd ln x y fw n 1 q).2.1) else (-4, (lp_X5_number_22 0 pd ln x y fw n 1 q).2.1)) ∧
    ((lp_X5_number_22 0 pd ln x y fw n 1 q).2.2 = 0 → x.toInt ≤ (lp_X5_number_22 0 pd ln x y fw n 1 q).1.toInt ∧ (lp_X5_number_22 0 pd ln x y fw n 1 q).1.toInt ≤ y.toInt ∧ (lp_X5_number_22 0 pd ln x y fw n 1 q).2.1.toInt ≤ ln.toInt) := by
  intro fu
  induction fu with
  | zero => intro fw n q _ _ _ _ h; exact absurd h (Nat.not_lt_zero _)
  | succ fu ih =>
    intro fw n q hq hl n1 n2 hf hw
    obtain ⟨fw, rfl⟩ : ∃ k, fw = k + 2 := ⟨fw - 2, by omega⟩
    have z : (0 : Int32).toInt = 0 := rfl
    have e9 : (9 : Int32).toInt = 9 := rfl
    have e48 : (48 : Int32).toInt = 48 := rfl
    have e57 : (57 : Int32).toInt = 57 := rfl
    -- the end of both
    have fin : ∀ R, R = (if n < x then ((-4 : Int32), q) else (n, q)) → ∀ T : Int32 × Int32 × Int32, T = (n, q, if x ≤ n then 0 else 1) → (R = if T.2.2 = 0 then (T.1, T.2.1) else (-4, T.2.1)) ∧ (T.2.2 = 0 → x.toInt ≤ T.1.toInt ∧ T.1.toInt ≤ y.toInt ∧ T.2.1.toInt ≤ ln.toInt) := by
      intro R hR T hT
      subst hR hT
      by_cases a : n < x
      · rw [if_pos a]
        have b : ¬ x ≤ n := by rw [Int32.le_iff_toInt_le]; rw [Int32.lt_iff_toInt_lt] at a; omega
        simp only [if_neg b]
        exact ⟨by rw [if_neg (by decide)], fun e => absurd e (by decide)⟩
      · rw [if_neg a]
        have b : x ≤ n := by rw [Int32.le_iff_toInt_le]; rw [Int32.lt_iff_toInt_lt] at a; omega
        simp only [if_pos b]
        rw [Int32.le_iff_toInt_le] at b
        exact ⟨by rw [if_pos trivial], fun _ => ⟨b, n2, hl⟩⟩
    have stop : ∀ (v : Int32), v = 0 → lp_X5_number_22 0 pd ln x y (fw + 1) (if v = 0 then n else 10 * n + sh_X5_next pd ln q - 48) v (q + if v = 0 then 0 else 1) = (n, q, if x ≤ n then 0 else 1) := by
      intro v hv
      subst hv
      simp [lp_X5_number_22, kb]
    have g := nx_rg h hq
    have r48 := nx_48 h hq
    by_cases c : ln ≤ q
    · have e : lp_X5_number_22 0 pd ln x y (fw + 2) n 1 q = (n, q, if x ≤ n then 0 else 1) := by
        rw [lp_X5_number_22, if_neg (by decide)]
        simp only [kb]
        rw [if_pos (show sh_X5_in (sh_X5_next pd ln q) 48 57 = 0 by rw [in_iff, nx_end c]; omega)]
        exact stop 0 rfl
      refine fin _ ?_ _ e
      rw [lp_X2_readNumber_8, if_pos c]
    · have i := nx_in h hq c
      have u := k_mu (x := ln) (v := q) (n := (ln.toInt - q.toInt).toNat) (by omega) c
      rw [i.1] at r48 g
      by_cases a : sh_X5_in (sh_X5_next pd ln q) 48 57 = 0
      · have e : lp_X5_number_22 0 pd ln x y (fw + 2) n 1 q = (n, q, if x ≤ n then 0 else 1) := by
          rw [lp_X5_number_22, if_neg (by decide)]
          simp only [kb]
          rw [if_pos a]
          exact stop 0 rfl
        refine fin _ ?_ _ e
        rw [in_iff, i.1, e48, e57] at a
        rw [lp_X2_readNumber_8, if_neg c]
        by_cases a1 : sg q.toNatClampNeg - 48 < 0
        · rw [if_pos a1]
        · rw [if_neg a1, if_pos]
          rw [Int32.lt_iff_toInt_lt] at a1 ⊢
          omega
      · have a2 := a
        rw [in_iff, i.1, e48, e57] at a2
        have gt := grown_to (n := n) (d := sg q.toNatClampNeg - 48) (by omega) (by omega) (by omega) (by omega)
        by_cases b : y < 10 * n + sh_X5_next pd ln q - 48
        · have e : lp_X5_number_22 0 pd ln x y (fw + 2) n 1 q = (n, q, if x ≤ n then 0 else 1) := by
            rw [lp_X5_number_22, if_neg (by decide)]
            simp only [kb]
            rw [if_neg a, if_pos b]
            exact stop 0 rfl
          refine fin _ ?_ _ e
          rw [i.1, ← grown_eq, Int32.lt_iff_toInt_lt] at b
          rw [lp_X2_readNumber_8, if_neg c, if_neg, if_neg, if_neg, if_neg]
          · rw [Int32.le_iff_toInt_le]; omega
          · intro e2
            rw [e2, z] at gt
            omega
          · rw [Int32.lt_iff_toInt_lt]; omega
          · rw [Int32.lt_iff_toInt_lt]; omega
        · have e : lp_X5_number_22 0 pd ln x y (fw + 2) n 1 q = lp_X5_number_22 0 pd ln x y (fw + 1) (10 * n + (sg q.toNatClampNeg - 48)) 1 (q + 1) := by
            rw [lp_X5_number_22, if_neg (by decide)]
            simp only [kb]
            rw [if_neg a, if_neg b, if_neg (by decide), if_neg (by decide), i.1, grown_eq]
          rw [e]
          rw [i.1, ← grown_eq, Int32.lt_iff_toInt_lt] at b
          rw [lp_X2_readNumber_8, if_neg c, if_neg, if_neg, if_neg, if_pos]
          · exact ih (fw + 1) _ _ (po_up hq c) (by rw [up1_to hq]; rw [Int32.le_iff_toInt_le] at c; omega) (by omega) (by omega) (by omega) (by omega)
          · rw [Int32.le_iff_toInt_le]; omega
          · intro e2
            rw [e2, z] at gt
            omega
          · rw [Int32.lt_iff_toInt_lt]; omega
          · rw [Int32.lt_iff_toInt_lt]; omega
theorem q_number {x y : Int32} (h : padr sg pd ln) (hp : poOK po ln) (hl : po.toInt ≤ ln.toInt) (hx : 1 ≤ x.toInt) (hy0 : 9 ≤ y.toInt) (hy : y.toInt ≤ 999) :
    sh_X2_readNumber sg ln po x y = (if (sh_X5_number pd ln po 0 x y).2.2 = 0 then ((sh_X5_number pd ln po 0 x y).1, (sh_X5_number pd ln po 0 x y).2.1) else (-4, (sh_X5_number pd ln po 0 x y).2.1)) ∧
    ((sh_X5_number pd ln po 0 x y).2.2 = 0 → x.toInt ≤ (sh_X5_number pd ln po 0 x y).1.toInt ∧ (sh_X5_number pd ln po 0 x y).1.toInt ≤ y.toInt ∧ (sh_X5_number pd ln po 0 x y).2.1.toInt ≤ ln.toInt) := by
  have z : (0 : Int32).toInt = 0 := rfl
  have e1 : (1 : Int32).toInt = 1 := rfl
  have e9 : (9 : Int32).toInt = 9 := rfl
  have g := nx_rg h hp
  have r48 := nx_48 h hp
  have n0 : (0 : Int32) < x := by rw [Int32.lt_iff_toInt_lt]; omega
  unfold sh_X2_readNumber
  by_cases a : sh_X5_in (sh_X5_next pd ln po - 48) 1 9 = 0
  · have e : (sh_X5_number pd ln po 0 x y).2 = (po, 1) := by
      simp [sh_X5_number, kb, q_digit, a, lp_X5_number_22]
    rw [e]
    refine ⟨?_, fun q => absurd q (show ¬ (1 : Int32) = 0 by decide)⟩
    rw [if_neg (show ¬ (1 : Int32) = 0 by decide), lp_X2_readNumber_8]
    by_cases c : ln ≤ po
    · rw [if_pos c, if_pos n0]
    · have i := nx_in h hp c
      rw [in_iff, i.1, e1, e9] at a
      rw [i.1] at r48
      rw [if_neg c]
      by_cases a1 : sg po.toNatClampNeg - 48 < 0
      · rw [if_pos a1, if_pos n0]
      · rw [if_neg a1]
        by_cases a2 : 9 < sg po.toNatClampNeg - 48
        · rw [if_pos a2, if_pos n0]
        · rw [if_neg a2, if_pos, if_pos n0]
          rw [Int32.lt_iff_toInt_lt] at a1 a2
          apply Int32.toInt_inj.mp
          rw [grown_to (by decide) (by decide) (by omega) (by omega)]
          omega
  · have c : ¬ ln ≤ po := fun c => by
      rw [in_iff, nx_end c] at a
      exact a (by decide)
    have i := nx_in h hp c
    have e : sh_X5_number pd ln po 0 x y = lp_X5_number_22 0 pd ln x y ((ln.toInt - (po + 1).toInt).toNat + 2) (sg po.toNatClampNeg - 48) 1 (po + 1) := by
      rw [i.1] at a
      simp only [sh_X5_number, kb, q_digit, i.1, if_neg a]
      rfl
    have u := k_mu (x := ln) (v := po) (n := (ln.toInt - po.toInt).toNat) (by omega) c
    rw [in_iff, i.1, e1, e9] at a
    rw [i.1] at r48
    rw [e]
    have gt := grown_to (n := 0) (d := sg po.toNatClampNeg - 48) (by decide) (by decide) (by omega) (by omega)
    have g0 : 10 * (0 : Int32) + (sg po.toNatClampNeg - 48) = sg po.toNatClampNeg - 48 := by
      rw [show 10 * (0 : Int32) = 0 from rfl, Int32.zero_add]
    rw [lp_X2_readNumber_8, if_neg c, if_neg, if_neg, g0, if_neg, if_pos]
    · exact q_numb h hy _ _ _ _ (po_up hp c) (by rw [up1_to hp]; rw [Int32.le_iff_toInt_le] at c; omega) (by omega) (by omega) u (by omega)
    · rw [Int32.le_iff_toInt_le]; omega
    · intro e2
      rw [g0, e2, z] at gt
      rw [e2] at r48
      rw [e2] at a
      exact a (fun q => absurd q.1 (by decide))
    · rw [Int32.lt_iff_toInt_lt]; omega
    · rw [Int32.lt_iff_toInt_lt]; omega
end RDQ
