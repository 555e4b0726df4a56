def dec4 (x : Int32) : Int32 := if x = -1 then -4 else x
/-- a Machine's numbers are those of a row of the reference -/
def mrel (x : TMa) (sv : Nat → Int32) : Prop :=
  (∀ k, k < 4 → x.1 k = sv (31 + k)) ∧ (∀ k, k < 4 → x.2.1 k = sv k) ∧ (∀ k, k < 4 → x.2.2.1 k = sv (4 + k)) ∧ (∀ k, k < 4 → x.2.2.2.1 k = sv (8 + k)) ∧ (∀ k, k < 4 → x.2.2.2.2.1 k = sv (12 + k)) ∧ (∀ k, k < 2 → x.2.2.2.2.2.1 k = dec4 (sv (16 + k))) ∧ (∀ k, k < 2 → x.2.2.2.2.2.2.1 k = sv (18 + k)) ∧ (∀ k, k < 2 → x.2.2.2.2.2.2.2.1 k = sv (20 + k)) ∧ (∀ k, k < 2 → x.2.2.2.2.2.2.2.2.1 k = sv (22 + k)) ∧ (∀ k, k < 2 → x.2.2.2.2.2.2.2.2.2.1 k = sv (24 + k)) ∧ (∀ k, k < 2 → x.2.2.2.2.2.2.2.2.2.2.1 k = dec4 (sv (26 + k))) ∧ x.2.2.2.2.2.2.2.2.2.2.2.1 = sv 28 ∧ x.2.2.2.2.2.2.2.2.2.2.2.2.1 = sv 29 ∧ x.2.2.2.2.2.2.2.2.2.2.2.2.2 = sv 30
theorem q_isCup (x : Int32) : sh_X4_isCup x = sh_X5_isCup x := by
  unfold sh_X4_isCup sh_X5_isCup sh_X5_in
  have e : (4 ≤ x) ↔ (3 < x) := by
    rw [Int32.le_iff_toInt_le, Int32.lt_iff_toInt_lt]
    have : (4 : Int32).toInt = 4 := rfl
    have : (3 : Int32).toInt = 3 := rfl
    omega
  simp only [e]
theorem q_isPrinter (x : Int32) : sh_X4_isPrinter x = sh_X5_isPrinter x := by
  unfold sh_X4_isPrinter sh_X5_isPrinter sh_X5_in
  have e : (2 ≤ x) ↔ (1 < x) := by
    rw [Int32.le_iff_toInt_le, Int32.lt_iff_toInt_lt]
    have : (2 : Int32).toInt = 2 := rfl
    have : (1 : Int32).toInt = 1 := rfl
    omega
  simp only [e]
theorem q_isDots (x : Int32) : sh_X4_isDots x = sh_X5_areDots x := rfl
theorem q_isJobLength (x : Int32) : sh_X4_isJobLength x = sh_X5_in x 1 50 := rfl
section QR
variable {x : TMa} {sv : Nat → Int32} {c q : Int32}
/-- an index above a literal -/
theorem q_ix {k : Int32} {n m : Nat} (h : vp_in c n) (hk : k.toInt.toNat = m) (h0 : 0 ≤ k.toInt) (h1 : k.toInt + n ≤ 1000000) : (k + c).toNatClampNeg = m + c.toNatClampNeg := by
  rw [k_ix h h0 h1, hk]
theorem q_hand (h : mrel x sv) (hc : vp_in c 4) : sv (4 + c).toNatClampNeg = x.2.2.1 c.toNatClampNeg := by
  rw [q_ix (m := 4) hc rfl (by decide) (by decide), h.2.2.1 _ (k_cl hc).1]
theorem q_settled (h : mrel x sv) (hc : vp_in c 4) : sv (8 + c).toNatClampNeg = x.2.2.2.1 c.toNatClampNeg := by
  rw [q_ix (m := 8) hc rfl (by decide) (by decide), h.2.2.2.1 _ (k_cl hc).1]
theorem q_chip (h : mrel x sv) (hc : vp_in c 4) : sv (12 + c).toNatClampNeg = x.2.2.2.2.1 c.toNatClampNeg := by
  rw [q_ix (m := 12) hc rfl (by decide) (by decide), h.2.2.2.2.1 _ (k_cl hc).1]
theorem q_kind (h : mrel x sv) (hc : vp_in c 4) : sv (0 + c).toNatClampNeg = x.2.1 c.toNatClampNeg := by
  rw [q_ix (m := 0) hc rfl (by decide) (by decide), h.2.1 _ (k_cl hc).1, Nat.zero_add]
theorem q_set0 (h : mrel x sv) : sv (31 : Int32).toNatClampNeg = x.1 (0 : Int32).toNatClampNeg := (h.1 0 (by decide)).symm
theorem q_set1 (h : mrel x sv) : sv (32 : Int32).toNatClampNeg = x.1 (1 : Int32).toNatClampNeg := (h.1 1 (by decide)).symm
theorem q_set2 (h : mrel x sv) : sv (33 : Int32).toNatClampNeg = x.1 (2 : Int32).toNatClampNeg := (h.1 2 (by decide)).symm
theorem q_set3 (h : mrel x sv) : sv (34 : Int32).toNatClampNeg = x.1 (3 : Int32).toNatClampNeg := (h.1 3 (by decide)).symm
theorem q_toner (h : mrel x sv) (hc : vp_in c 4) : sh_X5_tonerOf sv c = sh_X1_toner x.2.2.1 x.2.2.2.1 c := by
  unfold sh_X5_tonerOf sh_X1_toner
  rw [q_hand h hc, q_settled h hc]
theorem q_need (h : mrel x sv) (hi : iv sv) (hc : vp_in c 4) (d k : Int32) : sh_X5_need sv c d k = sh_X1_tonerFor x.2.1 c d k := by
  unfold sh_X5_need sh_X1_tonerFor kb
  have b := hi.1 _ (k_cl hc).1
  rw [q_kind h hc, h.2.1 _ (k_cl hc).1]
  have e0 : (0 : Int32).toInt = 0 := rfl
  have e1 : (1 : Int32).toInt = 1 := rfl
  have e2 : (2 : Int32).toInt = 2 := rfl
  by_cases a0 : sv c.toNatClampNeg = 0
  · rw [a0]; rfl
  · by_cases a1 : sv c.toNatClampNeg = 1
    · rw [a1]; rfl
    · have a2 : sv c.toNatClampNeg = 2 := by
        have := k_ne a0
        have := k_ne a1
        exact Int32.toInt_inj.mp (by omega)
      rw [a2]; rfl
theorem q_allToner (h : mrel x sv) : sh_X5_toner sv = sh_X1_allToner x.2.2.1 x.2.2.2.1 := by
  unfold sh_X5_toner sh_X1_allToner
  rw [q_toner h (k_in (by decide)), q_toner h (k_in (by decide)), q_toner h (k_in (by decide)), q_toner h (k_in (by decide))]
theorem q_share {a b : Int32} (hb : 0 < b.toInt) : sh_X4_share a b = a / b := by
  unfold sh_X4_share
  rw [if_neg]
  rw [Int32.le_iff_toInt_le]
  have : (0 : Int32).toInt = 0 := rfl
  omega
theorem q_scale (h : mrel x sv) (hi : iv sv) (hc : vp_in c 4) : sh_X5_scale sv c = sh_X1_scaleTells x.1 x.2.2.1 x.2.2.2.1 c := by
  unfold sh_X5_scale sh_X1_scaleTells
  have b : 1 ≤ (sv (34 : Int32).toNatClampNeg).toInt := hi.2.2.2.2.2.2.2.1
  rw [q_toner h hc, q_set3 h, q_share (by rw [← q_set3 h]; omega)]
theorem q_left (h : mrel x sv) (hi : iv sv) (hc : vp_in c 4) : sh_X5_left sv c = sh_X1_toldLeft x.1 x.2.2.1 x.2.2.2.1 x.2.2.2.2.1 c := by
  unfold sh_X5_left sh_X1_toldLeft
  rw [q_scale h hi hc, q_chip h hc]
theorem q_allLeft (h : mrel x sv) (hi : iv sv) : sh_X5_allLeft sv = sh_X1_allToldLeft x.1 x.2.2.1 x.2.2.2.1 x.2.2.2.2.1 := by
  unfold sh_X5_allLeft sh_X1_allToldLeft
  rw [q_left h hi (k_in (by decide)), q_left h hi (k_in (by decide)), q_left h hi (k_in (by decide)), q_left h hi (k_in (by decide))]
theorem q_boasts (h : mrel x sv) (hi : iv sv) : sh_X5_boasts sv = sh_X1_cupsOvertold x.1 x.2.2.1 x.2.2.2.1 x.2.2.2.2.1 := by
  unfold sh_X5_boasts sh_X1_cupsOvertold kb
  rw [q_left h hi (k_in (by decide)), q_left h hi (k_in (by decide)), q_left h hi (k_in (by decide)), q_left h hi (k_in (by decide)), q_toner h (k_in (by decide)), q_toner h (k_in (by decide)), q_toner h (k_in (by decide)), q_toner h (k_in (by decide))]
  (repeat' split) <;> rfl
end QR
