theorem fl_div {n : Nat} (h : n % 2 ^ 63 ≤ 2047 * 2 ^ 52) (hn : n < 2 ^ 64) : vf_n64 (UInt64.ofNat n) := by
  unfold vf_n64
  rw [UInt64.le_iff_toNat_le, UInt64.toNat_and, UInt64.toNat_ofNat_of_lt' hn, show (0x7fffffffffffffff : UInt64).toNat = 2 ^ 63 - 1 from rfl, Nat.and_two_pow_sub_one_eq_mod, show (0x7ff0000000000000 : UInt64).toNat = 2047 * 2 ^ 52 from rfl]
  exact h
theorem fl_asm {s : Bool} {e t : Nat} (h : e * 2 ^ 52 + t ≤ 2047 * 2 ^ 52) : FP.Core.assemble FP.Core.b64 s e t < 2 ^ 64 ∧ FP.Core.assemble FP.Core.b64 s e t % 2 ^ 63 ≤ 2047 * 2 ^ 52 := by
  have e1 : FP.Core.assemble FP.Core.b64 s e t = (s.toNat * 2048 + e) * 2 ^ 52 + t := rfl
  rw [e1]
  cases s
  · simp only [Bool.toNat_false]; omega
  · simp only [Bool.toNat_true]; omega
theorem fl_fin {s : Bool} {c : Nat} {q : Int} (hc : c < 2 ^ 53) (hq : q ≤ 971) : FP.Core.encode FP.Core.b64 (.fin s c q) < 2 ^ 64 ∧ FP.Core.encode FP.Core.b64 (.fin s c q) % 2 ^ 63 ≤ 2047 * 2 ^ 52 := by
  have e1 : FP.Core.encode FP.Core.b64 (.fin s c q) = if c < 2 ^ 52 then FP.Core.assemble FP.Core.b64 s 0 c else FP.Core.assemble FP.Core.b64 s ((q - (-1074)).toNat + 1) (c - 2 ^ 52) := rfl
  rw [e1]
  split
  · exact fl_asm (by omega)
  · exact fl_asm (by omega)
theorem fl_inf {s : Bool} : FP.Core.encode FP.Core.b64 (.inf s) < 2 ^ 64 ∧ FP.Core.encode FP.Core.b64 (.inf s) % 2 ^ 63 ≤ 2047 * 2 ^ 52 := by
  have e1 : FP.Core.encode FP.Core.b64 (.inf s) = FP.Core.assemble FP.Core.b64 s 2047 0 := rfl
  rw [e1]
  exact fl_asm (by omega)
theorem fl_settle {s : Bool} {c : Nat} {q : Int} : FP.Core.encode FP.Core.b64 (FP.Core.settle FP.Core.b64 s c q) < 2 ^ 64 ∧ FP.Core.encode FP.Core.b64 (FP.Core.settle FP.Core.b64 s c q) % 2 ^ 63 ≤ 2047 * 2 ^ 52 := by
  have e1 : FP.Core.settle FP.Core.b64 s c q = if c < 2 ^ 53 then (if q ≤ 971 then FP.Core.Datum.fin s c q else .inf s) else (if q + 1 ≤ 971 then FP.Core.Datum.fin s (2 ^ 52) (q + 1) else .inf s) := rfl
  rw [e1]
  split
  · rename_i h
    split
    · rename_i h2
      exact fl_fin h h2
    · exact fl_inf
  · split
    · rename_i h2
      exact fl_fin (by decide) h2
    · exact fl_inf
theorem fl_ratio {s : Bool} {a b : Nat} {e : Int} : FP.Core.encode FP.Core.b64 (FP.Core.roundRatio FP.Core.b64 s a b e) < 2 ^ 64 ∧ FP.Core.encode FP.Core.b64 (FP.Core.roundRatio FP.Core.b64 s a b e) % 2 ^ 63 ≤ 2047 * 2 ^ 52 := by
  unfold FP.Core.roundRatio
  split
  · exact fl_fin (by decide) (by decide)
  · exact fl_settle
theorem fl_dec {s : Bool} {c : Nat} {q : Int} (hc : c < 2 ^ 53) (hq : q ≤ 971) (h0 : c ≠ 0) : ∃ s1 c1 q1, FP.Core.decode FP.Core.b64 (FP.Core.encode FP.Core.b64 (.fin s c q)) = .fin s1 c1 q1 ∧ c1 ≠ 0 := by
  have e1 : FP.Core.encode FP.Core.b64 (.fin s c q) = if c < 2 ^ 52 then (s.toNat * 2048 + 0) * 2 ^ 52 + c else (s.toNat * 2048 + ((q - (-1074)).toNat + 1)) * 2 ^ 52 + (c - 2 ^ 52) := rfl
  have e2 : ∀ n, FP.Core.decode FP.Core.b64 n = if n / 2 ^ 52 % 2048 = 2047 then (if n % 2 ^ 52 = 0 then .inf (FP.Core.fieldS FP.Core.b64 n) else .nan) else if n / 2 ^ 52 % 2048 = 0 then .fin (FP.Core.fieldS FP.Core.b64 n) (n % 2 ^ 52) (-1074) else .fin (FP.Core.fieldS FP.Core.b64 n) (2 ^ 52 + n % 2 ^ 52) ((-1074) + (((n / 2 ^ 52 % 2048 : Nat) : Int) - 1)) := fun n => rfl
  rw [e1, e2]
  by_cases h : c < 2 ^ 52
  · rw [if_pos h]
    have a1 : ((s.toNat * 2048 + 0) * 2 ^ 52 + c) / 2 ^ 52 % 2048 = 0 := by omega
    have a2 : ((s.toNat * 2048 + 0) * 2 ^ 52 + c) % 2 ^ 52 = c := by omega
    rw [a1, a2, if_neg (by decide), if_pos rfl]
    exact ⟨_, _, _, rfl, h0⟩
  · rw [if_neg h]
    generalize hk : (q - (-1074)).toNat + 1 = k
    have k1 : 1 ≤ k ∧ k ≤ 2046 := by omega
    have a1 : ((s.toNat * 2048 + k) * 2 ^ 52 + (c - 2 ^ 52)) / 2 ^ 52 % 2048 = k := by omega
    rw [a1, if_neg (by omega), if_neg (by omega)]
    exact ⟨_, _, _, rfl, by omega⟩
theorem fl_near {n : Nat} : FP.Core.nearest n 1 = n := by
  unfold FP.Core.nearest
  rw [if_pos (by omega), Nat.div_one]
theorem fl_int {i : Int} (h0 : i ≠ 0) (h1 : i.natAbs < 2 ^ 32) : ∃ s c q, FP.Core.decode FP.Core.b64 (FP.Core.fromInt FP.Core.b64 i) = .fin s c q ∧ c ≠ 0 := by
  have e0 : FP.Core.fromInt FP.Core.b64 i = FP.Core.encode FP.Core.b64 (FP.Core.roundRatio FP.Core.b64 (decide (i < 0)) i.natAbs 1 0) := rfl
  rw [e0]
  generalize hm : i.natAbs = m at h1
  have m0 : m ≠ 0 := by omega
  unfold FP.Core.roundRatio
  rw [if_neg m0]
  have l32 : m.log2 < 32 := (Nat.log2_lt m0).mpr h1
  have ld : FP.Core.leading m 1 ≤ 31 := by
    unfold FP.Core.leading
    have z : Nat.log2 1 = 0 := by decide
    rw [z]
    dsimp only
    split <;> omega
  generalize hq : FP.Core.quantum FP.Core.b64 m 1 0 = q
  have q1 : q ≤ -21 := by
    rw [← hq]
    show max (-1074 : Int) (FP.Core.leading m 1 + 0 - (53 - 1)) ≤ -21
    omega
  have u1 : FP.Core.unitsDen 1 0 q = 1 := by
    unfold FP.Core.unitsDen
    rw [show (q - 0).toNat = 0 by omega]
  unfold FP.Core.roundAt
  rw [u1, fl_near]
  have n0 : FP.Core.unitsNum m 0 q ≠ 0 := by
    unfold FP.Core.unitsNum
    exact Nat.mul_ne_zero m0 (Nat.ne_of_gt (Nat.two_pow_pos _))
  generalize FP.Core.unitsNum m 0 q = c at n0
  have e1 : FP.Core.settle FP.Core.b64 (decide (i < 0)) c q = if c < 2 ^ 53 then (if q ≤ 971 then FP.Core.Datum.fin (decide (i < 0)) c q else .inf (decide (i < 0))) else (if q + 1 ≤ 971 then FP.Core.Datum.fin (decide (i < 0)) (2 ^ 52) (q + 1) else .inf (decide (i < 0))) := rfl
  rw [e1]
  by_cases h : c < 2 ^ 53
  · rw [if_pos h, if_pos (by omega)]
    exact fl_dec h (by omega) n0
  · rw [if_neg h, if_pos (by omega)]
    exact fl_dec (by decide) (by omega) (by decide)
theorem fl_int0 : FP.Core.decode FP.Core.b64 (FP.Core.fromInt FP.Core.b64 0) = .fin false 0 (-1074) := by decide +kernel
theorem fl_abs (x : Int32) : x.toInt.natAbs < 2 ^ 32 := by
  have h1 := x.toInt_lt
  have h2 := x.le_toInt
  omega
theorem fl_any (x : Int32) : ∃ s c q, FP.Core.decode FP.Core.b64 (FP.Core.fromInt FP.Core.b64 x.toInt) = .fin s c q := by
  by_cases h : x.toInt = 0
  · rw [h]; exact ⟨_, _, _, fl_int0⟩
  · obtain ⟨s, c, q, e, _⟩ := fl_int h (fl_abs x)
    exact ⟨s, c, q, e⟩
theorem fl_lt (x : Int32) : FP.Core.fromInt FP.Core.b64 x.toInt < 2 ^ 64 := (fl_ratio (s := decide (x.toInt < 0)) (a := x.toInt.natAbs) (b := 1) (e := 0)).1
/-- a whole number by another that isn't 0: a number -/
theorem div_num {x y : Int32} (h : ¬ y = 0) : vf_n64 (FP.ddiv (FP.i2d x) (FP.i2d y)) := by
  obtain ⟨s, c, q, e1⟩ := fl_any x
  obtain ⟨t, d, r, e2, d0⟩ := fl_int (i := y.toInt) (fun e => h (Int32.toInt_inj.mp e)) (fl_abs y)
  have u : FP.ddiv (FP.i2d x) (FP.i2d y) = UInt64.ofNat (FP.Core.encode FP.Core.b64 (FP.Core.quotient FP.Core.b64 (FP.Core.decode FP.Core.b64 (UInt64.ofNat (FP.Core.fromInt FP.Core.b64 x.toInt)).toNat) (FP.Core.decode FP.Core.b64 (UInt64.ofNat (FP.Core.fromInt FP.Core.b64 y.toInt)).toNat))) := rfl
  rw [u, UInt64.toNat_ofNat_of_lt' (fl_lt x), UInt64.toNat_ofNat_of_lt' (fl_lt y), e1, e2]
  have v : FP.Core.quotient FP.Core.b64 (.fin s c q) (.fin t d r) = FP.Core.roundRatio FP.Core.b64 (s != t) c d (q - r) := by
    show (if d = 0 then _ else _) = _
    rw [if_neg d0]
  rw [v]
  exact fl_div fl_ratio.2 fl_ratio.1
