def dotsOK (d : Int32) : Prop := 1 ≤ d.toInt ∧ d.toInt ≤ 999
theorem dotsIn {d : Int32} (h : ¬ sh_X5_areDots d = 0) : dotsOK d := by
  unfold sh_X5_areDots sh_X5_in at h
  split at h
  · exact absurd rfl h
  · split at h
    · exact absurd rfl h
    · rename_i h1 h2
      rw [Int32.lt_iff_toInt_lt] at h1 h2
      have : (1 : Int32).toInt = 1 := rfl
      have : (999 : Int32).toInt = 999 := rfl
      unfold dotsOK
      omega
theorem need_bd {sv : Nat → Int32} {c d k : Int32} (hd : dotsOK d) (h1 : 1 ≤ k.toInt) (h2 : k.toInt ≤ 5) : 0 ≤ (sh_X5_need sv c d k).toInt ∧ (sh_X5_need sv c d k).toInt ≤ 5700 := by
  obtain ⟨a, ha, rfl⟩ := ige_of (x := d) (by have := hd.1; omega)
  obtain ⟨b, hb, rfl⟩ := ige_of (x := k) (by omega)
  unfold dotsOK at hd
  rw [nI_toInt ha] at hd
  rw [nI_toInt hb] at h1 h2
  have m : a * b ≤ 999 * 5 := Nat.mul_le_mul (by omega) (by omega)
  simp only [sh_X5_need, kb]
  rw [pk_mul, show (3 : Int32) = nI 3 from rfl, show (4 : Int32) = nI 4 from rfl, show (9 : Int32) = nI 9 from rfl, show (8 : Int32) = nI 8 from rfl, pk_mul, pk_mul, pk_div (by omega) (by decide) (by decide), pk_div (by omega) (by decide) (by decide)]
  split
  · rw [nI_toInt (by omega)]; omega
  · split
    · rw [nI_toInt (by omega)]; omega
    · rw [nI_toInt (by omega)]; omega
