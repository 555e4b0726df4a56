theorem isub_to {x y : Int32} (h0 : -1000000000 ≤ x.toInt - y.toInt) (h1 : x.toInt - y.toInt ≤ 1000000000) : (x - y).toInt = x.toInt - y.toInt := by
  rw [Int32.toInt_sub]
  exact Int.bmod_eq_of_le (by omega) (by omega)
theorem iadd_to {x y : Int32} (h0 : -1000000000 ≤ x.toInt + y.toInt) (h1 : x.toInt + y.toInt ≤ 1000000000) : (x + y).toInt = x.toInt + y.toInt := by
  rw [Int32.toInt_add]
  exact Int.bmod_eq_of_le (by omega) (by omega)
theorem ige_of {x : Int32} (h : 0 ≤ x.toInt) : ∃ n : Nat, n < 2 ^ 31 ∧ x = nI n := by
  refine nI_of (fun c => ?_)
  rw [Int32.lt_iff_toInt_lt] at c
  have : (0 : Int32).toInt = 0 := rfl
  omega
theorem idiv_bd {x y : Int32} (h : 0 ≤ x.toInt) (hy : 0 < y.toInt) : 0 ≤ (x / y).toInt ∧ (x / y).toInt ≤ x.toInt := by
  obtain ⟨n, hn, rfl⟩ := ige_of h
  obtain ⟨d, hd, rfl⟩ := ige_of (x := y) (by omega)
  rw [nI_toInt hd] at hy
  rw [pk_div hn (by omega) hd, nI_toInt hn, nI_toInt (Nat.lt_of_le_of_lt (Nat.div_le_self _ _) hn)]
  have := Nat.div_le_self n d
  generalize n / d = t at this ⊢
  omega
section IVU
variable {sv : Nat → Int32}
theorem iv_other (h : iv sv) {i : Nat} {v : Int32} (h0 : 18 ≤ i) (h1 : i ≤ 30) : iv (upd sv i v) := by
  obtain ⟨a, b, c, d, e1, e2, e3, e4⟩ := h
  refine ⟨fun k hk => ?_, fun k hk => ?_, fun k hk => ?_, ?_, ?_, ?_, ?_, ?_⟩
  · rw [pk_un (by omega)]; exact a k hk
  · rw [pk_un (by omega), pk_un (by omega), pk_un (by omega)]; exact b k hk
  · rw [pk_un (by omega)]; exact c k hk
  · rw [pk_un (by omega), pk_un (by omega)]; exact d
  · rw [pk_un (by omega)]; exact e1
  · rw [pk_un (by omega)]; exact e2
  · rw [pk_un (by omega)]; exact e3
  · rw [pk_un (by omega)]; exact e4
/-- hand and settled of one cup -/
theorem iv_cups (h : iv sv) {i : Nat} {v w : Int32} (hi : i < 4) (h0 : 0 ≤ v.toInt) (h1 : 0 ≤ w.toInt) (h2 : v.toInt + w.toInt ≤ 6000) {f : Nat → Int32} (e1 : f (4 + i) = v) (e2 : f (8 + i) = w) (e3 : ∀ j, j ≠ 4 + i → j ≠ 8 + i → f j = sv j) : iv f := by
  obtain ⟨a, b, c, d, g1, g2, g3, g4⟩ := h
  refine ⟨fun k hk => ?_, fun k hk => ?_, fun k hk => ?_, ?_, ?_, ?_, ?_, ?_⟩
  · rw [e3 _ (by omega) (by omega)]; exact a k hk
  · by_cases q : k = i
    · subst q
      rw [e1, e2, e3 (12 + k) (by omega) (by omega)]
      have := b k hk
      omega
    · rw [e3 (4 + k) (by omega) (by omega), e3 (8 + k) (by omega) (by omega), e3 (12 + k) (by omega) (by omega)]; exact b k hk
  · rw [e3 _ (by omega) (by omega)]; exact c k hk
  · rw [e3 _ (by omega) (by omega), e3 _ (by omega) (by omega)]; exact d
  · rw [e3 _ (by omega) (by omega)]; exact g1
  · rw [e3 _ (by omega) (by omega)]; exact g2
  · rw [e3 _ (by omega) (by omega)]; exact g3
  · rw [e3 _ (by omega) (by omega)]; exact g4
theorem iv_hd (h : iv sv) {i : Nat} {v : Int32} (hi : i < 4) (h0 : 0 ≤ v.toInt) (h2 : v.toInt ≤ (sv (4 + i)).toInt) : iv (upd sv (4 + i) v) := by
  have b := h.2.1 i hi
  refine iv_cups h (v := v) (w := sv (8 + i)) hi h0 b.2.1 (by omega) pk_us (pk_un (by omega)) (fun j h1 h2 => pk_un h1)
theorem iv_chip (h : iv sv) {i : Nat} {v : Int32} (hi : i < 4) (h0 : 0 ≤ v.toInt) (h2 : v.toInt ≤ 4000) : iv (upd sv (12 + i) v) := by
  obtain ⟨a, b, c, d, g1, g2, g3, g4⟩ := h
  refine ⟨fun k hk => ?_, fun k hk => ?_, fun k hk => ?_, ?_, ?_, ?_, ?_, ?_⟩
  · rw [pk_un (by omega)]; exact a k hk
  · by_cases q : k = i
    · subst q
      rw [pk_us, pk_un (by omega), pk_un (by omega)]
      have := b k hk
      omega
    · rw [pk_un (by omega), pk_un (by omega), pk_un (by omega)]; exact b k hk
  · rw [pk_un (by omega)]; exact c k hk
  · rw [pk_un (by omega), pk_un (by omega)]; exact d
  · rw [pk_un (by omega)]; exact g1
  · rw [pk_un (by omega)]; exact g2
  · rw [pk_un (by omega)]; exact g3
  · rw [pk_un (by omega)]; exact g4
theorem iv_none (h : iv sv) {i : Nat} (hi : i < 2) : iv (upd sv (16 + i) (-1)) := by
  obtain ⟨a, b, c, d, g1, g2, g3, g4⟩ := h
  refine ⟨fun k hk => ?_, fun k hk => ?_, fun k hk => ?_, ?_, ?_, ?_, ?_, ?_⟩
  · rw [pk_un (by omega)]; exact a k hk
  · rw [pk_un (by omega), pk_un (by omega), pk_un (by omega)]; exact b k hk
  · by_cases q : k = i
    · subst q
      rw [pk_us]; decide
    · rw [pk_un (by omega)]; exact c k hk
  · rcases (show i = 0 ∨ i = 1 by omega) with rfl | rfl
    · exact Or.inl pk_us
    · rw [pk_un (j := 16) (by decide), pk_us (k := 17)]
      by_cases q : sv 16 = -1
      · exact Or.inl q
      · exact Or.inr q
  · rw [pk_un (by omega)]; exact g1
  · rw [pk_un (by omega)]; exact g2
  · rw [pk_un (by omega)]; exact g3
  · rw [pk_un (by omega)]; exact g4
end IVU
theorem iv_takes {sv : Nat → Int32} {q : Int32} (h : iv sv) (hq : vp_in q 2) : iv (sh_X5_takes sv q).2 := by
  simp only [sh_X5_takes, kb]
  split
  · exact h
  · rename_i c
    have hc := iv_cup h hq c
    have e2 := k_ix (k := 16) hq (by decide) (by decide)
    have l2 := (k_cl hq).1
    simp only [show (16 : Int32).toInt.toNat = 16 from rfl] at e2
    dsimp only
    rw [e2] at hc ⊢
    have e1 := k_ix (k := 4) hc (by decide) (by decide)
    have l1 := (k_cl hc).1
    have b := h.2.1 _ l1
    simp only [show (4 : Int32).toInt.toNat = 4 from rfl] at e1
    rw [e1, show (29 : Int32).toNatClampNeg = 29 from rfl]
    have d := idiv_bd (y := 50) b.1 (by decide)
    refine iv_none (iv_other (iv_hd h l1 ?_ ?_) (by decide) (by decide)) l2
    · rw [isub_to (by omega) (by omega)]; omega
    · rw [isub_to (by omega) (by omega)]; omega
theorem whereIn {sv : Nat → Int32} {x : Int32} (c : ¬ sh_X5_where sv x = -1) : vp_in (sh_X5_where sv x) 2 := by
  unfold sh_X5_where at *
  split
  · exact k_in (by decide)
  · rename_i h1
    rw [if_neg h1] at c
    split
    · exact k_in (by decide)
    · rename_i h2
      rw [if_neg h2] at c
      exact absurd rfl c
theorem snd_iv {r : Int32} {g : Nat → Int32} {f : Int32 × (Nat → Int32)} (h : iv f.2) (e : (r, g) = f) : iv g := by
  have : g = f.2 := by rw [← e]
  rw [this]; exact h

def sh_X5_moves (sv : Nat → Int32) (x1 : Int32) (x2 : Int32) : Int32 × (Nat → Int32) := (if (sh_X5_where sv x1) = x2 then ((0 : Int32), sv) else (if (sh_X5_where sv x1) = (-1) then (kb (sh_X5_takes sv x2) (fun z_r16 => (kb (α := Nat → Int32) (upd z_r16.2 (16 + x2).toNatClampNeg x1) (fun z_f20 => ((0 + z_r16.1), z_f20))))) else (kb (sh_X5_takes sv (sh_X5_where sv x1)) (fun z_r6 => (kb (sh_X5_takes z_r6.2 x2) (fun z_r10 => (kb (α := Nat → Int32) (upd z_r10.2 (16 + x2).toNatClampNeg x1) (fun z_f14 => ((z_r6.1 + z_r10.1), z_f14)))))))))
def sh_X5_move (sv : Nat → Int32) (pa : Nat → Int32) (pn : Int32) (x1 : Int32) (x2 : Int32) : Int32 × (Nat → Int32) × (Nat → Int32) × (Int32) := (if (sh_X5_isCup x1) = 0 then ((-1 : Int32), sv, pa, pn) else (if (sh_X5_isPrinter x2) = 0 then ((-1 : Int32), sv, pa, pn) else (kb (sh_X5_records sv pa pn) (fun z_f12 => (kb (sh_X5_moves sv x1 x2) (fun z_r14 => (z_r14.1, z_r14.2, z_f12.1, z_f12.2)))))))
