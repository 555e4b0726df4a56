def sh_X5_next (pd : Nat → Int32) (ln : Int32) (po : Int32) : Int32 := (kb (α := (Int32)) (if ln ≤ po then 0 else (pd po.toNatClampNeg)) (fun z_v3 => z_v3))
theorem next_in {pd : Nat → Int32} {ln po : Int32} (h : ¬ sh_X5_next pd ln po = 0) : ¬ ln ≤ po := fun c => h (by
  simp only [sh_X5_next, kb, if_pos c])
theorem in_lo {a lo hi : Int32} (h : ¬ sh_X5_in a lo hi = 0) : lo.toInt ≤ a.toInt := by
  unfold sh_X5_in at h
  split at h
  · exact absurd rfl h
  · rename_i c
    rw [Int32.lt_iff_toInt_lt] at c
    omega
/-- the place is in order, and not before the old one -/
def poS (po : Int32) (q ln : Int32) : Prop := poOK q ln ∧ po.toInt ≤ q.toInt
theorem poS.rfl' {po ln : Int32} (h : poOK po ln) : poS po po ln := ⟨h, Int.le_refl _⟩
theorem poS.trans {a b c ln : Int32} (h : poS a b ln) (g : poS b c ln) : poS a c ln := ⟨g.1, Int.le_trans h.2 g.2⟩
theorem poS_up {po ln : Int32} (h : poOK po ln) (c : ¬ ln ≤ po) : poS po (po + 1) ln := by
  refine ⟨po_up h c, ?_⟩
  have h1 := h.1
  rw [vp_in_iff] at h1
  have e : (po + 1).toInt = po.toInt + 1 := by
    rw [Int32.toInt_add]
    exact Int.bmod_eq_of_le (by simp; omega) (by simp; omega)
  omega
theorem poS_0 {po ln : Int32} (h : poOK po ln) : poS po (po + 0) ln := by
  rw [Int32.add_zero]; exact poS.rfl' h
theorem lit_ne {x k : Int32} (h : x = k) (hk : ¬ k = 0) : ¬ x = 0 := fun e => hk (by rw [← h, e])

theorem poSE0 {po q ln x : Int32} {f : Int32 × Int32} (h : poS po f.1 ln) (e : (q, x) = f) : poS po q ln := by
  have : q = f.1 := by rw [← e]
  rw [this]; exact h
theorem poSE1 {po r q ln x : Int32} {f : Int32 × Int32 × Int32} (h : poS po f.2.1 ln) (e : (r, q, x) = f) : poS po q ln := by
  have : q = f.2.1 := by rw [← e]
  rw [this]; exact h
theorem poSEd {α : Type} {po q ln : Int32} {x : α} {f : Int32 × α} (h : poS po f.1 ln) (e : (q, x) = f) : poS po q ln := by
  have : q = f.1 := by rw [← e]
  rw [this]; exact h
def sh_X5_sign (pd : Nat → Int32) (ln : Int32) (po : Int32) (wr : Int32) (x1 : Int32) : (Int32) × (Int32) := (kb (α := (Int32)) (if wr = 0 then (if (sh_X5_next pd ln po) = x1 then 0 else 1) else 1) (fun z_v7 => (kb (α := (Int32)) (if z_v7 = 0 then 1 else 0) (fun z_v10 => ((po + z_v10), z_v7)))))
theorem sign_po {pd : Nat → Int32} {ln po wr x : Int32} (h : poOK po ln) (hx : ¬ x = 0) : poS po (sh_X5_sign pd ln po wr x).1 ln := by
  simp only [sh_X5_sign, kb]
  by_cases a : wr = 0
  · by_cases b : sh_X5_next pd ln po = x
    · simp only [if_pos a, if_pos b]
      exact poS_up h (next_in (lit_ne b hx))
    · simp only [if_pos a, if_neg b]
      exact poS_0 h
  · simp only [if_neg a]
    exact poS_0 h
def sh_X5_digit (pd : Nat → Int32) (ln : Int32) (po : Int32) (wr : Int32) (x1 : Int32) (x2 : Int32) : Int32 × (Int32) × (Int32) := (kb (α := (Int32)) (if wr = 0 then (if (sh_X5_in ((sh_X5_next pd ln po) - 48) x1 x2) = 0 then 1 else 0) else 1) (fun z_v10 => (kb (α := (Int32)) (if z_v10 = 0 then 1 else 0) (fun z_v13 => (((sh_X5_next pd ln po) - 48), (po + z_v13), z_v10)))))
theorem digit_po {pd : Nat → Int32} {ln po wr lo hi : Int32} (h : poOK po ln) (hx : 0 ≤ lo.toInt) : poS po (sh_X5_digit pd ln po wr lo hi).2.1 ln := by
  simp only [sh_X5_digit, kb]
  by_cases a : wr = 0
  · by_cases b : sh_X5_in (sh_X5_next pd ln po - 48) lo hi = 0
    · simp only [if_pos a, if_pos b]
      exact poS_0 h
    · simp only [if_pos a, if_neg b]
      refine poS_up h (next_in (pd := pd) (fun e => ?_))
      have := in_lo b
      rw [e] at this
      have h2 : ((0 : Int32) - 48).toInt = -48 := by decide
      omega
  · simp only [if_neg a]
    exact poS_0 h
theorem numb_po {pd : Nat → Int32} {ln po v v3 : Int32} {P : Prop} [Decidable P] (h : poOK po ln) (hv : v = if sh_X5_in (sh_X5_next pd ln po) 48 57 = 0 then 0 else (if P then 0 else 1)) (hv3 : v3 = if v = 0 then 0 else 1) : poS po (po + v3) ln := by
  by_cases b : sh_X5_in (sh_X5_next pd ln po) 48 57 = 0
  · rw [if_pos b] at hv
    rw [if_pos hv] at hv3
    rw [hv3]; exact poS_0 h
  · by_cases c : v = 0
    · rw [if_pos c] at hv3
      rw [hv3]; exact poS_0 h
    · rw [if_neg c] at hv3
      rw [hv3]
      refine poS_up h (next_in (pd := pd) (fun e => ?_))
      have := in_lo b
      rw [e] at this
      exact absurd this (by decide)
theorem numb_mu {pd : Nat → Int32} {ln po v v3 g : Int32} {n : Nat} {P : Prop} [Decidable P] (h : poOK po ln) (hmu : (ln.toInt - po.toInt).toNat + (if g = 0 then 0 else 1) < n + 1) (hg : ¬ g = 0) (hv : v = if sh_X5_in (sh_X5_next pd ln po) 48 57 = 0 then 0 else (if P then 0 else 1)) (hv3 : v3 = if v = 0 then 0 else 1) : (ln.toInt - (po + v3).toInt).toNat + (if v = 0 then 0 else 1) < n := by
  rw [if_neg hg] at hmu
  by_cases c : v = 0
  · rw [if_pos c] at hv3 ⊢
    rw [hv3, Int32.add_zero]; omega
  · have b : ¬ sh_X5_in (sh_X5_next pd ln po) 48 57 = 0 := fun b => by
      rw [if_pos b] at hv; exact c hv
    rw [if_neg c] at hv3 ⊢
    rw [hv3]
    have q : ¬ ln ≤ po := next_in (pd := pd) (fun e => by
      have := in_lo b
      rw [e] at this
      exact absurd this (by decide))
    have := k_mu (x := ln) (v := po) (n := (ln.toInt - po.toInt).toNat) (by omega) q
    omega

def lp_X5_number_22 (v5 : Int32) (pd : Nat → Int32) (ln : Int32) (x1 : Int32) (x2 : Int32) : Nat → (Int32) → (Int32) → (Int32) → (Int32 × (Int32) × (Int32))
  | 0, _, _, _ => default
  | fu + 1, n3, m4, l_po => (if m4 = 0 then (kb (α := (Int32)) (if v5 = 0 then (if x1 ≤ n3 then 0 else 1) else 1) (fun z_v35 => (n3, l_po, z_v35))) else (kb (α := (Int32)) (if (sh_X5_in (sh_X5_next pd ln l_po) 48 57) = 0 then 0 else (if x2 < (((10 * n3) + (sh_X5_next pd ln l_po)) - 48) then 0 else 1)) (fun z_v48 => (kb (α := (Int32)) (if z_v48 = 0 then n3 else (((10 * n3) + (sh_X5_next pd ln l_po)) - 48)) (fun z_v54 => (kb (α := (Int32)) (if z_v48 = 0 then 0 else 1) (fun z_v57 => (lp_X5_number_22 v5 pd ln x1 x2 fu z_v54 z_v48 (l_po + z_v57)))))))))
def sh_X5_number (pd : Nat → Int32) (ln : Int32) (po : Int32) (wr : Int32) (x1 : Int32) (x2 : Int32) : Int32 × (Int32) × (Int32) := (kb (sh_X5_digit pd ln po wr 1 9) (fun z_r1 => (kb (α := (Int32)) (if z_r1.2.2 = 0 then 1 else 0) (fun z_v8 => (lp_X5_number_22 z_r1.2.2 pd ln x1 x2 (((ln.toInt - (z_r1.2.1 : Int32).toInt).toNat + (if (z_v8 : Int32) = 0 then 0 else 1)) + 1) z_r1.1 z_v8 z_r1.2.1)))))
theorem lpNumb_po {pd : Nat → Int32} {ln wr x1 x2 : Int32} : ∀ (fu : Nat) (n g q : Int32), (ln.toInt - q.toInt).toNat + (if g = 0 then 0 else 1) < fu → poOK q ln → poS q (lp_X5_number_22 wr pd ln x1 x2 fu n g q).2.1 ln := by
  intro fu
  induction fu with
  | zero => intro n g q h; exact absurd h (Nat.not_lt_zero _)
  | succ fu ih =>
    intro n g q hmu hq
    unfold lp_X5_number_22
    by_cases a : g = 0
    · simp only [if_pos a, kb]
      exact poS.rfl' hq
    · simp only [if_neg a, kb]
      have s1 := numb_po (pd := pd) (P := x2 < 10 * n + sh_X5_next pd ln q - 48) hq rfl rfl
      exact s1.trans (ih _ _ _ (numb_mu (pd := pd) (P := x2 < 10 * n + sh_X5_next pd ln q - 48) hq hmu a rfl rfl) s1.1)
theorem number_po {pd : Nat → Int32} {ln po wr x1 x2 : Int32} (h : poOK po ln) : poS po (sh_X5_number pd ln po wr x1 x2).2.1 ln := by
  simp only [sh_X5_number, kb]
  have s1 := digit_po (pd := pd) (wr := wr) (lo := 1) (hi := 9) h (by decide)
  exact s1.trans (lpNumb_po _ _ _ _ (Nat.lt_succ_self _) s1.1)
