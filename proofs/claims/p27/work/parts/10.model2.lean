theorem k_cl {x : Int32} {n : Nat} (h : vp_in x n) : x.toNatClampNeg < n ∧ (x.toNatClampNeg : Int) = x.toInt := by
  rw [vp_in_iff] at h
  have e : x.toNatClampNeg = x.toInt.toNat := rfl
  omega
theorem k_ix {x k : Int32} {n : Nat} (h : vp_in x n) (h0 : 0 ≤ k.toInt) (h1 : k.toInt + n ≤ 1000000) : (k + x).toNatClampNeg = k.toInt.toNat + x.toNatClampNeg := by
  have h2 := vp_add (N := 1000000) h h0 (by omega) (by omega)
  have a := k_cl h
  have b := k_cl h2
  rw [vp_in_iff] at h h2
  have e : (k + x).toInt = k.toInt + x.toInt := by
    rw [Int32.toInt_add]
    exact Int.bmod_eq_of_le (by omega) (by omega)
  omega
theorem k_ixn {x k : Int32} {n j : Nat} (h : vp_in x n) (h0 : 0 ≤ k.toInt) (h1 : k.toInt + n ≤ 1000000) (hj : k.toInt + n ≤ j ∨ (j : Int) < k.toInt) : j ≠ (k + x).toNatClampNeg := by
  have := k_ix h h0 h1
  have := (k_cl h).1
  omega
theorem k_un0 {f : Nat → Int32} {k j : Nat} {x : Int32} (h : j ≠ k) (h0 : ¬ f j = 0) : ¬ upd f k x j = 0 := by
  rw [pk_un h]; exact h0
/-- what holds of the 35 numbers of a state between calls -/
def iv (sv : Nat → Int32) : Prop :=
  (∀ c, c < 4 → 0 ≤ (sv c).toInt ∧ (sv c).toInt ≤ 2) ∧
  (∀ c, c < 4 → 0 ≤ (sv (4 + c)).toInt ∧ 0 ≤ (sv (8 + c)).toInt ∧ (sv (4 + c)).toInt + (sv (8 + c)).toInt ≤ 6000 ∧ 0 ≤ (sv (12 + c)).toInt ∧ (sv (12 + c)).toInt ≤ 4000) ∧
  (∀ q, q < 2 → -1 ≤ (sv (16 + q)).toInt ∧ (sv (16 + q)).toInt ≤ 3) ∧ (sv 16 = -1 ∨ ¬ sv 16 = sv 17) ∧
  (1 ≤ (sv 31).toInt ∧ (sv 31).toInt ≤ 5) ∧ (2 ≤ (sv 32).toInt ∧ (sv 32).toInt ≤ 50) ∧ (0 ≤ (sv 33).toInt ∧ (sv 33).toInt ≤ 1) ∧ (1 ≤ (sv 34).toInt ∧ (sv 34).toInt ≤ 500)
theorem iv_cup {sv : Nat → Int32} {q : Int32} (h : iv sv) (hq : vp_in q 2) (c : ¬ sv (16 + q).toNatClampNeg = -1) : vp_in (sv (16 + q).toNatClampNeg) 4 := by
  have e := k_ix (k := 16) hq (by decide) (by decide)
  have a := (k_cl hq).1
  have b := h.2.2.1 q.toNatClampNeg a
  rw [vp_in_iff]
  rw [e] at c ⊢
  have c := k_ne c
  simp only [show (16 : Int32).toInt.toNat = 16 from rfl, show (-1 : Int32).toInt = -1 from rfl] at *
  omega
theorem iv_32 {sv : Nat → Int32} (h : iv sv) : ¬ sv (32 : Int32).toNatClampNeg = 0 := fun e => by
  have h1 := h.2.2.2.2.2.1
  rw [show sv 32 = 0 from e] at h1
  exact absurd h1.1 (by decide)
theorem iv_34 {sv : Nat → Int32} (h : iv sv) : ¬ sv (34 : Int32).toNatClampNeg = 0 := fun e => by
  have h1 := h.2.2.2.2.2.2.2
  rw [show sv 34 = 0 from e] at h1
  exact absurd h1.1 (by decide)
theorem iv_hand {sv : Nat → Int32} {x : Int32} (h : iv sv) (hx : vp_in x 4) : ¬ sv (4 + x).toNatClampNeg < 0 := by
  have e := k_ix (k := 4) hx (by decide) (by decide)
  have b := h.2.1 x.toNatClampNeg (k_cl hx).1
  rw [e, Int32.lt_iff_toInt_lt]
  simp only [show (4 : Int32).toInt.toNat = 4 from rfl, show (0 : Int32).toInt = 0 from rfl] at *
  omega
theorem k_used {v h n : Int32} (hv : v = if n ≤ h then n else h) (c : ¬ v = n) (hh : ¬ h < 0) : ¬ n = 0 := fun e => by
  subst e
  by_cases q : (0 : Int32) ≤ h
  · rw [if_pos q] at hv; exact c hv
  · rw [Int32.le_iff_toInt_le] at q
    rw [Int32.lt_iff_toInt_lt] at hh
    omega
theorem k_gl {b t f : Int32} {n : Nat} : narrow .boolean (.int (1 : Int32)) = .int 1 := rfl

def sh_X5_reason (sv : Nat → Int32) (x1 : Int32) : Int32 := (if (sv (16 + x1).toNatClampNeg) = (-1) then (1 : Int32) else (if (sv (12 + (sv (16 + x1).toNatClampNeg)).toNatClampNeg) = 0 then (if (sv (33 : Int32).toNatClampNeg) = 1 then (2 : Int32) else (if (sv (4 + (sv (16 + x1).toNatClampNeg)).toNatClampNeg) = 0 then (3 : Int32) else (0 : Int32))) else (if (sv (4 + (sv (16 + x1).toNatClampNeg)).toNatClampNeg) = 0 then (3 : Int32) else (0 : Int32))))
theorem reasonIn {sv : Nat → Int32} {q : Int32} (h : iv sv) (hq : vp_in q 2) (c : sh_X5_reason sv q ≤ 0) : vp_in (sv (16 + q).toNatClampNeg) 4 := by
  by_cases e : sv (16 + q).toNatClampNeg = -1
  · unfold sh_X5_reason at c
    rw [if_pos e] at c
    exact absurd c (by decide)
  · exact iv_cup h hq e
def sh_X5_prints (sv : Nat → Int32) (x1 : Int32) (x2 : Int32) : Int32 × (Nat → Int32) := (if (sh_X5_reason sv x1) ≤ 0 then (kb (α := (Int32)) (if (sh_X5_need sv (sv (16 + x1).toNatClampNeg) x2 (sv (31 : Int32).toNatClampNeg)) ≤ (sv (4 + (sv (16 + x1).toNatClampNeg)).toNatClampNeg) then (sh_X5_need sv (sv (16 + x1).toNatClampNeg) x2 (sv (31 : Int32).toNatClampNeg)) else (sv (4 + (sv (16 + x1).toNatClampNeg)).toNatClampNeg)) (fun z_v10 => (kb (α := (Int32)) (if z_v10 = (sh_X5_need sv (sv (16 + x1).toNatClampNeg) x2 (sv (31 : Int32).toNatClampNeg)) then 100 else ((z_v10 * 100) / (sh_X5_need sv (sv (16 + x1).toNatClampNeg) x2 (sv (31 : Int32).toNatClampNeg)))) (fun z_v13 => (kb (α := Nat → Int32) (upd sv (4 + (sv (16 + x1).toNatClampNeg)).toNatClampNeg ((sv (4 + (sv (16 + x1).toNatClampNeg)).toNatClampNeg) - z_v10)) (fun z_f17 => (kb (α := Nat → Int32) (upd z_f17 (28 : Int32).toNatClampNeg ((z_f17 (28 : Int32).toNatClampNeg) + z_v10)) (fun z_f19 => (kb (α := (Int32)) (if (z_f19 (12 + (sv (16 + x1).toNatClampNeg)).toNatClampNeg) ≤ (sh_X5_counted sv (sv (16 + x1).toNatClampNeg) x2) then 0 else ((z_f19 (12 + (sv (16 + x1).toNatClampNeg)).toNatClampNeg) - (sh_X5_counted sv (sv (16 + x1).toNatClampNeg) x2))) (fun z_v23 => (kb (α := Nat → Int32) (upd z_f19 (12 + (sv (16 + x1).toNatClampNeg)).toNatClampNeg z_v23) (fun z_f24 => (kb (α := Nat → Int32) (upd z_f24 (4 + (sv (16 + x1).toNatClampNeg)).toNatClampNeg ((z_f24 (4 + (sv (16 + x1).toNatClampNeg)).toNatClampNeg) - ((z_f24 (4 + (sv (16 + x1).toNatClampNeg)).toNatClampNeg) / (z_f24 (32 : Int32).toNatClampNeg)))) (fun z_f26 => (kb (α := Nat → Int32) (upd z_f26 (8 + (sv (16 + x1).toNatClampNeg)).toNatClampNeg ((z_f26 (8 + (sv (16 + x1).toNatClampNeg)).toNatClampNeg) + ((z_f24 (4 + (sv (16 + x1).toNatClampNeg)).toNatClampNeg) / (z_f24 (32 : Int32).toNatClampNeg)))) (fun z_f28 => (kb (α := (Int32)) (if z_v10 = (sh_X5_need sv (sv (16 + x1).toNatClampNeg) x2 (sv (31 : Int32).toNatClampNeg)) then 1 else 0) (fun z_v32 => (kb (α := Nat → Int32) (upd z_f28 (18 + x1).toNatClampNeg ((z_f28 (18 + x1).toNatClampNeg) + z_v32)) (fun z_f33 => (kb (α := (Int32)) (if z_v10 = (sh_X5_need sv (sv (16 + x1).toNatClampNeg) x2 (sv (31 : Int32).toNatClampNeg)) then 0 else 1) (fun z_v37 => (kb (α := Nat → Int32) (upd z_f33 (20 + x1).toNatClampNeg ((z_f33 (20 + x1).toNatClampNeg) + z_v37)) (fun z_f38 => (kb (α := Nat → Int32) (upd z_f38 (24 + x1).toNatClampNeg ((z_f38 (24 + x1).toNatClampNeg) + x2)) (fun z_f40 => (kb (α := Nat → Int32) (upd z_f40 (26 + x1).toNatClampNeg z_v13) (fun z_f42 => ((10 + z_v13), z_f42))))))))))))))))))))))))))))) else (kb (α := Nat → Int32) (upd sv (22 + x1).toNatClampNeg ((sv (22 + x1).toNatClampNeg) + 1)) (fun z_f44 => ((sh_X5_reason sv x1), z_f44))))
def sh_X5_takes (sv : Nat → Int32) (x1 : Int32) : Int32 × (Nat → Int32) := (if (sv (16 + x1).toNatClampNeg) = (-1) then ((0 : Int32), sv) else (kb (α := Nat → Int32) (upd sv (4 + (sv (16 + x1).toNatClampNeg)).toNatClampNeg ((sv (4 + (sv (16 + x1).toNatClampNeg)).toNatClampNeg) - ((sv (4 + (sv (16 + x1).toNatClampNeg)).toNatClampNeg) / 50))) (fun z_f2 => (kb (α := Nat → Int32) (upd z_f2 (29 : Int32).toNatClampNeg ((z_f2 (29 : Int32).toNatClampNeg) + ((sv (4 + (sv (16 + x1).toNatClampNeg)).toNatClampNeg) / 50))) (fun z_f4 => (kb (α := Nat → Int32) (upd z_f4 (16 + x1).toNatClampNeg (-1)) (fun z_f6 => (((sv (4 + (sv (16 + x1).toNatClampNeg)).toNatClampNeg) / 50), z_f6))))))))
def sh_X5_scale (sv : Nat → Int32) (x1 : Int32) : Int32 := (((sh_X5_tonerOf sv x1) / (sv (34 : Int32).toNatClampNeg)) * (sv (34 : Int32).toNatClampNeg))
def sh_X5_left (sv : Nat → Int32) (x1 : Int32) : Int32 := (((sh_X5_scale sv x1) + (sv (12 + x1).toNatClampNeg)) / 2)
def sh_X5_allLeft (sv : Nat → Int32) : Int32 := ((((0 + (sh_X5_left sv 0)) + (sh_X5_left sv 1)) + (sh_X5_left sv 2)) + (sh_X5_left sv 3))
def sh_X5_boasts (sv : Nat → Int32) : Int32 := (kb (α := (Int32)) (if (sh_X5_left sv 0) ≤ (sh_X5_tonerOf sv 0) then 0 else 1) (fun z_v9 => (kb (α := (Int32)) (if (sh_X5_left sv 1) ≤ (sh_X5_tonerOf sv 1) then 0 else 1) (fun z_v18 => (kb (α := (Int32)) (if (sh_X5_left sv 2) ≤ (sh_X5_tonerOf sv 2) then 0 else 1) (fun z_v27 => (kb (α := (Int32)) (if (sh_X5_left sv 3) ≤ (sh_X5_tonerOf sv 3) then 0 else 1) (fun z_v36 => ((((0 + z_v9) + z_v18) + z_v27) + z_v36)))))))))
def sh_X5_refill (sv : Nat → Int32) (pa : Nat → Int32) (pn : Int32) (x1 : Int32) (x2 : Int32) : Int32 × (Nat → Int32) × (Nat → Int32) × (Int32) := (if (sh_X5_isCup x1) = 0 then ((-1 : Int32), sv, pa, pn) else (if (sh_X5_in x2 1 6000) = 0 then ((-1 : Int32), sv, pa, pn) else (if (sh_X5_where sv x1) = (-1) then (if 0 < (6000 - (sh_X5_tonerOf sv x1)) then (kb (sh_X5_records sv pa pn) (fun z_f20 => (if (6000 - (sh_X5_tonerOf sv x1)) ≤ x2 then (kb (α := Nat → Int32) (upd sv (8 + x1).toNatClampNeg ((sv (8 + x1).toNatClampNeg) + (6000 - (sh_X5_tonerOf sv x1)))) (fun z_f23 => (kb (α := Nat → Int32) (upd z_f23 (0 + x1).toNatClampNeg 2) (fun z_f25 => (kb (α := Nat → Int32) (upd z_f25 (30 : Int32).toNatClampNeg ((z_f25 (30 : Int32).toNatClampNeg) + (6000 - (sh_X5_tonerOf sv x1)))) (fun z_f27 => ((6000 - (sh_X5_tonerOf sv x1)), z_f27, z_f20.1, z_f20.2))))))) else (kb (α := Nat → Int32) (upd sv (8 + x1).toNatClampNeg ((sv (8 + x1).toNatClampNeg) + x2)) (fun z_f29 => (kb (α := Nat → Int32) (upd z_f29 (0 + x1).toNatClampNeg 2) (fun z_f31 => (kb (α := Nat → Int32) (upd z_f31 (30 : Int32).toNatClampNeg ((z_f31 (30 : Int32).toNatClampNeg) + x2)) (fun z_f33 => (x2, z_f33, z_f20.1, z_f20.2)))))))))) else ((-3 : Int32), sv, pa, pn)) else ((-2 : Int32), sv, pa, pn))))
def sh_X5_set (sv : Nat → Int32) (pa : Nat → Int32) (pn : Int32) (x1 : Int32) (x2 : Int32) : Int32 × (Nat → Int32) × (Nat → Int32) × (Int32) := (if (sh_X5_in x1 0 3) = 0 then ((-1 : Int32), sv, pa, pn) else (if (sh_X5_in x2 (sh_X5_lowest x1) (sh_X5_highest x1)) = 0 then ((-1 : Int32), sv, pa, pn) else (kb (sh_X5_records sv pa pn) (fun z_f18 => (kb (α := Nat → Int32) (upd sv (31 + x1).toNatClampNeg x2) (fun z_f20 => ((sv (31 + x1).toNatClampNeg), z_f20, z_f18.1, z_f18.2)))))))
def sh_X5_takeOut (sv : Nat → Int32) (pa : Nat → Int32) (pn : Int32) (x1 : Int32) : Int32 × (Nat → Int32) × (Nat → Int32) × (Int32) := (if (sh_X5_isPrinter x1) = 0 then ((-1 : Int32), sv, pa, pn) else (if (sv (16 + x1).toNatClampNeg) = (-1) then ((-2 : Int32), sv, pa, pn) else (kb (sh_X5_records sv pa pn) (fun z_f9 => (kb (sh_X5_takes sv x1) (fun z_r11 => ((sv (16 + x1).toNatClampNeg), z_r11.2, z_f9.1, z_f9.2)))))))
def sh_X5_print (sv : Nat → Int32) (pa : Nat → Int32) (pn : Int32) (x1 : Int32) (x2 : Int32) : Int32 × (Nat → Int32) × (Nat → Int32) × (Int32) := (if (sh_X5_isPrinter x1) = 0 then ((-1 : Int32), sv, pa, pn) else (if (sh_X5_areDots x2) = 0 then ((-1 : Int32), sv, pa, pn) else (kb (sh_X5_records sv pa pn) (fun z_f12 => (kb (sh_X5_prints sv x1 x2) (fun z_r14 => (z_r14.1, z_r14.2, z_f12.1, z_f12.2)))))))
def sh_X5_cup (sv : Nat → Int32) (x1 : Int32) (x2 : Int32) : Int32 := (if (sh_X5_isCup x1) = 0 then (-1 : Int32) else (if x2 = 0 then (sv (0 + x1).toNatClampNeg) else (if x2 = 1 then (sv (4 + x1).toNatClampNeg) else (if x2 = 2 then (sv (8 + x1).toNatClampNeg) else (if x2 = 3 then (sv (12 + x1).toNatClampNeg) else (if x2 = 4 then (if (sh_X5_where sv x1) = (-1) then (-4 : Int32) else (sh_X5_where sv x1)) else (if x2 = 5 then (sh_X5_scale sv x1) else (if x2 = 6 then (sh_X5_left sv x1) else (if x2 = 7 then (((sh_X5_left sv x1) - (sh_X5_tonerOf sv x1)) + 100000) else (-1 : Int32))))))))))
def sh_X5_printer (sv : Nat → Int32) (x1 : Int32) (x2 : Int32) : Int32 := (if (sh_X5_isPrinter x1) = 0 then (-1 : Int32) else (if x2 = 0 then (if (sv (16 + x1).toNatClampNeg) = (-1) then (-4 : Int32) else (sv (16 + x1).toNatClampNeg)) else (if x2 = 1 then (sv (18 + x1).toNatClampNeg) else (if x2 = 2 then (sv (20 + x1).toNatClampNeg) else (if x2 = 3 then (sv (22 + x1).toNatClampNeg) else (if x2 = 4 then (sv (24 + x1).toNatClampNeg) else (if x2 = 5 then (if (sv (26 + x1).toNatClampNeg) = (-1) then (-4 : Int32) else (sv (26 + x1).toNatClampNeg)) else (-1 : Int32))))))))
def sh_X5_needs (sv : Nat → Int32) (x1 : Int32) (x2 : Int32) (x3 : Int32) : Int32 := (if (sh_X5_isCup x1) = 0 then (-1 : Int32) else (if (sh_X5_areDots x2) = 0 then (-1 : Int32) else (if (sh_X5_in x3 0 1) = 0 then (-1 : Int32) else (if x3 = 0 then (sh_X5_need sv x1 x2 (sv (31 : Int32).toNatClampNeg)) else (sh_X5_counted sv x1 x2)))))
def sh_X5_whyNot (sv : Nat → Int32) (x1 : Int32) : Int32 := (if (sh_X5_isPrinter x1) = 0 then (-1 : Int32) else (sh_X5_reason sv x1))
def sh_X5_count (sv : Nat → Int32) (pn : Int32) (ln : Int32) (x1 : Int32) : Int32 := (if x1 = 0 then (sh_X5_toner sv) else (if x1 = 1 then (sv (28 : Int32).toNatClampNeg) else (if x1 = 2 then (sv (29 : Int32).toNatClampNeg) else (if x1 = 3 then (sv (30 : Int32).toNatClampNeg) else (if x1 = 4 then (sh_X5_allPages sv) else (if x1 = 5 then (kb (α := (Int32)) (if (sv (16 : Int32).toNatClampNeg) = (-1) then 0 else 1) (fun z_v23 => (kb (α := (Int32)) (if (sv (17 : Int32).toNatClampNeg) = (-1) then 0 else 1) (fun z_v26 => (z_v23 + z_v26))))) else (if x1 = 6 then (sh_X5_allLeft sv) else (if x1 = 7 then (sh_X5_boasts sv) else (if x1 = 8 then (sv ((31 + x1) - 8).toNatClampNeg) else (if x1 = 9 then (sv ((31 + x1) - 8).toNatClampNeg) else (if x1 = 10 then (sv ((31 + x1) - 8).toNatClampNeg) else (if x1 = 11 then (sv ((31 + x1) - 8).toNatClampNeg) else (if x1 = 12 then ln else (if x1 = 13 then pn else (-1 : Int32)))))))))))))))
theorem k_mu0 {x v g z : Int32} {n : Nat} (h : (x.toInt - v.toInt).toNat + (if g = 0 then 0 else 1) < n + 1) (c : ¬ g = 0) (hz : z = 0) : (x.toInt - v.toInt).toNat + (if z = 0 then 0 else 1) < n := by
  rw [if_neg c] at h; rw [if_pos hz]; omega
theorem k_mu1 {x v g z : Int32} {n : Nat} (h : (x.toInt - v.toInt).toNat + (if g = 0 then 0 else 1) < n + 1) (c1 : ¬ x ≤ v) (c : ¬ g = 0) (hz : ¬ z = 0) : (x.toInt - (v + 1).toInt).toNat + (if z = 0 then 0 else 1) < n := by
  rw [if_neg c] at h; rw [if_neg hz]
  have h1 : (x.toInt - v.toInt).toNat < n + 1 := by omega
  have := k_mu h1 c1
  rw [Int32.le_iff_toInt_le] at c1
  have h1 := x.toInt_lt
  have h2 := v.le_toInt
  have e : (v + 1).toInt = v.toInt + 1 := by
    rw [Int32.toInt_add]
    exact Int.bmod_eq_of_le (by simp; omega) (by simp; omega)
  omega
def lp_X5_lastsFor_40 (sv : Nat → Int32) (x1 : Int32) (x2 : Int32) (x3 : Int32) (x4 : Int32) (x5 : Int32) : Nat → (Int32) → (Int32) → (Int32) → (Int32) → (Int32 × (Int32) × (Int32))
  | 0, _, _, _, _ => default
  | fu + 1, n7, g8, l_hd, l_st => (if g8 = 0 then (n7, l_hd, l_st) else (if x5 ≤ n7 then (n7, l_hd, l_st) else (kb (α := (Int32) × (Int32)) (if (sh_X5_isDark l_hd (sh_X5_need sv x1 x2 x3)) = 0 then (if x4 = 0 then (l_hd, l_st) else ((l_hd + (l_st / 2)), (l_st - (l_st / 2)))) else (l_hd, l_st)) (fun z_v37 => (if (sh_X5_isDark z_v37.1 (sh_X5_need sv x1 x2 x3)) = 0 then (lp_X5_lastsFor_40 sv x1 x2 x3 x4 x5 fu n7 (sh_X5_isDark z_v37.1 (sh_X5_need sv x1 x2 x3)) z_v37.1 z_v37.2) else (lp_X5_lastsFor_40 sv x1 x2 x3 x4 x5 fu (n7 + 1) (sh_X5_isDark z_v37.1 (sh_X5_need sv x1 x2 x3)) ((z_v37.1 - (sh_X5_need sv x1 x2 x3)) - ((z_v37.1 - (sh_X5_need sv x1 x2 x3)) / (sv (32 : Int32).toNatClampNeg))) (z_v37.2 + ((z_v37.1 - (sh_X5_need sv x1 x2 x3)) / (sv (32 : Int32).toNatClampNeg)))))))))
def sh_X5_lastsFor (sv : Nat → Int32) (x1 : Int32) (x2 : Int32) (x3 : Int32) (x4 : Int32) (x5 : Int32) : Int32 × (Int32) × (Int32) := (lp_X5_lastsFor_40 sv x1 x2 x3 x4 x5 (((x5.toInt - (0 : Int32).toInt).toNat + (if (1 : Int32) = 0 then 0 else 1)) + 1) 0 1 (sv (4 + x1).toNatClampNeg) (sv (8 + x1).toNatClampNeg))
def sh_X5_lasts (sv : Nat → Int32) (hd : Int32) (st : Int32) (x1 : Int32) (x2 : Int32) (x3 : Int32) : Int32 × (Int32) × (Int32) := (if (sh_X5_isCup x1) = 0 then ((-1 : Int32), hd, st) else (if (sh_X5_areDots x2) = 0 then ((-1 : Int32), hd, st) else (kb (sh_X5_lastsFor sv x1 x2 (sv (31 : Int32).toNatClampNeg) x3 999) (fun z_r9 => (z_r9.1, z_r9.2.1, z_r9.2.2)))))
def sh_X5_atHand (sv : Nat → Int32) (hd : Int32) (st : Int32) (x1 : Int32) (x2 : Int32) (x3 : Int32) (x4 : Int32) : Int32 × (Int32) × (Int32) := (if (sh_X5_isCup x1) = 0 then ((-1 : Int32), hd, st) else (if (sh_X5_areDots x2) = 0 then ((-1 : Int32), hd, st) else (if (sh_X5_in x3 0 50) = 0 then ((-1 : Int32), hd, st) else (if (sh_X5_in x4 0 1) = 0 then ((-1 : Int32), hd, st) else (kb (sh_X5_lastsFor sv x1 x2 (sv (31 : Int32).toNatClampNeg) 0 x3) (fun z_r17 => (if z_r17.1 = x3 then (z_r17.2.1, z_r17.2.1, z_r17.2.2) else ((-4 : Int32), z_r17.2.1, z_r17.2.2))))))))
def sh_X5_darkest (sv : Nat → Int32) (hd : Int32) (st : Int32) (x1 : Int32) (x2 : Int32) (x3 : Int32) : Int32 × (Int32) × (Int32) := (if (sh_X5_isCup x1) = 0 then ((-1 : Int32), hd, st) else (if (sh_X5_areDots x2) = 0 then ((-1 : Int32), hd, st) else (if (sh_X5_in x3 1 50) = 0 then ((-1 : Int32), hd, st) else (kb (sh_X5_lastsFor sv x1 x2 1 1 x3) (fun z_r13 => (kb (α := (Int32)) (if z_r13.1 = x3 then 1 else (-4)) (fun z_v20 => (kb (sh_X5_lastsFor sv x1 x2 2 1 x3) (fun z_r21 => (kb (α := (Int32)) (if z_r21.1 = x3 then 2 else z_v20) (fun z_v28 => (kb (sh_X5_lastsFor sv x1 x2 3 1 x3) (fun z_r29 => (kb (α := (Int32)) (if z_r29.1 = x3 then 3 else z_v28) (fun z_v36 => (kb (sh_X5_lastsFor sv x1 x2 4 1 x3) (fun z_r37 => (kb (α := (Int32)) (if z_r37.1 = x3 then 4 else z_v36) (fun z_v44 => (kb (sh_X5_lastsFor sv x1 x2 5 1 x3) (fun z_r45 => (kb (α := (Int32)) (if z_r45.1 = x3 then 5 else z_v44) (fun z_v52 => (z_v52, z_r45.2.1, z_r45.2.2))))))))))))))))))))))))
def lp_X5_bestFor_25 (sv : Nat → Int32) (x1 : Int32) (x2 : Int32) : Nat → (Int32) → (Int32) → (Int32) → (Int32) → (Int32 × (Int32) × (Int32))
  | 0, _, _, _, _ => default
  | fu + 1, c4, b3, l_hd, l_st => (if 4 ≤ c4 then (b3, l_hd, l_st) else (kb (sh_X5_lastsFor sv c4 x1 (sv (31 : Int32).toNatClampNeg) 1 x2) (fun z_r10 => (kb (α := (Int32)) (if z_r10.1 = x2 then 1 else 0) (fun z_v17 => (kb (α := (Int32)) (if z_v17 = 0 then b3 else (if b3 = (-4) then c4 else (if (sh_X5_tonerOf sv b3) ≤ (sh_X5_tonerOf sv c4) then b3 else c4))) (fun z_v28 => (lp_X5_bestFor_25 sv x1 x2 fu (c4 + 1) z_v28 z_r10.2.1 z_r10.2.2))))))))
def sh_X5_bestFor (sv : Nat → Int32) (hd : Int32) (st : Int32) (x1 : Int32) (x2 : Int32) : Int32 × (Int32) × (Int32) := (if (sh_X5_areDots x1) = 0 then ((-1 : Int32), hd, st) else (if (sh_X5_in x2 1 50) = 0 then ((-1 : Int32), hd, st) else (lp_X5_bestFor_25 sv x1 x2 (((4 : Int32).toInt - (0 : Int32).toInt).toNat + 1) 0 (-4) hd st)))
