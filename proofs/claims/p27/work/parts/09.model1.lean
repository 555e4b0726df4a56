theorem vp_row {p k : Int32} (hp : vp_in p 4) (hk : vp_in k 35) : vp_in (35 * p + k) 140 := by
  rw [vp_in_iff] at *
  have e1 : (35 * p).toInt = 35 * p.toInt := by
    rw [Int32.toInt_mul]
    exact Int.bmod_eq_of_le (by simp; omega) (by simp; omega)
  have e2 : (35 * p + k).toInt = 35 * p.toInt + k.toInt := by
    rw [Int32.toInt_add, e1]
    exact Int.bmod_eq_of_le (by simp; omega) (by simp; omega)
  omega
theorem k_up {k N : Int32} (h : ¬ k < 0) (c : ¬ N ≤ k) (hN : N.toInt ≤ 1000000) : ¬ k + 1 < 0 := by
  rw [Int32.lt_iff_toInt_lt] at *
  rw [Int32.le_iff_toInt_le] at c
  have e : (k + 1).toInt = k.toInt + 1 := by
    have : (0 : Int32).toInt = 0 := rfl
    rw [Int32.toInt_add]
    exact Int.bmod_eq_of_le (by simp; omega) (by simp; omega)
  have : (0 : Int32).toInt = 0 := rfl
  omega
theorem vp_not4 {x : Int32} (h : vp_in x 5) (c : ¬ x = 4) : vp_in x 4 := by
  rw [vp_in_iff] at *
  have := k_ne c
  have : (4 : Int32).toInt = 4 := rfl
  omega
theorem vp_decr {x k : Int32} {n : Nat} (h : vp_in x (n + 1)) (c : ¬ x = k) (hk : k.toInt = n) : vp_in x n := by
  rw [vp_in_iff] at *
  have := k_ne c
  omega
theorem vp_pred {x : Int32} (h : vp_in x 5) (c : ¬ x = 0) : vp_in (x - 1) 4 := by
  rw [vp_in_iff] at *
  have := k_ne c
  have : (0 : Int32).toInt = 0 := rfl
  have e : (x - 1).toInt = x.toInt - 1 := by
    rw [Int32.toInt_sub]
    exact Int.bmod_eq_of_le (by simp; omega) (by simp; omega)
  omega

def sh_X5_in (x1 : Int32) (x2 : Int32) (x3 : Int32) : Int32 := (if x1 < x2 then (0 : Int32) else (if x3 < x1 then (0 : Int32) else (1 : Int32)))
theorem in01 {a b c : Int32} : narrow .boolean (.int (sh_X5_in a b c)) = .int (sh_X5_in a b c) := by
  unfold sh_X5_in
  split
  · rfl
  · split <;> rfl
theorem inIn {x hi : Int32} {n : Nat} (h : ¬ sh_X5_in x 0 hi = 0) (hn : hi.toInt + 1 = n) : vp_in x n := by
  unfold sh_X5_in at h
  split at h
  · exact absurd rfl h
  · split at h
    · exact absurd rfl h
    · rename_i h1 h2
      rw [vp_in_iff]
      rw [Int32.lt_iff_toInt_lt] at h1 h2
      have : (0 : Int32).toInt = 0 := rfl
      omega
def sh_X5_isCup (x1 : Int32) : Int32 := (sh_X5_in x1 0 3)
def sh_X5_isPrinter (x1 : Int32) : Int32 := (sh_X5_in x1 0 1)
def sh_X5_areDots (x1 : Int32) : Int32 := (sh_X5_in x1 1 999)
theorem mIn4 {x : Int32} (h : ¬ sh_X5_isCup x = 0) : vp_in x 4 := inIn h (by decide)
theorem mIn2 {x : Int32} (h : ¬ sh_X5_isPrinter x = 0) : vp_in x 2 := inIn h (by decide)
def sh_X5_lowest (x1 : Int32) : Int32 := (kb (α := (Int32)) (if x1 = 1 then 2 else (if x1 = 2 then 0 else 1)) (fun z_v4 => z_v4))
def sh_X5_highest (x1 : Int32) : Int32 := (kb (α := (Int32)) (if x1 = 0 then 5 else (if x1 = 1 then 50 else (if x1 = 2 then 1 else 500))) (fun z_v5 => z_v5))
def lp_X5_records_49 (sv : Nat → Int32) : Nat → (Int32) → (Nat → Int32) → (Int32) → ((Nat → Int32) × (Int32))
  | 0, _, _, _ => default
  | fu + 1, k2, l_pa, l_pn => (if 35 ≤ k2 then (l_pa, (l_pn + 1)) else (kb (α := Nat → Int32) (upd l_pa ((35 * l_pn) + k2).toNatClampNeg (sv k2.toNatClampNeg)) (fun z_f7 => (lp_X5_records_49 sv fu (k2 + 1) z_f7 l_pn))))
def lp_X5_records_10 (sv : Nat → Int32) (pn : Int32) : Nat → (Int32) → (Nat → Int32) → ((Nat → Int32) × (Int32))
  | 0, _, _ => default
  | fu + 1, k1, l_pa => (if 105 ≤ k1 then (lp_X5_records_49 sv (((35 : Int32).toInt - (0 : Int32).toInt).toNat + 1) 0 l_pa (pn - 1)) else (kb (α := Nat → Int32) (upd l_pa k1.toNatClampNeg (l_pa (35 + k1).toNatClampNeg)) (fun z_f9 => (lp_X5_records_10 sv pn fu (k1 + 1) z_f9))))
def sh_X5_records (sv : Nat → Int32) (pa : Nat → Int32) (pn : Int32) : (Nat → Int32) × (Int32) := (if pn = 4 then (lp_X5_records_10 sv pn (((105 : Int32).toInt - (0 : Int32).toInt).toNat + 1) 0 pa) else (lp_X5_records_49 sv (((35 : Int32).toInt - (0 : Int32).toInt).toNat + 1) 0 pa pn))
def sh_X5_need (sv : Nat → Int32) (x1 : Int32) (x2 : Int32) (x3 : Int32) : Int32 := (kb (α := (Int32)) (if (sv (0 + x1).toNatClampNeg) = 0 then (x2 * x3) else (if (sv (0 + x1).toNatClampNeg) = 1 then (((x2 * x3) * 3) / 4) else (((x2 * x3) * 9) / 8))) (fun z_v4 => z_v4))
def sh_X5_counted (sv : Nat → Int32) (x1 : Int32) (x2 : Int32) : Int32 := (kb (α := (Int32)) (if (sv (0 + x1).toNatClampNeg) = 2 then (x2 * (sv (31 : Int32).toNatClampNeg)) else (sh_X5_need sv x1 x2 (sv (31 : Int32).toNatClampNeg))) (fun z_v6 => z_v6))
def sh_X5_where (sv : Nat → Int32) (x1 : Int32) : Int32 := (if (sv (16 : Int32).toNatClampNeg) = x1 then (0 : Int32) else (if (sv (17 : Int32).toNatClampNeg) = x1 then (1 : Int32) else (-1 : Int32)))
def sh_X5_tonerOf (sv : Nat → Int32) (x1 : Int32) : Int32 := ((sv (4 + x1).toNatClampNeg) + (sv (8 + x1).toNatClampNeg))
def sh_X5_toner (sv : Nat → Int32) : Int32 := ((((0 + (sh_X5_tonerOf sv 0)) + (sh_X5_tonerOf sv 1)) + (sh_X5_tonerOf sv 2)) + (sh_X5_tonerOf sv 3))
def sh_X5_shakes (sv : Nat → Int32) (x1 : Int32) : Int32 × (Nat → Int32) := (kb (α := Nat → Int32) (upd sv (8 + x1).toNatClampNeg ((sv (8 + x1).toNatClampNeg) - ((sv (8 + x1).toNatClampNeg) / 2))) (fun z_f1 => (kb (α := Nat → Int32) (upd z_f1 (4 + x1).toNatClampNeg ((z_f1 (4 + x1).toNatClampNeg) + ((sv (8 + x1).toNatClampNeg) / 2))) (fun z_f3 => (((sv (8 + x1).toNatClampNeg) / 2), z_f3)))))
def sh_X5_clear (ln : Int32) : Int32 × (Int32) := (ln, (0 : Int32))
def sh_X5_darkPages (sv : Nat → Int32) : Int32 := ((sv (18 : Int32).toNatClampNeg) + (sv (19 : Int32).toNatClampNeg))
def sh_X5_allPages (sv : Nat → Int32) : Int32 := (((sh_X5_darkPages sv) + (sv (20 : Int32).toNatClampNeg)) + (sv (21 : Int32).toNatClampNeg))
def sh_X5_isDark (hd : Int32) (x1 : Int32) : Int32 := (if hd ≤ 0 then (0 : Int32) else (if hd < x1 then (0 : Int32) else (1 : Int32)))
def lp_X5_undo_22 (pa : Nat → Int32) (pn : Int32) : Nat → (Int32) → (Nat → Int32) → (Int32 × (Nat → Int32) × (Int32))
  | 0, _, _ => default
  | fu + 1, k1, l_sv => (if 35 ≤ k1 then ((pn - 1), l_sv, (pn - 1)) else (kb (α := Nat → Int32) (upd l_sv k1.toNatClampNeg (pa ((35 * (pn - 1)) + k1).toNatClampNeg)) (fun z_f3 => (lp_X5_undo_22 pa pn fu (k1 + 1) z_f3))))
def sh_X5_undo (sv : Nat → Int32) (pa : Nat → Int32) (pn : Int32) : Int32 × (Nat → Int32) × (Int32) := (if pn = 0 then ((-2 : Int32), sv, pn) else (lp_X5_undo_22 pa pn (((35 : Int32).toInt - (0 : Int32).toInt).toNat + 1) 0 sv))
def lp_X5_save_2 (sv : Nat → Int32) : Nat → (Int32) → (Nat → Int32) → (Int32 × (Nat → Int32) × (Int32))
  | 0, _, _ => default
  | fu + 1, k1, l_sn => (if 35 ≤ k1 then ((sh_X5_toner sv), l_sn, (1 : Int32)) else (kb (α := Nat → Int32) (upd l_sn k1.toNatClampNeg (sv k1.toNatClampNeg)) (fun z_f7 => (lp_X5_save_2 sv fu (k1 + 1) z_f7))))
def sh_X5_save (sv : Nat → Int32) (sn : Nat → Int32) : Int32 × (Nat → Int32) × (Int32) := (lp_X5_save_2 sv (((35 : Int32).toInt - (0 : Int32).toInt).toNat + 1) 0 sn)
def lp_X5_restore_16 (f5 : Nat → Int32) (v6 : Int32) (sn : Nat → Int32) : Nat → (Int32) → (Nat → Int32) → (Int32 × (Nat → Int32) × (Nat → Int32) × (Int32))
  | 0, _, _ => default
  | fu + 1, k1, l_sv => (if 35 ≤ k1 then ((sh_X5_toner l_sv), l_sv, f5, v6) else (kb (α := Nat → Int32) (upd l_sv k1.toNatClampNeg (sn k1.toNatClampNeg)) (fun z_f11 => (lp_X5_restore_16 f5 v6 sn fu (k1 + 1) z_f11))))
def sh_X5_restore (sv : Nat → Int32) (pa : Nat → Int32) (pn : Int32) (sn : Nat → Int32) (kp : Int32) : Int32 × (Nat → Int32) × (Nat → Int32) × (Int32) := (if kp = 0 then ((-2 : Int32), sv, pa, pn) else (kb (sh_X5_records sv pa pn) (fun z_f5 => (lp_X5_restore_16 z_f5.1 z_f5.2 sn (((35 : Int32).toInt - (0 : Int32).toInt).toNat + 1) 0 sv))))
def sh_X5_shake (sv : Nat → Int32) (pa : Nat → Int32) (pn : Int32) (x1 : Int32) : Int32 × (Nat → Int32) × (Nat → Int32) × (Int32) := (if (sh_X5_isCup x1) = 0 then ((-1 : Int32), sv, pa, pn) else (kb (sh_X5_records sv pa pn) (fun z_f8 => (kb (sh_X5_shakes sv x1) (fun z_r10 => (z_r10.1, z_r10.2, z_f8.1, z_f8.2))))))
def sh_X5_append (pd : Nat → Int32) (ln : Int32) (x1 : Int32) : Int32 × (Nat → Int32) × (Int32) := (if (sh_X5_in x1 33 126) = 0 then ((-1 : Int32), pd, ln) else (if ln = 60 then ((-3 : Int32), pd, ln) else (kb (α := Nat → Int32) (upd pd ln.toNatClampNeg x1) (fun z_f6 => ((ln + 1), z_f6, (ln + 1))))))
def sh_X5_why (so : Nat → Int32) (x1 : Int32) : Int32 := (if (sh_X5_in x1 0 3) = 0 then (-1 : Int32) else (if (so (0 : Int32).toNatClampNeg) = 0 then (-4 : Int32) else (so x1.toNatClampNeg)))
