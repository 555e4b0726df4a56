theorem pages_mu {t n0 r v v2 : Int32} {n : Nat} (hmu : (t.toInt - n0.toInt).toNat + (if r = 0 then 1 else 0) < n + 1) (c1 : ¬ t ≤ n0) (hr : r = 0) (hv2 : v2 = if v = 0 then 1 else 0) : (t.toInt - (n0 + v2).toInt).toNat + (if v = 0 then 1 else 0) < n := by
  rw [if_pos hr] at hmu
  by_cases c : v = 0
  · rw [if_pos c] at hv2 ⊢
    rw [hv2]
    have := k_mu (x := t) (v := n0) (n := (t.toInt - n0.toInt).toNat) (by omega) c1
    omega
  · rw [if_neg c] at hv2 ⊢
    rw [hv2, Int32.add_zero]
    omega
def lp_X5_pages_4 (so : Nat → Int32) (fr : Int32) (sc : Int32) (tm : Int32) : Nat → (Int32) → (Int32) → (Nat → Int32) → (Int32 × (Nat → Int32) × (Nat → Int32))
  | 0, _, _, _ => default
  | fu + 1, n1, r2, l_sv => (if tm ≤ n1 then (kb (α := Nat → Int32) (upd so (0 : Int32).toNatClampNeg r2) (fun z_f13 => (kb (α := Nat → Int32) (upd z_f13 (3 : Int32).toNatClampNeg n1) (fun z_f15 => (n1, l_sv, z_f15))))) else (if r2 = 0 then (kb (sh_X5_prints l_sv fr sc) (fun z_r32 => (kb (α := (Int32)) (if 10 ≤ z_r32.1 then 0 else z_r32.1) (fun z_v38 => (kb (α := (Int32)) (if z_v38 = 0 then 1 else 0) (fun z_v41 => (lp_X5_pages_4 so fr sc tm fu (n1 + z_v41) z_v38 z_r32.2))))))) else (kb (α := Nat → Int32) (upd so (0 : Int32).toNatClampNeg r2) (fun z_f28 => (kb (α := Nat → Int32) (upd z_f28 (3 : Int32).toNatClampNeg n1) (fun z_f30 => (n1, l_sv, z_f30)))))))
def sh_X5_pages (sv : Nat → Int32) (so : Nat → Int32) (fr : Int32) (sc : Int32) (tm : Int32) : Int32 × (Nat → Int32) × (Nat → Int32) := (lp_X5_pages_4 so fr sc tm (((tm.toInt - (0 : Int32).toInt).toNat + (if (0 : Int32) = 0 then 1 else 0)) + 1) 0 0 sv)
