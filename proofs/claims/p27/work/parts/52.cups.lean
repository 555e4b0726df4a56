section CPQ
variable {x : TMa} {sv : Nat → Int32} {c q d : Int32}
theorem q_shakes (h : mrel x sv) (hc : vp_in c 4) {R : Int32 × (Nat → Int32) × (Nat → Int32)} (hR : R = sh_X1_shakeCup x.2.2.1 x.2.2.2.1 c) :
    R.1 = (sh_X5_shakes sv c).1 ∧ mrel (w_sl (w_ha x R.2.1) R.2.2) (sh_X5_shakes sv c).2 := by
  have e4 := q_ix (k := 4) (m := 4) hc rfl (by decide) (by decide)
  have e8 := q_ix (k := 8) (m := 8) hc rfl (by decide) (by decide)
  have l := (k_cl hc).1
  have a8 : sv (8 + c.toNatClampNeg) = x.2.2.2.1 c.toNatClampNeg := (h.2.2.2.1 _ l).symm
  have a4 : sv (4 + c.toNatClampNeg) = x.2.2.1 c.toNatClampNeg := (h.2.2.1 _ l).symm
  unfold sh_X1_shakeCup at hR
  unfold sh_X5_shakes
  rw [e4, e8, a8]
  generalize x.2.2.2.1 c.toNatClampNeg / 2 = t at hR ⊢
  simp only [kb]
  have m1 := mr_sl (v := x.2.2.2.1 c.toNatClampNeg - t) h l
  have b4 : upd sv (8 + c.toNatClampNeg) (x.2.2.2.1 c.toNatClampNeg - t) (4 + c.toNatClampNeg) = x.2.2.1 c.toNatClampNeg := by
    rw [pk_un (by omega), a4]
  rw [b4]
  have m2 := mr_ha (v := x.2.2.1 c.toNatClampNeg + t) m1 l
  subst hR
  exact ⟨rfl, m2⟩
theorem q_takes (h : mrel x sv) (hi : iv sv) (hq : vp_in q 2) {R : (Nat → Int32) × (Nat → Int32) × Int32} (hR : R = sh_X1_empty x.2.2.1 x.2.2.2.2.2.1 x.2.2.2.2.2.2.2.2.2.2.2.2.1 q) :
    R.2.2 = x.2.2.2.2.2.2.2.2.2.2.2.2.1 + (sh_X5_takes sv q).1 ∧ mrel (w_sp (w_ci (w_ha x R.1) R.2.1) R.2.2) (sh_X5_takes sv q).2 := by
  have e16 := q_ix (k := 16) (m := 16) hq rfl (by decide) (by decide)
  have lq := (k_cl hq).1
  unfold sh_X1_empty at hR
  unfold sh_X5_takes
  rw [q_ciN h hq] at hR
  by_cases a : sv (16 + q).toNatClampNeg = -1
  · rw [if_pos a]
    rw [a, dec4_no, if_pos isCup_no] at hR
    subst hR
    exact ⟨(Int32.add_zero _).symm, h⟩
  · rw [if_neg a]
    have hc := iv_cup hi hq a
    rw [dec4_in hc, if_neg (by rw [isCup_in hc]; decide)] at hR
    generalize sv (16 + q).toNatClampNeg = cup at hc hR ⊢
    have e4 := q_ix (k := 4) (m := 4) hc rfl (by decide) (by decide)
    have l := (k_cl hc).1
    have a4 : sv (4 + cup).toNatClampNeg = x.2.2.1 cup.toNatClampNeg := by rw [e4]; exact (h.2.2.1 _ l).symm
    rw [a4]
    generalize x.2.2.1 cup.toNatClampNeg / 50 = t at hR ⊢
    refine kb_ind (P := fun r : Int32 × (Nat → Int32) => R.2.2 = _ + r.1 ∧ mrel _ r.2) (fun f1 h1 => ?_)
    rw [e4] at h1
    have m1 := mr_ha (v := x.2.2.1 cup.toNatClampNeg - t) h l
    rw [← h1] at m1
    refine kb_ind (P := fun r : Int32 × (Nat → Int32) => R.2.2 = _ + r.1 ∧ mrel _ r.2) (fun f2 h2 => ?_)
    have a29 : f1 (29 : Int32).toNatClampNeg = x.2.2.2.2.2.2.2.2.2.2.2.2.1 := m1.2.2.2.2.2.2.2.2.2.2.2.2.1.symm
    rw [a29] at h2
    have m2 := mr_sp (v := x.2.2.2.2.2.2.2.2.2.2.2.2.1 + t) m1
    rw [show upd f1 29 (x.2.2.2.2.2.2.2.2.2.2.2.2.1 + t) = f2 from h2.symm] at m2
    refine kb_ind (P := fun r : Int32 × (Nat → Int32) => R.2.2 = _ + r.1 ∧ mrel _ r.2) (fun f3 h3 => ?_)
    rw [e16] at h3
    have m3 := mr_ci (v := -1) m2 lq
    rw [← h3, dec4_no] at m3
    subst hR
    exact ⟨rfl, m3⟩
theorem dec4_inj (hc : vp_in c 4) {v : Int32} (hv : -1 ≤ v.toInt ∧ v.toInt ≤ 3) : dec4 v = c ↔ v = c := by
  have hc2 := vp_in_iff.mp hc
  unfold dec4
  by_cases a : v = -1
  · rw [if_pos a, a]
    have e : (-1 : Int32).toInt = -1 := rfl
    have e4 : (-4 : Int32).toInt = -4 := rfl
    exact ⟨fun g => by rw [← g] at hc2; omega, fun g => by rw [← g] at hc2; omega⟩
  · rw [if_neg a]
theorem q_where (h : mrel x sv) (hi : iv sv) (hc : vp_in c 4) : sh_X1_printerOf x.2.2.2.2.2.1 c = dec4 (sh_X5_where sv c) := by
  unfold sh_X1_printerOf sh_X5_where
  have c0 : x.2.2.2.2.2.1 (0 : Int32).toNatClampNeg = dec4 (sv (16 : Int32).toNatClampNeg) := h.2.2.2.2.2.1 0 (by decide)
  have c1 : x.2.2.2.2.2.1 (1 : Int32).toNatClampNeg = dec4 (sv (17 : Int32).toNatClampNeg) := h.2.2.2.2.2.1 1 (by decide)
  have b0 : -1 ≤ (sv (16 : Int32).toNatClampNeg).toInt ∧ (sv (16 : Int32).toNatClampNeg).toInt ≤ 3 := hi.2.2.1 0 (by decide)
  have b1 : -1 ≤ (sv (17 : Int32).toNatClampNeg).toInt ∧ (sv (17 : Int32).toNatClampNeg).toInt ≤ 3 := hi.2.2.1 1 (by decide)
  rw [c0, c1]
  by_cases a : sv (16 : Int32).toNatClampNeg = c
  · rw [if_pos ((dec4_inj hc b0).mpr a), if_pos a]; rfl
  · rw [if_neg (fun e => a ((dec4_inj hc b0).mp e)), if_neg a]
    by_cases b : sv (17 : Int32).toNatClampNeg = c
    · rw [if_pos ((dec4_inj hc b1).mpr b), if_pos b]; rfl
    · rw [if_neg (fun e => b ((dec4_inj hc b1).mp e)), if_neg b]; rfl
theorem q_isAt (hi : iv sv) (hc : vp_in c 4) (hq : vp_in q 2) : sh_X5_where sv c = q ↔ sv (16 + q).toNatClampNeg = c := by
  have e16 := q_ix (k := 16) (m := 16) hq rfl (by decide) (by decide)
  have hc2 := vp_in_iff.mp hc
  have q2 := vp_in_iff.mp hq
  have kq := k_cl hq
  have z : (0 : Int32).toInt = 0 := rfl
  have o : (1 : Int32).toInt = 1 := rfl
  have n1 : (-1 : Int32).toInt = -1 := rfl
  rw [e16]
  unfold sh_X5_where
  have d : sv 16 = -1 ∨ ¬ sv 16 = sv 17 := hi.2.2.2.1
  rw [show (16 : Int32).toNatClampNeg = 16 from rfl, show (17 : Int32).toNatClampNeg = 17 from rfl]
  rcases (show q.toNatClampNeg = 0 ∨ q.toNatClampNeg = 1 by omega) with e | e
  · have eq : q = 0 := Int32.toInt_inj.mp (by omega)
    rw [e]
    subst eq
    by_cases a : sv 16 = c
    · rw [if_pos a]; exact ⟨fun _ => a, fun _ => rfl⟩
    · rw [if_neg a]
      refine ⟨fun g => ?_, fun g => absurd g a⟩
      split at g <;> exact absurd g (by decide)
  · have eq : q = 1 := Int32.toInt_inj.mp (by omega)
    rw [e]
    subst eq
    by_cases a : sv 16 = c
    · rw [if_pos a]
      refine ⟨fun g => absurd g (by decide), fun g => ?_⟩
      rcases d with d | d
      · rw [d] at a
        rw [← a] at hc2
        omega
      · exact absurd (a.trans g.symm) d
    · rw [if_neg a]
      by_cases b : sv 17 = c
      · rw [if_pos b]; exact ⟨fun _ => b, fun _ => rfl⟩
      · rw [if_neg b]
        exact ⟨fun g => absurd g (by decide), fun g => absurd g b⟩
theorem sub_back {a b t : Int32} (h : b = a + t) : b - a = t := by
  rw [h, Int32.add_comm, Int32.add_sub_cancel]
theorem q_moves (h : mrel x sv) (hi : iv sv) (hc : vp_in c 4) (hq : vp_in q 2) {R : Int32 × (Nat → Int32) × (Nat → Int32) × Int32} (hR : R = sh_X1_moveCup x.2.2.1 x.2.2.2.2.2.1 x.2.2.2.2.2.2.2.2.2.2.2.2.1 c q) :
    R.1 = (sh_X5_moves sv c q).1 ∧ mrel (w_sp (w_ci (w_ha x R.2.1) R.2.2.1) R.2.2.2) (sh_X5_moves sv c q).2 := by
  have e16 := q_ix (k := 16) (m := 16) hq rfl (by decide) (by decide)
  have lq := (k_cl hq).1
  have dc := dec4_in hc
  have b := hi.2.2.1 _ lq
  unfold sh_X1_moveCup at hR
  unfold sh_X5_moves
  rw [q_ciN h hq] at hR
  by_cases a : sh_X5_where sv c = q
  · rw [if_pos a]
    have a2 := (q_isAt hi hc hq).mp a
    rw [a2, dc, if_pos rfl] at hR
    subst hR
    exact ⟨rfl, h⟩
  · rw [if_neg a]
    have a2 : ¬ dec4 (sv (16 + q).toNatClampNeg) = c := fun e => a ((q_isAt hi hc hq).mpr ((dec4_inj hc (by rw [e16]; exact b)).mp e))
    rw [if_neg a2, q_where h hi hc] at hR
    by_cases w : sh_X5_where sv c = -1
    · rw [if_pos w]
      rw [w, dec4_no, if_pos isPrn_no] at hR
      have t := q_takes h hi hq (R := sh_X1_empty x.2.2.1 x.2.2.2.2.2.1 x.2.2.2.2.2.2.2.2.2.2.2.2.1 q) rfl
      generalize sh_X1_empty x.2.2.1 x.2.2.2.2.2.1 x.2.2.2.2.2.2.2.2.2.2.2.2.1 q = E at hR t
      generalize sh_X5_takes sv q = T at t ⊢
      simp only [kb] at hR ⊢
      have m := mr_ci (v := c) t.2 lq
      rw [dc, ← e16] at m
      rw [sub_back t.1] at hR
      subst hR
      exact ⟨(Int32.zero_add _).symm, m⟩
    · rw [if_neg w]
      have hw := whereIn w
      have dw : dec4 (sh_X5_where sv c) = sh_X5_where sv c := dec4_in (vp_mono hw (by decide) (by decide))
      rw [dw, if_neg (by rw [isPrn_in hw]; decide)] at hR
      generalize sh_X5_where sv c = f at hw hR ⊢
      have t := q_takes h hi hw (R := sh_X1_empty x.2.2.1 x.2.2.2.2.2.1 x.2.2.2.2.2.2.2.2.2.2.2.2.1 f) rfl
      have i1 := iv_takes hi hw
      generalize sh_X1_empty x.2.2.1 x.2.2.2.2.2.1 x.2.2.2.2.2.2.2.2.2.2.2.2.1 f = E at hR t
      generalize sh_X5_takes sv f = T at t i1 ⊢
      simp only [kb] at hR ⊢
      have t2 := q_takes t.2 i1 hq (R := sh_X1_empty E.1 E.2.1 E.2.2 q) rfl
      generalize sh_X1_empty E.1 E.2.1 E.2.2 q = E2 at hR t2
      generalize sh_X5_takes T.2 q = T2 at t2 ⊢
      have m := mr_ci (v := c) t2.2 lq
      rw [dc, ← e16] at m
      have s2 : E2.2.2 = x.2.2.2.2.2.2.2.2.2.2.2.2.1 + (T.1 + T2.1) := by
        rw [← Int32.add_assoc, ← t.1]; exact t2.1
      rw [sub_back s2] at hR
      subst hR
      exact ⟨rfl, m⟩
end CPQ
