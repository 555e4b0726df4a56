section PGQ
variable {x : TMa} {sv : Nat → Int32} {c q d : Int32}
theorem q_ciN (h : mrel x sv) (hq : vp_in q 2) : x.2.2.2.2.2.1 q.toNatClampNeg = dec4 (sv (16 + q).toNatClampNeg) := by
  rw [q_ix (m := 16) hq rfl (by decide) (by decide), h.2.2.2.2.2.1 _ (k_cl hq).1]
theorem dec4_no : dec4 (-1) = -4 := by decide
theorem dec4_in (hc : vp_in c 4) : dec4 c = c := by
  unfold dec4
  rw [if_neg]
  rintro rfl
  rw [vp_in_iff] at hc
  exact absurd hc.1 (by decide)
theorem isCup_in (hc : vp_in c 4) : sh_X4_isCup c = 1 := by
  rw [vp_in_iff] at hc
  have z : (0 : Int32).toInt = 0 := rfl
  have f : (4 : Int32).toInt = 4 := rfl
  unfold sh_X4_isCup
  rw [if_neg, if_neg]
  · rw [Int32.le_iff_toInt_le]; omega
  · rw [Int32.lt_iff_toInt_lt]; omega
theorem isPrn_in (hc : vp_in c 2) : sh_X4_isPrinter c = 1 := by
  rw [vp_in_iff] at hc
  have z : (0 : Int32).toInt = 0 := rfl
  have f : (2 : Int32).toInt = 2 := rfl
  unfold sh_X4_isPrinter
  rw [if_neg, if_neg]
  · rw [Int32.le_iff_toInt_le]; omega
  · rw [Int32.lt_iff_toInt_lt]; omega
theorem isCup_no : sh_X4_isCup (-4) = 0 := by decide
theorem isPrn_no : sh_X4_isPrinter (-4) = 0 := by decide
theorem in_cup (h : ¬ sh_X4_isCup c = 0) : vp_in c 4 := by
  unfold sh_X4_isCup at h
  split at h
  · exact absurd rfl h
  · split at h
    · exact absurd rfl h
    · rename_i a b
      exact vp_of_le a b rfl
theorem in_prn (h : ¬ sh_X4_isPrinter c = 0) : vp_in c 2 := by
  unfold sh_X4_isPrinter at h
  split at h
  · exact absurd rfl h
  · split at h
    · exact absurd rfl h
    · rename_i a b
      exact vp_of_le a b rfl
theorem q_reason (h : mrel x sv) (hi : iv sv) (hq : vp_in q 2) : sh_X1_refusal x.1 x.2.2.1 x.2.2.2.2.1 (x.2.2.2.2.2.1 q.toNatClampNeg) = sh_X5_reason sv q := by
  rw [q_ciN h hq]
  unfold sh_X1_refusal sh_X5_reason
  by_cases a : sv (16 + q).toNatClampNeg = -1
  · rw [if_pos a, a, dec4_no, if_pos isCup_no]
  · have hc := iv_cup hi hq a
    rw [if_neg a, dec4_in hc, if_neg (by rw [isCup_in hc]; decide), q_chip h hc, q_hand h hc, q_set2 h]
theorem cnt_bd (hi : iv sv) (hd : dotsOK d) : 0 ≤ (sh_X5_counted sv c d).toInt ∧ (sh_X5_counted sv c d).toInt ≤ 5700 := by
  have s1 : 1 ≤ (sv (31 : Int32).toNatClampNeg).toInt := hi.2.2.2.2.1.1
  have s2 : (sv (31 : Int32).toNatClampNeg).toInt ≤ 5 := hi.2.2.2.2.1.2
  simp only [sh_X5_counted, kb]
  split
  · obtain ⟨a, ha, ea⟩ := ige_of (x := d) (by have := hd.1; omega)
    obtain ⟨a2, ha2, ea2⟩ := ige_of (x := sv (31 : Int32).toNatClampNeg) (by omega)
    have u1 := hd.2
    rw [ea, nI_toInt ha] at u1
    rw [ea2, nI_toInt ha2] at s2
    have m : a * a2 ≤ 999 * 5 := Nat.mul_le_mul (by omega) (by omega)
    rw [ea2, ea, pk_mul, nI_toInt (by omega)]
    omega
  · exact need_bd hd s1 s2
theorem q_counted (h : mrel x sv) (hi : iv sv) (hc : vp_in c 4) : sh_X1_chipFor x.2.1 c d (x.1 (0 : Int32).toNatClampNeg) = sh_X5_counted sv c d := by
  simp only [sh_X1_chipFor, sh_X5_counted, kb]
  rw [q_kind h hc, q_need h hi hc, q_set0 h]
theorem part_100 {v n : Int32} (h0 : 0 ≤ v.toInt) (h1 : v.toInt < n.toInt) (h2 : n.toInt ≤ 5700) : ¬ v * 100 / n = 100 := by
  obtain ⟨a, ha, rfl⟩ := ige_of h0
  obtain ⟨b, hb, rfl⟩ := ige_of (x := n) (by omega)
  rw [nI_toInt ha, nI_toInt hb] at h1
  rw [nI_toInt hb] at h2
  intro e
  rw [show (100 : Int32) = nI 100 from rfl, pk_mul, pk_div (by omega) (by omega) hb] at e
  have e2 := congrArg Int32.toInt e
  have l : a * 100 / b < 100 := Nat.div_lt_of_lt_mul (by
    have : a * 100 < b * 100 := by omega
    exact this)
  generalize a * 100 / b = t at e2 l
  rw [nI_toInt (by omega), nI_toInt (by decide)] at e2
  omega
/-- a page is printed alike -/
theorem q_prints (h : mrel x sv) (hi : iv sv) (hq : vp_in q 2) (hd : dotsOK d) {R : Int32 × (Nat → Int32) × (Nat → Int32) × (Nat → Int32) × (Nat → Int32) × (Nat → Int32) × (Nat → Int32) × (Nat → Int32) × (Nat → Int32) × Int32}
    (hR : R = sh_X1_printPage x.1 x.2.1 x.2.2.1 x.2.2.2.1 x.2.2.2.2.1 x.2.2.2.2.2.1 x.2.2.2.2.2.2.1 x.2.2.2.2.2.2.2.1 x.2.2.2.2.2.2.2.2.1 x.2.2.2.2.2.2.2.2.2.1 x.2.2.2.2.2.2.2.2.2.2.1 x.2.2.2.2.2.2.2.2.2.2.2.1 q d) :
    R.1 = (sh_X5_prints sv q d).1 ∧ mrel (x.1, x.2.1, R.2.1, R.2.2.1, R.2.2.2.1, x.2.2.2.2.2.1, R.2.2.2.2.1, R.2.2.2.2.2.1, R.2.2.2.2.2.2.1, R.2.2.2.2.2.2.2.1, R.2.2.2.2.2.2.2.2.1, R.2.2.2.2.2.2.2.2.2, x.2.2.2.2.2.2.2.2.2.2.2.2.1, x.2.2.2.2.2.2.2.2.2.2.2.2.2) (sh_X5_prints sv q d).2 := by
  have e18 := q_ix (k := 18) (m := 18) hq rfl (by decide) (by decide)
  have e20 := q_ix (k := 20) (m := 20) hq rfl (by decide) (by decide)
  have e22 := q_ix (k := 22) (m := 22) hq rfl (by decide) (by decide)
  have e24 := q_ix (k := 24) (m := 24) hq rfl (by decide) (by decide)
  have e26 := q_ix (k := 26) (m := 26) hq rfl (by decide) (by decide)
  have lq := (k_cl hq).1
  have rs := q_reason h hi hq
  have r03 : sh_X5_reason sv q ≤ 0 ↔ sh_X5_reason sv q = 0 := by
    unfold sh_X5_reason
    (repeat' split) <;> decide
  unfold sh_X1_printPage at hR
  rw [rs] at hR
  unfold sh_X5_prints
  by_cases a : sh_X5_reason sv q = 0
  · rw [if_pos a] at hR
    rw [if_pos (r03.mpr a)]
    have hc := reasonIn hi hq (r03.mpr a)
    rw [q_ciN h hq, dec4_in hc] at hR
    generalize sv (16 + q).toNatClampNeg = cup at hc hR ⊢
    have e4 := q_ix (k := 4) (m := 4) hc rfl (by decide) (by decide)
    have e8 := q_ix (k := 8) (m := 8) hc rfl (by decide) (by decide)
    have e12 := q_ix (k := 12) (m := 12) hc rfl (by decide) (by decide)
    have l := (k_cl hc).1
    have b := hi.2.1 _ l
    have nb := need_bd (sv := sv) (c := cup) (k := sv (31 : Int32).toNatClampNeg) hd hi.2.2.2.2.1.1 hi.2.2.2.2.1.2
    have cb := cnt_bd (c := cup) hi hd
    rw [q_counted h hi hc, ← q_set0 h, ← q_need h hi hc] at hR
    simp only [sh_X1_useToner, sh_X1_settleToner] at hR
    generalize sh_X5_need sv cup d (sv (31 : Int32).toNatClampNeg) = n at hR nb ⊢
    generalize sh_X5_counted sv cup d = k at hR cb ⊢
    rw [h.2.2.1 _ l] at hR
    rw [e4]
    simp only [kb] at hR
    generalize hv : (if n ≤ sv (4 + cup.toNatClampNeg) then n else sv (4 + cup.toNatClampNeg)) = v at hR ⊢
    have vb : 0 ≤ v.toInt ∧ v.toInt ≤ (sv (4 + cup.toNatClampNeg)).toInt ∧ (¬ v = n → v.toInt < n.toInt) := by
      rw [← hv]
      split
      · rename_i g
        rw [Int32.le_iff_toInt_le] at g
        exact ⟨nb.1, g, fun e => absurd rfl e⟩
      · rename_i g
        rw [Int32.le_iff_toInt_le] at g
        exact ⟨b.1, Int.le_refl _, fun _ => by omega⟩
    have s1 : x.1 (1 : Int32).toNatClampNeg = sv 32 := h.1 1 (by decide)
    have s1b := hi.2.2.2.2.2.1
    have sh1 : ∀ a, sh_X4_share a (x.1 (1 : Int32).toNatClampNeg) = a / x.1 (1 : Int32).toNatClampNeg := fun a => q_share (by rw [s1]; omega)
    simp only [pk_us, sh1] at hR
    refine kb_ind (P := fun r : Int32 × (Nat → Int32) => R.1 = r.1 ∧ mrel _ r.2) (fun v0 hv0 => ?_)
    subst v0
    refine kb_ind (P := fun r : Int32 × (Nat → Int32) => R.1 = r.1 ∧ mrel _ r.2) (fun w hw => ?_)
    refine kb_ind (P := fun r : Int32 × (Nat → Int32) => R.1 = r.1 ∧ mrel _ r.2) (fun f1 h1 => ?_)
    have m1 : mrel (w_ha x (upd x.2.2.1 cup.toNatClampNeg (sv (4 + cup.toNatClampNeg) - v))) f1 := by
      rw [h1]; exact mr_ha h l
    refine kb_ind (P := fun r : Int32 × (Nat → Int32) => R.1 = r.1 ∧ mrel _ r.2) (fun f2 h2 => ?_)
    have a28 : f1 (28 : Int32).toNatClampNeg = x.2.2.2.2.2.2.2.2.2.2.2.1 := m1.2.2.2.2.2.2.2.2.2.2.2.1.symm
    rw [a28] at h2
    have m2 := mr_us (v := x.2.2.2.2.2.2.2.2.2.2.2.1 + v) m1
    rw [show upd f1 28 (x.2.2.2.2.2.2.2.2.2.2.2.1 + v) = f2 from h2.symm] at m2
    refine kb_ind (P := fun r : Int32 × (Nat → Int32) => R.1 = r.1 ∧ mrel _ r.2) (fun k2 hk => ?_)
    have a12 : f2 (12 + cup).toNatClampNeg = x.2.2.2.2.1 cup.toNatClampNeg := by rw [e12]; exact (m2.2.2.2.2.1 _ l).symm
    have b12 := h.2.2.2.2.1 _ l
    have hk2 : k2 = if x.2.2.2.2.1 cup.toNatClampNeg - k ≤ 0 then 0 else x.2.2.2.2.1 cup.toNatClampNeg - k := by
      rw [hk, a12]
      have sub : (x.2.2.2.2.1 cup.toNatClampNeg - k).toInt = (x.2.2.2.2.1 cup.toNatClampNeg).toInt - k.toInt := isub_to (by rw [b12]; omega) (by rw [b12]; omega)
      have z : (0 : Int32).toInt = 0 := rfl
      by_cases g : x.2.2.2.2.1 cup.toNatClampNeg ≤ k
      · rw [if_pos g, if_pos]
        rw [Int32.le_iff_toInt_le] at g ⊢
        omega
      · rw [if_neg g, if_neg]
        rw [Int32.le_iff_toInt_le] at g ⊢
        omega
    simp only [← hk2] at hR
    refine kb_ind (P := fun r : Int32 × (Nat → Int32) => R.1 = r.1 ∧ mrel _ r.2) (fun f3 h3 => ?_)
    have m3 := mr_ch (v := k2) m2 l
    rw [← e12, ← h3] at m3
    refine kb_ind (P := fun r : Int32 × (Nat → Int32) => R.1 = r.1 ∧ mrel _ r.2) (fun f4 h4 => ?_)
    have a4 : f3 (4 + cup.toNatClampNeg) = sv (4 + cup.toNatClampNeg) - v := (m3.2.2.1 _ l).symm.trans pk_us
    have a32 : f3 (32 : Int32).toNatClampNeg = x.1 (1 : Int32).toNatClampNeg := (m3.1 1 (by decide)).symm
    rw [a4, a32] at h4
    generalize ht : (sv (4 + cup.toNatClampNeg) - v) / x.1 (1 : Int32).toNatClampNeg = t at hR h4 ⊢
    have m4 := mr_ha (v := sv (4 + cup.toNatClampNeg) - v - t) m3 l
    rw [← h4] at m4
    refine kb_ind (P := fun r : Int32 × (Nat → Int32) => R.1 = r.1 ∧ mrel _ r.2) (fun f5 h5 => ?_)
    have a8 : f4 (8 + cup).toNatClampNeg = x.2.2.2.1 cup.toNatClampNeg := by rw [e8]; exact (m4.2.2.2.1 _ l).symm
    rw [a8, a4, a32, ht, e8] at h5
    have m5 := mr_sl (v := x.2.2.2.1 cup.toNatClampNeg + t) m4 l
    rw [← h5] at m5
    refine kb_ind (P := fun r : Int32 × (Nat → Int32) => R.1 = r.1 ∧ mrel _ r.2) (fun v2 hv2 => ?_)
    refine kb_ind (P := fun r : Int32 × (Nat → Int32) => R.1 = r.1 ∧ mrel _ r.2) (fun f6 h6 => ?_)
    have a18 : f5 (18 + q).toNatClampNeg = x.2.2.2.2.2.2.1 q.toNatClampNeg := by rw [e18]; exact (m5.2.2.2.2.2.2.1 _ lq).symm
    rw [a18, e18] at h6
    have m6 := mr_dk (v := x.2.2.2.2.2.2.1 q.toNatClampNeg + v2) m5 lq
    rw [← h6] at m6
    refine kb_ind (P := fun r : Int32 × (Nat → Int32) => R.1 = r.1 ∧ mrel _ r.2) (fun v3 hv3 => ?_)
    refine kb_ind (P := fun r : Int32 × (Nat → Int32) => R.1 = r.1 ∧ mrel _ r.2) (fun f7 h7 => ?_)
    have a20 : f6 (20 + q).toNatClampNeg = x.2.2.2.2.2.2.2.1 q.toNatClampNeg := by rw [e20]; exact (m6.2.2.2.2.2.2.2.1 _ lq).symm
    rw [a20, e20] at h7
    have m7 := mr_li (v := x.2.2.2.2.2.2.2.1 q.toNatClampNeg + v3) m6 lq
    rw [← h7] at m7
    refine kb_ind (P := fun r : Int32 × (Nat → Int32) => R.1 = r.1 ∧ mrel _ r.2) (fun f8 h8 => ?_)
    have a24 : f7 (24 + q).toNatClampNeg = x.2.2.2.2.2.2.2.2.2.1 q.toNatClampNeg := by rw [e24]; exact (m7.2.2.2.2.2.2.2.2.2.1 _ lq).symm
    rw [a24, e24] at h8
    have m8 := mr_dt (v := x.2.2.2.2.2.2.2.2.2.1 q.toNatClampNeg + d) m7 lq
    rw [← h8] at m8
    refine kb_ind (P := fun r : Int32 × (Nat → Int32) => R.1 = r.1 ∧ mrel _ r.2) (fun f9 h9 => ?_)
    rw [e26] at h9
    have m9 := mr_la (v := w) m8 lq
    rw [← h9] at m9
    by_cases g : v = n
    · rw [if_pos g] at hw hv2 hv3
      simp only [if_pos g, if_true] at hR
      subst hw hv2 hv3
      subst hR
      have d1 : dec4 100 = 100 := by decide
      rw [d1, Int32.add_zero, upd_same] at m9
      exact ⟨rfl, m9⟩
    · rw [if_neg g] at hw hv2 hv3
      simp only [if_neg g] at hR
      have np := part_100 vb.1 (vb.2.2 g) nb.2
      have n0 : 0 < n.toInt := by have := vb.2.2 g; omega
      rw [← hw] at np
      simp only [q_share n0, ← hw, if_neg np] at hR
      subst hv2 hv3
      subst hR
      have d1 : dec4 w = w := by
        unfold dec4
        rw [if_neg]
        rintro e
        have := idiv_bd (x := v * 100) (y := n) (by
          obtain ⟨a', ha', ea⟩ := ige_of vb.1
          rw [ea, nI_toInt ha'] at vb
          rw [ea, show (100 : Int32) = nI 100 from rfl, pk_mul, nI_toInt (by omega)]
          omega) n0
        rw [← hw, e] at this
        exact absurd this.1 (by decide)
      rw [d1, Int32.add_zero, upd_same] at m9
      exact ⟨rfl, m9⟩
  · rw [if_neg a] at hR
    rw [if_neg (fun e => a (r03.mp e))]
    refine kb_ind (P := fun r : Int32 × (Nat → Int32) => R.1 = r.1 ∧ mrel _ r.2) (fun f1 h1 => ?_)
    have a22 : sv (22 + q).toNatClampNeg = x.2.2.2.2.2.2.2.2.1 q.toNatClampNeg := by rw [e22]; exact (h.2.2.2.2.2.2.2.2.1 _ lq).symm
    rw [a22, e22] at h1
    have m1 := mr_re (v := x.2.2.2.2.2.2.2.2.1 q.toNatClampNeg + 1) h lq
    rw [← h1] at m1
    subst hR
    exact ⟨rfl, m1⟩
end PGQ
