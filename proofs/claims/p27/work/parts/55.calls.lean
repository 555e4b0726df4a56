theorem pk_us' {f : Nat → Int32} {k j : Nat} {x : Int32} (h : j = k) : upd f k x j = x := by rw [h]; exact pk_us
theorem tot_ha {sv : Nat → Int32} {i : Nat} {v : Int32} (hi : i < 4) : totT (upd sv (4 + i) v) = totT sv + (v - sv (4 + i)) := by
  unfold totT
  rcases (show i = 0 ∨ i = 1 ∨ i = 2 ∨ i = 3 by omega) with rfl | rfl | rfl | rfl
  · rw [pk_us' (j := 4) rfl]; (repeat rw [pk_un (by decide)]); grind
  · rw [pk_us' (j := 5) rfl]; (repeat rw [pk_un (by decide)]); grind
  · rw [pk_us' (j := 6) rfl]; (repeat rw [pk_un (by decide)]); grind
  · rw [pk_us' (j := 7) rfl]; (repeat rw [pk_un (by decide)]); grind
theorem tot_sl {sv : Nat → Int32} {i : Nat} {v : Int32} (hi : i < 4) : totT (upd sv (8 + i) v) = totT sv + (v - sv (8 + i)) := by
  unfold totT
  rcases (show i = 0 ∨ i = 1 ∨ i = 2 ∨ i = 3 by omega) with rfl | rfl | rfl | rfl
  · rw [pk_us' (j := 8) rfl]; (repeat rw [pk_un (by decide)]); grind
  · rw [pk_us' (j := 9) rfl]; (repeat rw [pk_un (by decide)]); grind
  · rw [pk_us' (j := 10) rfl]; (repeat rw [pk_un (by decide)]); grind
  · rw [pk_us' (j := 11) rfl]; (repeat rw [pk_un (by decide)]); grind
theorem tot_us {sv : Nat → Int32} {v : Int32} : totT (upd sv 28 v) = totT sv + (v - sv 28) := by
  unfold totT
  rw [pk_us' (j := 28) rfl]; (repeat rw [pk_un (by decide)]); grind
theorem tot_sp {sv : Nat → Int32} {v : Int32} : totT (upd sv 29 v) = totT sv + (v - sv 29) := by
  unfold totT
  rw [pk_us' (j := 29) rfl]; (repeat rw [pk_un (by decide)]); grind
theorem tot_rf {sv : Nat → Int32} {v : Int32} : totT (upd sv 30 v) = totT sv - (v - sv 30) := by
  unfold totT
  rw [pk_us' (j := 30) rfl]; (repeat rw [pk_un (by decide)]); grind
theorem tot_un {sv : Nat → Int32} {i : Nat} {v : Int32} (hi : i < 4 ∨ (12 ≤ i ∧ i < 28) ∨ 31 ≤ i) : totT (upd sv i v) = totT sv := by
  unfold totT
  rw [pk_un (j := 4) (by omega), pk_un (j := 8) (by omega), pk_un (j := 5) (by omega), pk_un (j := 9) (by omega), pk_un (j := 6) (by omega), pk_un (j := 10) (by omega), pk_un (j := 7) (by omega), pk_un (j := 11) (by omega), pk_un (j := 28) (by omega), pk_un (j := 29) (by omega), pk_un (j := 30) (by omega)]
/-- the counts alone -/
def pgD (B : Int) (sv : Nat → Int32) : Prop := pgC B sv ∧ ∀ q, q < 2 → prnB B sv q
theorem pgB_of {B : Int} {sv : Nat → Int32} (h : pgD B sv) (e : totT sv = 16000) : pgB B sv := ⟨h.1, e, h.2⟩
theorem pgB.d {B : Int} {sv : Nat → Int32} (h : pgB B sv) : pgD B sv := ⟨h.1, h.2.2⟩
theorem pgD_other {B : Int} {sv : Nat → Int32} {i : Nat} {v : Int32} (h : pgD B sv) (hi : i < 18 ∨ 28 ≤ i) : pgD B (upd sv i v) := by
  refine ⟨fun k h1 h2 => ?_, fun q hq => ?_⟩
  · rw [pk_un (by omega)]; exact h.1 k h1 h2
  · unfold prnB
    rw [pk_un (j := 18 + q) (by omega), pk_un (j := 20 + q) (by omega), pk_un (j := 24 + q) (by omega), pk_un (j := 26 + q) (by omega)]
    exact h.2 q hq
theorem pgB_other {B : Int} {sv : Nat → Int32} {i : Nat} {v : Int32} (h : pgB B sv) (hi : i < 4 ∨ (12 ≤ i ∧ i < 18) ∨ 31 ≤ i) : pgB B (upd sv i v) :=
  pgB_of (pgD_other h.d (by omega)) (by rw [tot_un (by omega)]; exact h.2.1)
/-- a page that is refused -/
theorem pgB_refuse {B : Int} {sv : Nat → Int32} {q : Nat} (h : pgB B sv) (hq : q < 2) (hB : B ≤ 4000000) : pgB (B + 2) (upd sv (22 + q) (sv (22 + q) + 1)) := by
  refine ⟨fun k h1 h2 => ?_, ?_, fun j hj => ?_⟩
  · have b := h.1 k h1 h2
    by_cases e : k = 22 + q
    · subst e
      have o : (1 : Int32).toInt = 1 := rfl
      rw [pk_us]
      have a1 : (sv (22 + q) + 1).toInt = (sv (22 + q)).toInt + 1 := by rw [iadd_to (by omega) (by omega), o]
      omega
    · rw [pk_un e]; omega
  · rw [tot_un (by omega)]; exact h.2.1
  · unfold prnB
    rw [pk_un (j := 18 + j) (by omega), pk_un (j := 20 + j) (by omega), pk_un (j := 24 + j) (by omega), pk_un (j := 26 + j) (by omega)]
    have := h.2.2 j hj
    exact ⟨this.1, by have := this.2.1; omega, this.2.2⟩
/-- a page that is printed: the last four rows -/
theorem pgD_page {B : Int} {sv f : Nat → Int32} {q : Nat} {v2 v3 d w : Int32} (h : pgD B sv) (hq : q < 2) (hB : B ≤ 4000000) (hd : dotsOK d) (hw0 : 0 ≤ w.toInt) (hw1 : w.toInt ≤ 100) (hv : (v2 = 1 ∧ v3 = 0) ∨ (v2 = 0 ∧ v3 = 1))
    (e18 : f (18 + q) = sv (18 + q) + v2) (e20 : f (20 + q) = sv (20 + q) + v3) (e24 : f (24 + q) = sv (24 + q) + d) (e26 : f (26 + q) = w) (eo : ∀ j, j ≠ 18 + q → j ≠ 20 + q → j ≠ 24 + q → j ≠ 26 + q → f j = sv j) : pgD (B + 2) f := by
  have o : (1 : Int32).toInt = 1 := rfl
  have z : (0 : Int32).toInt = 0 := rfl
  have b18 := h.1 (18 + q) (by omega) (by omega)
  have b20 := h.1 (20 + q) (by omega) (by omega)
  have p := h.2 q hq
  obtain ⟨p1, p2, p3⟩ := p
  unfold dotsOK at hd
  have t18 : (f (18 + q)).toInt = (sv (18 + q)).toInt + v2.toInt := by
    rw [e18]
    rcases hv with ⟨rfl, rfl⟩ | ⟨rfl, rfl⟩ <;> rw [iadd_to (by omega) (by omega)]
  have t20 : (f (20 + q)).toInt = (sv (20 + q)).toInt + v3.toInt := by
    rw [e20]
    rcases hv with ⟨rfl, rfl⟩ | ⟨rfl, rfl⟩ <;> rw [iadd_to (by omega) (by omega)]
  have t24 : (f (24 + q)).toInt = (sv (24 + q)).toInt + d.toInt := by
    rw [e24, Int32.toInt_add]
    exact Int.bmod_eq_of_le (by omega) (by omega)
  have s1 : v2.toInt + v3.toInt = 1 ∧ 0 ≤ v2.toInt ∧ 0 ≤ v3.toInt := by
    rcases hv with ⟨rfl, rfl⟩ | ⟨rfl, rfl⟩ <;> decide
  refine ⟨fun k h1 h2 => ?_, fun j hj => ?_⟩
  · by_cases a : k = 18 + q
    · subst a; omega
    · by_cases b : k = 20 + q
      · subst b; omega
      · rw [eo k a b (by omega) (by omega)]
        have := h.1 k h1 h2
        omega
  · by_cases a : j = q
    · subst a
      unfold prnB
      rw [t18, t20, t24, e26]
      exact ⟨by omega, by omega, Or.inr ⟨hw0, hw1, by omega⟩⟩
    · have g := h.2 j hj
      unfold prnB at g ⊢
      rw [eo (18 + j) (by omega) (by omega) (by omega) (by omega), eo (20 + j) (by omega) (by omega) (by omega) (by omega), eo (24 + j) (by omega) (by omega) (by omega) (by omega), eo (26 + j) (by omega) (by omega) (by omega) (by omega)]
      exact ⟨g.1, by have := g.2.1; omega, g.2.2⟩
theorem part_rg {v n : Int32} (h0 : 0 ≤ v.toInt) (h1 : v.toInt < n.toInt) (h2 : n.toInt ≤ 5700) : 0 ≤ (v * 100 / n).toInt ∧ (v * 100 / n).toInt ≤ 100 := by
  obtain ⟨a, ha, rfl⟩ := ige_of h0
  obtain ⟨b, hb, rfl⟩ := ige_of (x := n) (by omega)
  rw [nI_toInt ha, nI_toInt hb] at h1
  rw [nI_toInt hb] at h2
  rw [show (100 : Int32) = nI 100 from rfl, pk_mul, pk_div (by omega) (by omega) hb]
  have l : a * 100 / b < 100 := Nat.div_lt_of_lt_mul (by
    have : a * 100 < b * 100 := by omega
    exact this)
  generalize a * 100 / b = t at l
  rw [nI_toInt (by omega)]
  omega
theorem pgB_prints {B : Int} {sv : Nat → Int32} {q d : Int32} (h : pgB B sv) (hi : iv sv) (hq : vp_in q 2) (hd : dotsOK d) (hB : B ≤ 4000000) : pgB (B + 2) (sh_X5_prints sv q d).2 := by
  have l2 := (k_cl hq).1
  have e18 := q_ix (k := 18) (m := 18) hq rfl (by decide) (by decide)
  have e20 := q_ix (k := 20) (m := 20) hq rfl (by decide) (by decide)
  have e22 := q_ix (k := 22) (m := 22) hq rfl (by decide) (by decide)
  have e24 := q_ix (k := 24) (m := 24) hq rfl (by decide) (by decide)
  have e26 := q_ix (k := 26) (m := 26) hq rfl (by decide) (by decide)
  unfold sh_X5_prints
  split
  · rename_i c
    have hc := reasonIn hi hq c
    generalize sv (16 + q).toNatClampNeg = cup at hc ⊢
    have e4 := q_ix (k := 4) (m := 4) hc rfl (by decide) (by decide)
    have e8 := q_ix (k := 8) (m := 8) hc rfl (by decide) (by decide)
    have e12 := q_ix (k := 12) (m := 12) hc rfl (by decide) (by decide)
    have l := (k_cl hc).1
    have bh := hi.2.1 _ l
    have nb := need_bd (sv := sv) (c := cup) (k := sv (31 : Int32).toNatClampNeg) hd hi.2.2.2.2.1.1 hi.2.2.2.2.1.2
    generalize sh_X5_need sv cup d (sv (31 : Int32).toNatClampNeg) = n at nb ⊢
    rw [e4]
    refine kb_ind (P := fun r : Int32 × (Nat → Int32) => pgB (B + 2) r.2) (fun v hv => ?_)
    have vb : 0 ≤ v.toInt ∧ (¬ v = n → v.toInt < n.toInt) := by
      rw [hv]
      split
      · rename_i g
        exact ⟨nb.1, fun e => absurd rfl e⟩
      · rename_i g
        rw [Int32.le_iff_toInt_le] at g
        exact ⟨bh.1, fun _ => by omega⟩
    refine kb_ind (P := fun r : Int32 × (Nat → Int32) => pgB (B + 2) r.2) (fun w hw => ?_)
    have wb : 0 ≤ w.toInt ∧ w.toInt ≤ 100 := by
      rw [hw]
      split
      · decide
      · rename_i g
        exact part_rg vb.1 (vb.2 g) nb.2
    refine kb_ind (P := fun r : Int32 × (Nat → Int32) => pgB (B + 2) r.2) (fun f1 h1 => ?_)
    have i1 : pgD B f1 := by rw [h1]; exact pgD_other h.d (by omega)
    have t1 : totT f1 = 16000 - v := by rw [h1, tot_ha l, h.2.1]; grind
    refine kb_ind (P := fun r : Int32 × (Nat → Int32) => pgB (B + 2) r.2) (fun f2 h2 => ?_)
    rw [show (28 : Int32).toNatClampNeg = 28 from rfl] at h2
    have i2 : pgD B f2 := by rw [h2]; exact pgD_other i1 (by decide)
    have t2 : totT f2 = 16000 := by rw [h2, tot_us, t1]; grind
    refine kb_ind (P := fun r : Int32 × (Nat → Int32) => pgB (B + 2) r.2) (fun k hk => ?_)
    refine kb_ind (P := fun r : Int32 × (Nat → Int32) => pgB (B + 2) r.2) (fun f3 h3 => ?_)
    have i3 : pgD B f3 := by rw [h3, e12]; exact pgD_other i2 (by omega)
    have t3 : totT f3 = 16000 := by rw [h3, e12, tot_un (by omega), t2]
    refine kb_ind (P := fun r : Int32 × (Nat → Int32) => pgB (B + 2) r.2) (fun f4 h4 => ?_)
    rw [show (32 : Int32).toNatClampNeg = 32 from rfl] at h4 ⊢
    generalize ht : f3 (4 + cup.toNatClampNeg) / f3 32 = t at h4
    have i4 : pgD B f4 := by rw [h4]; exact pgD_other i3 (by omega)
    have t4 : totT f4 = 16000 - t := by rw [h4, tot_ha l, t3]; grind
    refine kb_ind (P := fun r : Int32 × (Nat → Int32) => pgB (B + 2) r.2) (fun f5 h5 => ?_)
    rw [e8] at h5
    have i5 : pgD B f5 := by rw [h5]; exact pgD_other i4 (by omega)
    have t5 : totT f5 = 16000 := by rw [h5, tot_sl l, t4]; grind
    refine kb_ind (P := fun r : Int32 × (Nat → Int32) => pgB (B + 2) r.2) (fun v2 hv2 => ?_)
    refine kb_ind (P := fun r : Int32 × (Nat → Int32) => pgB (B + 2) r.2) (fun f6 h6 => ?_)
    rw [e18] at h6
    refine kb_ind (P := fun r : Int32 × (Nat → Int32) => pgB (B + 2) r.2) (fun v3 hv3 => ?_)
    refine kb_ind (P := fun r : Int32 × (Nat → Int32) => pgB (B + 2) r.2) (fun f7 h7 => ?_)
    rw [e20] at h7
    refine kb_ind (P := fun r : Int32 × (Nat → Int32) => pgB (B + 2) r.2) (fun f8 h8 => ?_)
    rw [e24] at h8
    refine kb_ind (P := fun r : Int32 × (Nat → Int32) => pgB (B + 2) r.2) (fun f9 h9 => ?_)
    show pgB (B + 2) f9
    rw [e26] at h9
    have vv : (v2 = 1 ∧ v3 = 0) ∨ (v2 = 0 ∧ v3 = 1) := by
      by_cases g : v = n
      · rw [if_pos g] at hv2 hv3; exact Or.inl ⟨hv2, hv3⟩
      · rw [if_neg g] at hv2 hv3; exact Or.inr ⟨hv2, hv3⟩
    refine pgB_of (pgD_page (q := q.toNatClampNeg) (v2 := v2) (v3 := v3) (d := d) (w := w) i5 l2 hB hd wb.1 wb.2 vv ?_ ?_ ?_ ?_ ?_) ?_
    · rw [h9, pk_un (by omega), h8, pk_un (by omega), h7, pk_un (by omega), h6, pk_us]
    · rw [h9, pk_un (by omega), h8, pk_un (by omega), h7, pk_us, h6, pk_un (by omega)]
    · rw [h9, pk_un (by omega), h8, pk_us, h7, pk_un (by omega), h6, pk_un (by omega)]
    · rw [h9, pk_us]
    · intro j j1 j2 j3 j4
      rw [h9, pk_un j4, h8, pk_un j3, h7, pk_un j2, h6, pk_un j1]
    · rw [h9, tot_un (by omega), h8, tot_un (by omega), h7, tot_un (by omega), h6, tot_un (by omega), t5]
  · refine kb_ind (P := fun r : Int32 × (Nat → Int32) => pgB (B + 2) r.2) (fun f1 h1 => ?_)
    show pgB (B + 2) f1
    rw [h1, e22]; exact pgB_refuse h l2 hB
theorem pgB_shakes {B : Int} {sv : Nat → Int32} {c : Int32} (h : pgB B sv) (hc : vp_in c 4) : pgB B (sh_X5_shakes sv c).2 := by
  have e4 := q_ix (k := 4) (m := 4) hc rfl (by decide) (by decide)
  have e8 := q_ix (k := 8) (m := 8) hc rfl (by decide) (by decide)
  have l := (k_cl hc).1
  simp only [sh_X5_shakes, kb, e4, e8]
  generalize sv (8 + c.toNatClampNeg) / 2 = t
  refine pgB_of (pgD_other (pgD_other h.d (by omega)) (by omega)) ?_
  rw [tot_ha l, tot_sl l, h.2.1]
  grind
theorem pgB_takes {B : Int} {sv : Nat → Int32} {q : Int32} (h : pgB B sv) (hi : iv sv) (hq : vp_in q 2) : pgB B (sh_X5_takes sv q).2 := by
  have e16 := q_ix (k := 16) (m := 16) hq rfl (by decide) (by decide)
  have l2 := (k_cl hq).1
  simp only [sh_X5_takes, kb]
  by_cases c : sv (16 + q).toNatClampNeg = -1
  · rw [if_pos c]; exact h
  · rw [if_neg c]
    have hc := iv_cup hi hq c
    generalize sv (16 + q).toNatClampNeg = cup at hc ⊢
    have e4 := q_ix (k := 4) (m := 4) hc rfl (by decide) (by decide)
    have l := (k_cl hc).1
    dsimp only
    rw [e4, e16, show (29 : Int32).toNatClampNeg = 29 from rfl]
    generalize sv (4 + cup.toNatClampNeg) / 50 = t
    refine pgB_of (pgD_other (pgD_other (pgD_other h.d (by omega)) (by decide)) (by omega)) ?_
    rw [tot_un (by omega), tot_sp, tot_ha l, h.2.1]
    grind
theorem pgB_moves {B : Int} {sv : Nat → Int32} {c q : Int32} (h : pgB B sv) (hi : iv sv) (hq : vp_in q 2) : pgB B (sh_X5_moves sv c q).2 := by
  have e16 := q_ix (k := 16) (m := 16) hq rfl (by decide) (by decide)
  have l2 := (k_cl hq).1
  unfold sh_X5_moves
  by_cases a : sh_X5_where sv c = q
  · rw [if_pos a]; exact h
  · rw [if_neg a]
    by_cases b : sh_X5_where sv c = -1
    · rw [if_pos b]
      simp only [kb]
      rw [e16]
      exact pgB_other (pgB_takes h hi hq) (by omega)
    · rw [if_neg b]
      have hw := whereIn b
      simp only [kb]
      rw [e16]
      exact pgB_other (pgB_takes (pgB_takes h hi hw) (iv_takes hi hw) hq) (by omega)
theorem goodM.prints {B : Int} {x : TMa} {sv : Nat → Int32} {q d : Int32} (h : goodM B x sv) (hq : vp_in q 2) (hd : dotsOK d) (hB : B ≤ 4000000) {R : Int32 × (Nat → Int32) × (Nat → Int32) × (Nat → Int32) × (Nat → Int32) × (Nat → Int32) × (Nat → Int32) × (Nat → Int32) × (Nat → Int32) × Int32}
    (hR : R = sh_X1_printPage x.1 x.2.1 x.2.2.1 x.2.2.2.1 x.2.2.2.2.1 x.2.2.2.2.2.1 x.2.2.2.2.2.2.1 x.2.2.2.2.2.2.2.1 x.2.2.2.2.2.2.2.2.1 x.2.2.2.2.2.2.2.2.2.1 x.2.2.2.2.2.2.2.2.2.2.1 x.2.2.2.2.2.2.2.2.2.2.2.1 q d) :
    R.1 = (sh_X5_prints sv q d).1 ∧ goodM (B + 2) (x.1, x.2.1, R.2.1, R.2.2.1, R.2.2.2.1, x.2.2.2.2.2.1, R.2.2.2.2.1, R.2.2.2.2.2.1, R.2.2.2.2.2.2.1, R.2.2.2.2.2.2.2.1, R.2.2.2.2.2.2.2.2.1, R.2.2.2.2.2.2.2.2.2, x.2.2.2.2.2.2.2.2.2.2.2.2.1, x.2.2.2.2.2.2.2.2.2.2.2.2.2) (sh_X5_prints sv q d).2 := by
  have a := q_prints h.1 h.2.1 hq hd hR
  exact ⟨a.1, a.2, iv_prints h.2.1 hq hd, pgB_prints h.2.2 h.2.1 hq hd hB⟩
theorem goodM.shakes {B : Int} {x : TMa} {sv : Nat → Int32} {c : Int32} (h : goodM B x sv) (hc : vp_in c 4) {R : Int32 × (Nat → Int32) × (Nat → Int32)} (hR : R = sh_X1_shakeCup x.2.2.1 x.2.2.2.1 c) :
    R.1 = (sh_X5_shakes sv c).1 ∧ goodM B (w_sl (w_ha x R.2.1) R.2.2) (sh_X5_shakes sv c).2 := by
  have a := q_shakes h.1 hc hR
  exact ⟨a.1, a.2, iv_shakes h.2.1 hc, pgB_shakes h.2.2 hc⟩
theorem goodM.takes {B : Int} {x : TMa} {sv : Nat → Int32} {q : Int32} (h : goodM B x sv) (hq : vp_in q 2) {R : (Nat → Int32) × (Nat → Int32) × Int32} (hR : R = sh_X1_empty x.2.2.1 x.2.2.2.2.2.1 x.2.2.2.2.2.2.2.2.2.2.2.2.1 q) : goodM B (w_sp (w_ci (w_ha x R.1) R.2.1) R.2.2) (sh_X5_takes sv q).2 :=
  ⟨(q_takes h.1 h.2.1 hq hR).2, iv_takes h.2.1 hq, pgB_takes h.2.2 h.2.1 hq⟩
theorem goodM.moves {B : Int} {x : TMa} {sv : Nat → Int32} {c q : Int32} (h : goodM B x sv) (hc : vp_in c 4) (hq : vp_in q 2) {R : Int32 × (Nat → Int32) × (Nat → Int32) × Int32} (hR : R = sh_X1_moveCup x.2.2.1 x.2.2.2.2.2.1 x.2.2.2.2.2.2.2.2.2.2.2.2.1 c q) :
    R.1 = (sh_X5_moves sv c q).1 ∧ goodM B (w_sp (w_ci (w_ha x R.2.1) R.2.2.1) R.2.2.2) (sh_X5_moves sv c q).2 := by
  have a := q_moves h.1 h.2.1 hc hq hR
  exact ⟨a.1, a.2, iv_moves h.2.1 hc hq, pgB_moves h.2.2 h.2.1 hq⟩
/-- why the latest job stopped -/
def stopR (rs de pc pg : Int32) (so : Nat → Int32) : Prop := (so 0 = 0 ∧ rs = -4 ∧ de = -4 ∧ pc = -4 ∧ pg = -4) ∨ (¬ so 0 = 0 ∧ ¬ rs = -4 ∧ rs = so 0 ∧ de = so 1 ∧ pc = so 2 ∧ pg = so 3)
/-- the two between calls -/
def Rel (B : Int) (tk : Int32) (N S : TMa) (oo zz : Int32) (M0 M1 M2 M3 : TMa) (rs de pc pg : Int32) (sg : Nat → Int32) (ln : Int32) (sv pa : Nat → Int32) (pn : Int32) (sn : Nat → Int32) (kp : Int32) (pd : Nat → Int32) (l2 : Int32) (so : Nat → Int32) : Prop :=
  goodM B N sv ∧ HR B oo zz M0 M1 M2 M3 pa pn ∧ (tk = kp ∧ (¬ tk = 0 → goodM B S sn)) ∧ (ln = l2 ∧ padr sg pd ln) ∧ stopR rs de pc pg so
section CLQ
variable {B : Int} {tk : Int32} {N S : TMa} {oo zz : Int32} {M0 M1 M2 M3 : TMa} {rs de pc pg : Int32} {sg : Nat → Int32} {ln : Int32} {sv pa : Nat → Int32} {pn : Int32} {sn : Nat → Int32} {kp : Int32} {pd : Nat → Int32} {l2 : Int32} {so : Nat → Int32} {x1 x2 : Int32}
theorem Rel.mono {B1 : Int} (h : Rel B tk N S oo zz M0 M1 M2 M3 rs de pc pg sg ln sv pa pn sn kp pd l2 so) (e : B ≤ B1) : Rel B1 tk N S oo zz M0 M1 M2 M3 rs de pc pg sg ln sv pa pn sn kp pd l2 so := ⟨h.1.mono e, h.2.1.mono e, ⟨h.2.2.1.1, fun g => (h.2.2.1.2 g).mono e⟩, h.2.2.2⟩
/-- a call that keeps the state before it -/
theorem Rel.kept {B1 : Int} {N1 : TMa} {sv1 : Nat → Int32} (h : Rel B tk N S oo zz M0 M1 M2 M3 rs de pc pg sg ln sv pa pn sn kp pd l2 so) (g : goodM B1 N1 sv1) (e : B ≤ B1) :
    Rel B1 tk N1 S (sh_X0_keep N oo zz M0 M1 M2 M3).1 (sh_X0_keep N oo zz M0 M1 M2 M3).2.1 (sh_X0_keep N oo zz M0 M1 M2 M3).2.2.1 (sh_X0_keep N oo zz M0 M1 M2 M3).2.2.2.1 (sh_X0_keep N oo zz M0 M1 M2 M3).2.2.2.2.1 (sh_X0_keep N oo zz M0 M1 M2 M3).2.2.2.2.2 rs de pc pg sg ln sv1 (sh_X5_records sv pa pn).1 (sh_X5_records sv pa pn).2 sn kp pd l2 so :=
  ⟨g, (h.2.1.keep h.1).mono e, ⟨h.2.2.1.1, fun g => (h.2.2.1.2 g).mono e⟩, h.2.2.2⟩
theorem e_print (h : Rel B tk N S oo zz M0 M1 M2 M3 rs de pc pg sg ln sv pa pn sn kp pd l2 so) (hB : B ≤ 4000000) {R} (hR : R = sh_X4_print N oo zz M0 M1 M2 M3 x1 x2) {T} (hT : T = sh_X5_print sv pa pn x1 x2) :
    R.1 = T.1 ∧ Rel (B + 10000) tk R.2.1 S R.2.2.1 R.2.2.2.1 R.2.2.2.2.1 R.2.2.2.2.2.1 R.2.2.2.2.2.2.1 R.2.2.2.2.2.2.2 rs de pc pg sg ln T.2.1 T.2.2.1 T.2.2.2 sn kp pd l2 so := by
  unfold sh_X4_print at hR
  unfold sh_X5_print at hT
  rw [← q_isPrinter, ← q_isDots] at hT
  by_cases a : sh_X4_isPrinter x1 = 0
  · rw [if_pos a] at hR hT
    subst hR hT
    exact ⟨rfl, h.mono (by omega)⟩
  · rw [if_neg a] at hR hT
    by_cases b : sh_X4_isDots x2 = 0
    · rw [if_pos b] at hR hT
      subst hR hT
      exact ⟨rfl, h.mono (by omega)⟩
    · rw [if_neg b] at hR hT
      have q := h.1.prints (in_prn a) (dotsIn b) hB rfl
      simp only [kb] at hR hT
      subst hR hT
      exact ⟨q.1, h.kept (q.2.mono (by omega)) (by omega)⟩
theorem e_shake (h : Rel B tk N S oo zz M0 M1 M2 M3 rs de pc pg sg ln sv pa pn sn kp pd l2 so) {R} (hR : R = sh_X4_shake N oo zz M0 M1 M2 M3 x1) {T} (hT : T = sh_X5_shake sv pa pn x1) :
    R.1 = T.1 ∧ Rel (B + 10000) tk R.2.1 S R.2.2.1 R.2.2.2.1 R.2.2.2.2.1 R.2.2.2.2.2.1 R.2.2.2.2.2.2.1 R.2.2.2.2.2.2.2 rs de pc pg sg ln T.2.1 T.2.2.1 T.2.2.2 sn kp pd l2 so := by
  unfold sh_X4_shake at hR
  unfold sh_X5_shake at hT
  rw [← q_isCup] at hT
  by_cases a : sh_X4_isCup x1 = 0
  · rw [if_pos a] at hR hT
    subst hR hT
    exact ⟨rfl, h.mono (by omega)⟩
  · rw [if_neg a] at hR hT
    have q := h.1.shakes (in_cup a) rfl
    simp only [kb] at hR hT
    subst hR hT
    exact ⟨q.1, h.kept (q.2.mono (by omega)) (by omega)⟩
theorem e_move (h : Rel B tk N S oo zz M0 M1 M2 M3 rs de pc pg sg ln sv pa pn sn kp pd l2 so) {R} (hR : R = sh_X4_move N oo zz M0 M1 M2 M3 x1 x2) {T} (hT : T = sh_X5_move sv pa pn x1 x2) :
    R.1 = T.1 ∧ Rel (B + 10000) tk R.2.1 S R.2.2.1 R.2.2.2.1 R.2.2.2.2.1 R.2.2.2.2.2.1 R.2.2.2.2.2.2.1 R.2.2.2.2.2.2.2 rs de pc pg sg ln T.2.1 T.2.2.1 T.2.2.2 sn kp pd l2 so := by
  unfold sh_X4_move at hR
  unfold sh_X5_move at hT
  rw [← q_isCup, ← q_isPrinter] at hT
  by_cases a : sh_X4_isCup x1 = 0
  · rw [if_pos a] at hR hT
    subst hR hT
    exact ⟨rfl, h.mono (by omega)⟩
  · rw [if_neg a] at hR hT
    by_cases b : sh_X4_isPrinter x2 = 0
    · rw [if_pos b] at hR hT
      subst hR hT
      exact ⟨rfl, h.mono (by omega)⟩
    · rw [if_neg b] at hR hT
      have q := h.1.moves (in_cup a) (in_prn b) rfl
      simp only [kb] at hR hT
      subst hR hT
      exact ⟨q.1, h.kept (q.2.mono (by omega)) (by omega)⟩
theorem e_takeOut (h : Rel B tk N S oo zz M0 M1 M2 M3 rs de pc pg sg ln sv pa pn sn kp pd l2 so) {R} (hR : R = sh_X4_takeOut N oo zz M0 M1 M2 M3 x1) {T} (hT : T = sh_X5_takeOut sv pa pn x1) :
    R.1 = T.1 ∧ Rel (B + 10000) tk R.2.1 S R.2.2.1 R.2.2.2.1 R.2.2.2.2.1 R.2.2.2.2.2.1 R.2.2.2.2.2.2.1 R.2.2.2.2.2.2.2 rs de pc pg sg ln T.2.1 T.2.2.1 T.2.2.2 sn kp pd l2 so := by
  unfold sh_X4_takeOut at hR
  unfold sh_X5_takeOut at hT
  rw [← q_isPrinter] at hT
  by_cases a : sh_X4_isPrinter x1 = 0
  · rw [if_pos a] at hR hT
    subst hR hT
    exact ⟨rfl, h.mono (by omega)⟩
  · rw [if_neg a] at hR hT
    have hq := in_prn a
    have i := q_inside h.1.1 h.1.2.1 hq
    by_cases b : sv (16 + x1).toNatClampNeg = -1
    · rw [if_pos (i.mpr b)] at hR
      rw [if_pos b] at hT
      subst hR hT
      exact ⟨rfl, h.mono (by omega)⟩
    · rw [if_neg (fun e => b (i.mp e))] at hR
      rw [if_neg b] at hT
      have q := h.1.takes hq rfl
      have c := q_ciN h.1.1 hq
      rw [dec4_in (iv_cup h.1.2.1 hq b)] at c
      simp only [kb] at hR hT
      subst hR hT
      exact ⟨c, h.kept (q.mono (by omega)) (by omega)⟩
theorem e_refill (h : Rel B tk N S oo zz M0 M1 M2 M3 rs de pc pg sg ln sv pa pn sn kp pd l2 so) {R} (hR : R = sh_X4_refill N oo zz M0 M1 M2 M3 x1 x2) {T} (hT : T = sh_X5_refill sv pa pn x1 x2) :
    R.1 = T.1 ∧ Rel (B + 10000) tk R.2.1 S R.2.2.1 R.2.2.2.1 R.2.2.2.2.1 R.2.2.2.2.2.1 R.2.2.2.2.2.2.1 R.2.2.2.2.2.2.2 rs de pc pg sg ln T.2.1 T.2.2.1 T.2.2.2 sn kp pd l2 so := by
  have o : (1 : Int32).toInt = 1 := rfl
  have s : (6000 : Int32).toInt = 6000 := rfl
  have z : (0 : Int32).toInt = 0 := rfl
  unfold sh_X4_refill at hR
  unfold sh_X5_refill at hT
  rw [← q_isCup] at hT
  by_cases a : sh_X4_isCup x1 = 0
  · rw [if_pos a] at hR hT
    subst hR hT
    exact ⟨rfl, h.mono (by omega)⟩
  · rw [if_neg a] at hR hT
    have hc := in_cup a
    by_cases b : sh_X5_in x2 1 6000 = 0
    · rw [if_pos b] at hT
      have hR : R = (-1, N, oo, zz, M0, M1, M2, M3) := by
        rw [in_iff] at b
        by_cases b1 : x2 < 1
        · rw [if_pos b1] at hR; exact hR
        · rw [if_neg b1, if_neg] at hR
          · exact hR
          · rw [Int32.lt_iff_toInt_lt] at b1
            rw [Int32.le_iff_toInt_le]; omega
      subst hR hT
      exact ⟨rfl, h.mono (by omega)⟩
    · rw [if_neg b] at hT
      rw [in_iff] at b
      rw [if_neg (show ¬ x2 < 1 by rw [Int32.lt_iff_toInt_lt]; omega), if_pos (show x2 ≤ 6000 by rw [Int32.le_iff_toInt_le]; omega)] at hR
      rw [q_where h.1.1 h.1.2.1 hc] at hR
      by_cases w : sh_X5_where sv x1 = -1
      · rw [if_pos w] at hT
        rw [w, dec4_no, if_pos isPrn_no] at hR
        rw [← q_toner h.1.1 hc] at hR
        have l := (k_cl hc).1
        have e4 := q_ix (k := 4) (m := 4) hc rfl (by decide) (by decide)
        have e8 := q_ix (k := 8) (m := 8) hc rfl (by decide) (by decide)
        have e0 := q_ix (k := 0) (m := 0) hc rfl (by decide) (by decide)
        rw [Nat.zero_add] at e0
        have bb := h.1.2.1.2.1 _ l
        have tn : (sh_X5_tonerOf sv x1).toInt = (sv (4 + x1.toNatClampNeg)).toInt + (sv (8 + x1.toNatClampNeg)).toInt := by
          unfold sh_X5_tonerOf
          rw [e4, e8, iadd_to (by omega) (by omega)]
        have rm : (6000 - sh_X5_tonerOf sv x1).toInt = 6000 - (sh_X5_tonerOf sv x1).toInt := by
          rw [isub_to (by omega) (by omega), s]
        by_cases c : sh_X5_tonerOf sv x1 < 6000
        · rw [if_pos c] at hR
          rw [Int32.lt_iff_toInt_lt, s] at c
          rw [if_pos (show 0 < 6000 - sh_X5_tonerOf sv x1 by rw [Int32.lt_iff_toInt_lt, rm]; omega)] at hT
          simp only [sh_X1_fillCup] at hR
          rw [← q_toner h.1.1 hc] at hR
          generalize hm : 6000 - sh_X5_tonerOf sv x1 = room at hR hT rm
          have hT : ∃ v, v = (if room ≤ x2 then room else x2) ∧ T = (v, upd (upd (upd sv (8 + x1).toNatClampNeg (sv (8 + x1).toNatClampNeg + v)) (0 + x1).toNatClampNeg 2) (30 : Int32).toNatClampNeg (upd (upd sv (8 + x1).toNatClampNeg (sv (8 + x1).toNatClampNeg + v)) (0 + x1).toNatClampNeg 2 (30 : Int32).toNatClampNeg + v), (sh_X5_records sv pa pn).1, (sh_X5_records sv pa pn).2) := by
            simp only [kb] at hT
            by_cases g : room ≤ x2
            · rw [if_pos g] at hT
              exact ⟨room, (if_pos g).symm, hT⟩
            · rw [if_neg g] at hT
              exact ⟨x2, (if_neg g).symm, hT⟩
          obtain ⟨v, hv, hT⟩ := hT
          simp only [kb, ← hv] at hR
          have vb : 0 ≤ v.toInt ∧ v.toInt ≤ room.toInt := by
            rw [hv]
            by_cases g : room ≤ x2
            · rw [if_pos g]; omega
            · rw [if_neg g]
              rw [Int32.le_iff_toInt_le] at g
              omega
          rw [e8, e0, pk_un (j := (30 : Int32).toNatClampNeg) (by rw [show (30 : Int32).toNatClampNeg = 30 from rfl]; omega), pk_un (j := (30 : Int32).toNatClampNeg) (by rw [show (30 : Int32).toNatClampNeg = 30 from rfl]; omega)] at hT
          rw [show (30 : Int32).toNatClampNeg = 30 from rfl] at hT
          have a8 : sv (8 + x1.toNatClampNeg) = N.2.2.2.1 x1.toNatClampNeg := (h.1.1.2.2.2.1 _ l).symm
          have a30 : sv 30 = N.2.2.2.2.2.2.2.2.2.2.2.2.2 := h.1.1.2.2.2.2.2.2.2.2.2.2.2.2.2.symm
          have m1 := mr_sl (v := N.2.2.2.1 x1.toNatClampNeg + v) h.1.1 l
          have m2 := mr_ki (v := 2) m1 l
          have m3 := mr_rf (v := N.2.2.2.2.2.2.2.2.2.2.2.2.2 + v) m2
          have i1 : iv (upd sv (8 + x1.toNatClampNeg) (sv (8 + x1.toNatClampNeg) + v)) := by
            refine iv_cups h.1.2.1 (i := x1.toNatClampNeg) (v := sv (4 + x1.toNatClampNeg)) (w := sv (8 + x1.toNatClampNeg) + v) l bb.1 ?_ ?_ ?_ pk_us ?_
            · rw [iadd_to (by omega) (by omega)]; omega
            · rw [iadd_to (by omega) (by omega)]; omega
            · exact pk_un (by omega)
            · intro j j1 j2
              exact pk_un j2
          have i2 : iv (upd (upd sv (8 + x1.toNatClampNeg) (sv (8 + x1.toNatClampNeg) + v)) x1.toNatClampNeg 2) := by
            generalize upd sv (8 + x1.toNatClampNeg) (sv (8 + x1.toNatClampNeg) + v) = f at i1
            obtain ⟨k1, k2, k3, k4, g1, g2, g3, g4⟩ := i1
            refine ⟨fun k hk => ?_, fun k hk => ?_, fun k hk => ?_, ?_, ?_, ?_, ?_, ?_⟩
            · by_cases e : k = x1.toNatClampNeg
              · rw [e, pk_us]; decide
              · rw [pk_un e]; exact k1 k hk
            · rw [pk_un (by omega), pk_un (by omega), pk_un (by omega)]; exact k2 k hk
            · rw [pk_un (by omega)]; exact k3 k hk
            · rw [pk_un (by omega), pk_un (by omega)]; exact k4
            · rw [pk_un (by omega)]; exact g1
            · rw [pk_un (by omega)]; exact g2
            · rw [pk_un (by omega)]; exact g3
            · rw [pk_un (by omega)]; exact g4
          have i3 := iv_other (i := 30) (v := sv 30 + v) i2 (by decide) (by decide)
          have p3 : pgB B (upd (upd (upd sv (8 + x1.toNatClampNeg) (sv (8 + x1.toNatClampNeg) + v)) x1.toNatClampNeg 2) 30 (sv 30 + v)) := by
            refine pgB_of (pgD_other (pgD_other (pgD_other h.1.2.2.d (by omega)) (by omega)) (by decide)) ?_
            rw [tot_rf, tot_un (by omega), tot_sl l, h.1.2.2.2.1, pk_un (by omega), pk_un (by omega)]
            grind
          rw [← a8, ← a30] at m3
          subst hT
          rw [← a8, ← a30] at hR
          subst hR
          exact ⟨rfl, h.kept (goodM.mono (B := B) ⟨m3, i3, p3⟩ (by omega)) (by omega)⟩
        · rw [if_neg c] at hR
          rw [Int32.lt_iff_toInt_lt, s] at c
          rw [if_neg (show ¬ 0 < 6000 - sh_X5_tonerOf sv x1 by rw [Int32.lt_iff_toInt_lt, rm]; omega)] at hT
          subst hR hT
          exact ⟨rfl, h.mono (by omega)⟩
      · rw [if_neg w] at hT
        have hw := whereIn w
        rw [dec4_in (vp_mono hw (by decide) (by decide)), if_neg (by rw [isPrn_in hw]; decide)] at hR
        subst hR hT
        exact ⟨rfl, h.mono (by omega)⟩
end CLQ
