theorem kb_ind {α β : Type} {P : β → Prop} {x : α} {f : α → β} (h : ∀ y, y = x → P (f y)) : P (kb x f) := h x rfl
theorem iv_prints {sv : Nat → Int32} {q d : Int32} (h : iv sv) (hq : vp_in q 2) (hd : dotsOK d) : iv (sh_X5_prints sv q d).2 := by
  have l2 := (k_cl hq).1
  have e18 := q_ix (k := 18) (m := 18) hq rfl (by decide) (by decide)
  have e20 := q_ix (k := 20) (m := 20) hq rfl (by decide) (by decide)
  have e22 := q_ix (k := 22) (m := 22) hq rfl (by decide) (by decide)
  have e24 := q_ix (k := 24) (m := 24) hq rfl (by decide) (by decide)
  have e26 := q_ix (k := 26) (m := 26) hq rfl (by decide) (by decide)
  unfold sh_X5_prints
  split
  · rename_i c
    have hc := reasonIn h hq c
    generalize sv (16 + q).toNatClampNeg = cup at hc ⊢
    have e4 := q_ix (k := 4) (m := 4) hc rfl (by decide) (by decide)
    have e8 := q_ix (k := 8) (m := 8) hc rfl (by decide) (by decide)
    have e12 := q_ix (k := 12) (m := 12) hc rfl (by decide) (by decide)
    have l := (k_cl hc).1
    have b := h.2.1 _ l
    have nb := need_bd (sv := sv) (c := cup) (k := sv (31 : Int32).toNatClampNeg) hd h.2.2.2.2.1.1 h.2.2.2.2.1.2
    refine kb_ind (P := fun r : Int32 × (Nat → Int32) => iv r.2) (fun v hv => ?_)
    have vb : 0 ≤ v.toInt ∧ v.toInt ≤ (sv (4 + cup.toNatClampNeg)).toInt := by
      rw [hv, e4]
      split
      · rename_i g
        rw [Int32.le_iff_toInt_le] at g
        omega
      · omega
    refine kb_ind (P := fun r : Int32 × (Nat → Int32) => iv r.2) (fun w hw => ?_)
    refine kb_ind (P := fun r : Int32 × (Nat → Int32) => iv r.2) (fun f1 h1 => ?_)
    have i1 : iv f1 := by
      rw [h1, e4]
      exact iv_hd h l (by rw [isub_to (by omega) (by omega)]; omega) (by rw [isub_to (by omega) (by omega)]; omega)
    refine kb_ind (P := fun r : Int32 × (Nat → Int32) => iv r.2) (fun f2 h2 => ?_)
    have i2 : iv f2 := by rw [h2]; exact iv_other i1 (by decide) (by decide)
    refine kb_ind (P := fun r : Int32 × (Nat → Int32) => iv r.2) (fun k hk => ?_)
    have cb : 0 ≤ (sh_X5_counted sv cup d).toInt := by
      simp only [sh_X5_counted, kb]
      split
      · obtain ⟨a, ha, ea⟩ := ige_of (x := d) (by have := hd.1; omega)
        obtain ⟨a2, ha2, ea2⟩ := ige_of (x := sv (31 : Int32).toNatClampNeg) (by have : 1 ≤ (sv (31 : Int32).toNatClampNeg).toInt := h.2.2.2.2.1.1; omega)
        have u1 := hd.2
        have u2 : (sv (31 : Int32).toNatClampNeg).toInt ≤ 5 := h.2.2.2.2.1.2
        rw [ea, nI_toInt ha] at u1
        rw [ea2, nI_toInt ha2] at u2
        have m : a * a2 ≤ 999 * 5 := Nat.mul_le_mul (by omega) (by omega)
        rw [ea2, ea, pk_mul, nI_toInt (by omega)]
        omega
      · exact nb.1
    have kb1 : 0 ≤ k.toInt ∧ k.toInt ≤ 4000 := by
      have b2 := i2.2.1 _ l
      rw [hk, e12]
      split
      · decide
      · rename_i g
        rw [Int32.le_iff_toInt_le] at g
        rw [isub_to (by omega) (by omega)]
        omega
    refine kb_ind (P := fun r : Int32 × (Nat → Int32) => iv r.2) (fun f3 h3 => ?_)
    have i3 : iv f3 := by rw [h3, e12]; exact iv_chip i2 l kb1.1 kb1.2
    refine kb_ind (P := fun r : Int32 × (Nat → Int32) => iv r.2) (fun f4 h4 => ?_)
    refine kb_ind (P := fun r : Int32 × (Nat → Int32) => iv r.2) (fun f5 h5 => ?_)
    have i5 : iv f5 := by
      have b3 := i3.2.1 _ l
      have s3 : 2 ≤ (f3 (32 : Int32).toNatClampNeg).toInt := i3.2.2.2.2.2.1.1
      have dv := idiv_bd (x := f3 (4 + cup.toNatClampNeg)) (y := f3 (32 : Int32).toNatClampNeg) b3.1 (by omega)
      rw [e4] at h4 h5
      rw [e8] at h5
      generalize f3 (4 + cup.toNatClampNeg) / f3 (32 : Int32).toNatClampNeg = t at h4 h5 dv
      have e : f4 (8 + cup.toNatClampNeg) = f3 (8 + cup.toNatClampNeg) := by rw [h4]; exact pk_un (by omega)
      refine iv_cups i3 (i := cup.toNatClampNeg) (v := f3 (4 + cup.toNatClampNeg) - t) (w := f3 (8 + cup.toNatClampNeg) + t) l ?_ ?_ ?_ ?_ ?_ ?_
      · rw [isub_to (by omega) (by omega)]; omega
      · rw [iadd_to (by omega) (by omega)]; omega
      · rw [isub_to (by omega) (by omega), iadd_to (by omega) (by omega)]; omega
      · rw [h5, pk_un (by omega), h4, pk_us]
      · rw [h5, pk_us, e]
      · intro j j1 j2
        rw [h5, pk_un j2, h4, pk_un j1]
    refine kb_ind (P := fun r : Int32 × (Nat → Int32) => iv r.2) (fun v2 _ => ?_)
    refine kb_ind (P := fun r : Int32 × (Nat → Int32) => iv r.2) (fun f6 h6 => ?_)
    have i6 : iv f6 := by rw [h6, e18]; exact iv_other i5 (by omega) (by omega)
    refine kb_ind (P := fun r : Int32 × (Nat → Int32) => iv r.2) (fun v3 _ => ?_)
    refine kb_ind (P := fun r : Int32 × (Nat → Int32) => iv r.2) (fun f7 h7 => ?_)
    have i7 : iv f7 := by rw [h7, e20]; exact iv_other i6 (by omega) (by omega)
    refine kb_ind (P := fun r : Int32 × (Nat → Int32) => iv r.2) (fun f8 h8 => ?_)
    have i8 : iv f8 := by rw [h8, e24]; exact iv_other i7 (by omega) (by omega)
    refine kb_ind (P := fun r : Int32 × (Nat → Int32) => iv r.2) (fun f9 h9 => ?_)
    show iv f9
    rw [h9, e26]; exact iv_other i8 (by omega) (by omega)
  · refine kb_ind (P := fun r : Int32 × (Nat → Int32) => iv r.2) (fun f1 h1 => ?_)
    show iv f1
    rw [h1, e22]; exact iv_other h (by omega) (by omega)
