section RDD
variable {sg pd : Nat → Int32} {ln po dd : Int32} {lt pl f1s s2s tms : Nat → Int32} {fr sc : Int32}
/-- what reading a deed leaves -/
def deedR (R : Int32 × Int32 × Int32 × (Nat → Int32) × (Nat → Int32) × (Nat → Int32) × (Nat → Int32) × (Nat → Int32)) (Q : Int32 × Int32 × Int32 × Int32 × Int32 × Int32) (po dd : Int32) (lt pl f1s s2s tms : Nat → Int32) : Prop :=
  (¬ Q.2.1 = 0 → R.1 = 0 ∧ R.2.1 = Q.1) ∧
  (Q.2.1 = 0 → R = (1, Q.1, dd + 1, upd lt dd.toNatClampNeg Q.2.2.1, upd pl dd.toNatClampNeg po, upd f1s dd.toNatClampNeg Q.2.2.2.1, (if Q.2.2.1 = 115 then s2s else upd s2s dd.toNatClampNeg Q.2.2.2.2.1), (if Q.2.2.1 = 112 then upd tms dd.toNatClampNeg Q.2.2.2.2.2 else tms)))
/-- what a sound deed of the reference holds -/
def deedS (Q : Int32 × Int32 × Int32 × Int32 × Int32 × Int32) (po ln : Int32) : Prop :=
  Q.2.1 = 0 → po.toInt + 2 ≤ Q.1.toInt ∧ Q.1.toInt ≤ ln.toInt ∧ poOK Q.1 ln ∧ ((Q.2.2.1 = 112 ∧ vp_in Q.2.2.2.1 2 ∧ dotsOK Q.2.2.2.2.1 ∧ 1 ≤ Q.2.2.2.2.2.toInt ∧ Q.2.2.2.2.2.toInt ≤ 50) ∨ (Q.2.2.1 = 115 ∧ vp_in Q.2.2.2.1 4) ∨ (Q.2.2.1 = 109 ∧ vp_in Q.2.2.2.1 4 ∧ vp_in Q.2.2.2.2.1 2))
theorem n112 : vp_nar .char (112 : Int32) = 112 := by decide
theorem n115 : vp_nar .char (115 : Int32) = 115 := by decide
theorem n109 : vp_nar .char (109 : Int32) = 109 := by decide
theorem in_vp {a y : Int32} {n : Nat} (h : ¬ sh_X5_in a 0 y = 0) (hn : (n : Int) = y.toInt + 1) : vp_in a n := by
  rw [in_iff] at h
  have z : (0 : Int32).toInt = 0 := rfl
  rw [vp_in_iff]
  omega
theorem q_deedP (h : padr sg pd ln) (hp : poOK po ln) (hd : dd < 30) (a : sh_X5_next pd ln po = 112) : deedR (sh_X2_readDeed sg ln po dd lt pl f1s s2s tms) (sh_X5_deed pd ln po 0 fr sc) po dd lt pl f1s s2s tms ∧ deedS (sh_X5_deed pd ln po 0 fr sc) po ln := by
  have c := nx_ne (by rw [a]; decide)
  have hp1 := po_up hp c
  have t1 := up1_to hp
  have r1 := q_read h hp (x := 112) (by decide)
  rw [if_pos a] at r1
  have b2 := q_below h hp1 (x := 2) (y := 1) rfl
  have dg := q_digit (pd := pd) (ln := ln) (po := po + 1) (x := 0) (y := 1)
  by_cases b : sh_X5_in (sh_X5_next pd ln (po + 1) - 48) 0 1 = 0
  · rw [if_pos b] at b2 dg
    simp [deedR, deedS, sh_X2_readDeed, sh_X2_readPrinting, sh_X5_deed, kb, hd, r1, b2, a, dg, q_sign1, number1]
  · rw [if_neg b] at b2 dg
    have hb := in_vp (n := 2) b rfl
    have c1 : ¬ ln ≤ po + 1 := fun c1 => by rw [nx_end c1] at b; exact b (by decide)
    have hp2 := po_up hp1 c1
    have t2 := up1_to hp1
    have ne4 : ¬ sh_X5_next pd ln (po + 1) - 48 = -4 := fun e => by
      rw [e] at hb; rw [vp_in_iff] at hb; exact absurd hb.1 (by decide)
    generalize hv : sh_X5_next pd ln (po + 1) - 48 = v at *
    have r3 := q_read h hp2 (x := 58) (by decide)
    have sg1 := q_sign (pd := pd) (ln := ln) (po := po + 1 + 1) (x := 58)
    by_cases b3 : sh_X5_next pd ln (po + 1 + 1) = 58
    · rw [if_pos b3] at r3 sg1
      have c2 := nx_ne (pd := pd) (ln := ln) (po := po + 1 + 1) (by rw [b3]; decide)
      have hp3 := po_up hp2 c2
      have t3 := up1_to hp2
      obtain ⟨n1, n2⟩ := q_number h hp3 (up1_le hp2 c2) (x := 1) (y := 999) (by decide) (by decide) (by decide)
      have np := number_po (pd := pd) (wr := 0) (x1 := 1) (x2 := 999) hp3
      generalize hN : sh_X5_number pd ln (po + 1 + 1 + 1) 0 1 999 = N at *
      by_cases b4 : N.2.2 = 0
      · rw [if_pos b4] at n1
        have n2 := n2 b4
        have m1 : ¬ N.1 = -4 := fun e => by rw [e] at n2; exact absurd n2.1 (by decide)
        have r5 := q_read h np.1 (x := 120) (by decide)
        by_cases b5 : sh_X5_next pd ln N.2.1 = 120
        · rw [if_pos b5] at r5
          have c4 := nx_ne (pd := pd) (ln := ln) (po := N.2.1) (by rw [b5]; decide)
          have hp4 := po_up np.1 c4
          have t4 := up1_to np.1
          obtain ⟨u1, u2⟩ := q_number h hp4 (up1_le np.1 c4) (x := 2) (y := 50) (by decide) (by decide) (by decide)
          have up := number_po (pd := pd) (wr := 0) (x1 := 2) (x2 := 50) hp4
          generalize hU : sh_X5_number pd ln (N.2.1 + 1) 0 2 50 = U at *
          have np2 := np.2
          have up2 := up.2
          by_cases b6 : U.2.2 = 0
          · rw [if_pos b6] at u1
            have u2 := u2 b6
            have m2 : ¬ U.1 = -4 := fun e => by rw [e] at u2; exact absurd u2.1 (by decide)
            have e2 : (2 : Int32).toInt = 2 := rfl
            have e50 : (50 : Int32).toInt = 50 := rfl
            have dk : dotsOK N.1 := ⟨n2.1, n2.2.1⟩
            have f1 : po.toInt + 2 ≤ U.2.1.toInt := by omega
            have f2 : 1 ≤ U.1.toInt := by omega
            have f3 : U.1.toInt ≤ 50 := by omega
            simp [deedR, deedS, sh_X2_readDeed, sh_X2_readPrinting, sh_X5_deed, kb, hd, r1, b2, a, dg, ne4, r3, sg1, n1, hN, b4, m1, r5, b5, u1, hU, b6, m2, n112, f1, f2, f3, up.1, hb, dk, u2.2.2]
          · rw [if_neg b6] at u1
            simp [deedR, deedS, sh_X2_readDeed, sh_X2_readPrinting, sh_X5_deed, kb, hd, r1, b2, a, dg, ne4, r3, sg1, n1, hN, b4, m1, r5, b5, u1, hU, b6]
        · rw [if_neg b5] at r5
          have np2 := np.2
          have dk : dotsOK N.1 := ⟨n2.1, n2.2.1⟩
          have f1 : po.toInt + 2 ≤ N.2.1.toInt := by omega
          simp [deedR, deedS, sh_X2_readDeed, sh_X2_readPrinting, sh_X5_deed, kb, hd, r1, b2, a, dg, ne4, r3, sg1, n1, hN, b4, m1, r5, b5, n112, f1, np.1, hb, dk, n2.2.2]
      · rw [if_neg b4] at n1
        simp [deedR, deedS, sh_X2_readDeed, sh_X2_readPrinting, sh_X5_deed, kb, hd, r1, b2, a, dg, ne4, r3, sg1, n1, hN, b4]
    · rw [if_neg b3] at r3 sg1
      simp [deedR, deedS, sh_X2_readDeed, sh_X2_readPrinting, sh_X5_deed, kb, hd, r1, b2, a, dg, ne4, r3, sg1, number1]
theorem q_deedS (h : padr sg pd ln) (hp : poOK po ln) (hd : dd < 30) (a : sh_X5_next pd ln po = 115) : deedR (sh_X2_readDeed sg ln po dd lt pl f1s s2s tms) (sh_X5_deed pd ln po 0 fr sc) po dd lt pl f1s s2s tms ∧ deedS (sh_X5_deed pd ln po 0 fr sc) po ln := by
  have c := nx_ne (by rw [a]; decide)
  have hp1 := po_up hp c
  have t1 := up1_to hp
  have r0 := q_read h hp (x := 112) (by decide)
  rw [if_neg (by rw [a]; decide)] at r0
  have r1 := q_read h hp (x := 115) (by decide)
  rw [if_pos a] at r1
  have b2 := q_below h hp1 (x := 4) (y := 3) rfl
  have dg := q_digit (pd := pd) (ln := ln) (po := po + 1) (x := 0) (y := 3)
  by_cases b : sh_X5_in (sh_X5_next pd ln (po + 1) - 48) 0 3 = 0
  · rw [if_pos b] at b2 dg
    simp [deedR, deedS, sh_X2_readDeed, sh_X2_readShaking, sh_X5_deed, kb, hd, r0, r1, b2, a, dg]
  · rw [if_neg b] at b2 dg
    have hb := in_vp (n := 4) b rfl
    have c1 : ¬ ln ≤ po + 1 := fun c1 => by rw [nx_end c1] at b; exact b (by decide)
    have hp2 := po_up hp1 c1
    have t2 := up1_to hp1
    have ne4 : ¬ sh_X5_next pd ln (po + 1) - 48 = -4 := fun e => by
      rw [e] at hb; rw [vp_in_iff] at hb; exact absurd hb.1 (by decide)
    generalize hv : sh_X5_next pd ln (po + 1) - 48 = v at *
    have f1 : po.toInt + 2 ≤ (po + 1 + 1).toInt := by omega
    simp [deedR, deedS, sh_X2_readDeed, sh_X2_readShaking, sh_X5_deed, kb, hd, r0, r1, b2, a, dg, ne4, n115, f1, up1_le hp1 c1, hp2, hb, -Int32.toInt_add]
theorem q_deedM (h : padr sg pd ln) (hp : poOK po ln) (hd : dd < 30) (a : sh_X5_next pd ln po = 109) : deedR (sh_X2_readDeed sg ln po dd lt pl f1s s2s tms) (sh_X5_deed pd ln po 0 fr sc) po dd lt pl f1s s2s tms ∧ deedS (sh_X5_deed pd ln po 0 fr sc) po ln := by
  have c := nx_ne (by rw [a]; decide)
  have hp1 := po_up hp c
  have t1 := up1_to hp
  have r0 := q_read h hp (x := 112) (by decide)
  rw [if_neg (by rw [a]; decide)] at r0
  have r00 := q_read h hp (x := 115) (by decide)
  rw [if_neg (by rw [a]; decide)] at r00
  have r1 := q_read h hp (x := 109) (by decide)
  rw [if_pos a] at r1
  have b2 := q_below h hp1 (x := 4) (y := 3) rfl
  have dg := q_digit (pd := pd) (ln := ln) (po := po + 1) (x := 0) (y := 3)
  by_cases b : sh_X5_in (sh_X5_next pd ln (po + 1) - 48) 0 3 = 0
  · rw [if_pos b] at b2 dg
    simp [deedR, deedS, sh_X2_readDeed, sh_X2_readMoving, sh_X5_deed, kb, hd, r0, r00, r1, b2, a, dg, q_sign1, q_digit1]
  · rw [if_neg b] at b2 dg
    have hb := in_vp (n := 4) b rfl
    have c1 : ¬ ln ≤ po + 1 := fun c1 => by rw [nx_end c1] at b; exact b (by decide)
    have hp2 := po_up hp1 c1
    have t2 := up1_to hp1
    have ne4 : ¬ sh_X5_next pd ln (po + 1) - 48 = -4 := fun e => by
      rw [e] at hb; rw [vp_in_iff] at hb; exact absurd hb.1 (by decide)
    generalize hv : sh_X5_next pd ln (po + 1) - 48 = v at *
    have r3 := q_read h hp2 (x := 62) (by decide)
    have sg1 := q_sign (pd := pd) (ln := ln) (po := po + 1 + 1) (x := 62)
    by_cases b3 : sh_X5_next pd ln (po + 1 + 1) = 62
    · rw [if_pos b3] at r3 sg1
      have c2 := nx_ne (pd := pd) (ln := ln) (po := po + 1 + 1) (by rw [b3]; decide)
      have hp3 := po_up hp2 c2
      have t3 := up1_to hp2
      have b4 := q_below h hp3 (x := 2) (y := 1) rfl
      have dg2 := q_digit (pd := pd) (ln := ln) (po := po + 1 + 1 + 1) (x := 0) (y := 1)
      by_cases b5 : sh_X5_in (sh_X5_next pd ln (po + 1 + 1 + 1) - 48) 0 1 = 0
      · rw [if_pos b5] at b4 dg2
        simp [deedR, deedS, sh_X2_readDeed, sh_X2_readMoving, sh_X5_deed, kb, hd, r0, r00, r1, b2, a, dg, ne4, r3, sg1, b4, dg2]
      · rw [if_neg b5] at b4 dg2
        have hb2 := in_vp (n := 2) b5 rfl
        have c3 : ¬ ln ≤ po + 1 + 1 + 1 := fun c1 => by rw [nx_end c1] at b5; exact b5 (by decide)
        have hp4 := po_up hp3 c3
        have t4 := up1_to hp3
        have ne5 : ¬ sh_X5_next pd ln (po + 1 + 1 + 1) - 48 = -4 := fun e => by
          rw [e] at hb2; rw [vp_in_iff] at hb2; exact absurd hb2.1 (by decide)
        generalize hv2 : sh_X5_next pd ln (po + 1 + 1 + 1) - 48 = v2 at *
        have f1 : po.toInt + 2 ≤ (po + 1 + 1 + 1 + 1).toInt := by omega
        simp [deedR, deedS, sh_X2_readDeed, sh_X2_readMoving, sh_X5_deed, kb, hd, r0, r00, r1, b2, a, dg, ne4, r3, sg1, b4, dg2, ne5, n109, f1, up1_le hp3 c3, hp4, hb, hb2, -Int32.toInt_add]
    · rw [if_neg b3] at r3 sg1
      simp [deedR, deedS, sh_X2_readDeed, sh_X2_readMoving, sh_X5_deed, kb, hd, r0, r00, r1, b2, a, dg, ne4, r3, sg1, q_digit1]
/-- a deed is read alike, and what a sound one holds -/
theorem q_deed (h : padr sg pd ln) (hp : poOK po ln) (hd : dd < 30) : deedR (sh_X2_readDeed sg ln po dd lt pl f1s s2s tms) (sh_X5_deed pd ln po 0 fr sc) po dd lt pl f1s s2s tms ∧ deedS (sh_X5_deed pd ln po 0 fr sc) po ln := by
  by_cases a : sh_X5_next pd ln po = 112
  · exact q_deedP h hp hd a
  · by_cases b : sh_X5_next pd ln po = 115
    · exact q_deedS h hp hd b
    · by_cases c : sh_X5_next pd ln po = 109
      · exact q_deedM h hp hd c
      · have r0 := q_read h hp (x := 112) (by decide)
        rw [if_neg a] at r0
        have r1 := q_read h hp (x := 115) (by decide)
        rw [if_neg b] at r1
        have r2 := q_read h hp (x := 109) (by decide)
        rw [if_neg c] at r2
        simp [deedR, deedS, sh_X2_readDeed, sh_X5_deed, kb, hd, r0, r1, r2, a, b, c]
end RDD
