theorem rowsG_len {sg pd : Nat → Int32} {ln : Int32} {lt pl f1s s2s tms : Nat → Int32} (h : padr sg pd ln) : ∀ (n k : Nat) (po : Int32), rowsG pd ln lt pl f1s s2s tms n k po → po.toInt + 3 * n ≤ ln.toInt + 1 := by
  intro n
  induction n with
  | zero => intro k po g; have g : po.toInt = ln.toInt + 1 := g; omega
  | succ n ih =>
    intro k po g
    obtain ⟨_, hp, _, e, g1, g2⟩ := g
    have r := g1 0 0
    have d := (q_deed (dd := 0) (lt := lt) (pl := pl) (f1s := f1s) (s2s := s2s) (tms := tms) (fr := 0) (sc := 0) h hp (by decide)).2
    generalize sh_X5_deed pd ln po 0 0 0 = Q at r d
    obtain ⟨r1, r2, _⟩ := r
    obtain ⟨d1, _, d3, _⟩ := d r2
    rw [r1] at d1 d3
    have i := ih (k + 1) (e + 1) g2
    rw [up1_to d3] at i
    omega
theorem forget_eq : ((-4 : Int32), (-4 : Int32), (-4 : Int32), (-4 : Int32)) = sh_X3_forget := rfl
theorem padr_0 {sg pd : Nat → Int32} : padr sg pd 0 := ⟨k_in (by decide), fun i hi => by
  rw [show (0 : Int32).toInt = 0 from rfl] at hi
  omega⟩
section CLS
variable {B : Int} {tk : Int32} {N S : TMa} {oo zz : Int32} {M0 M1 M2 M3 : TMa} {rs de pc pg : Int32} {sg : Nat → Int32} {ln : Int32} {sv pa : Nat → Int32} {pn : Int32} {sn : Nat → Int32} {kp : Int32} {pd : Nat → Int32} {l2 : Int32} {so : Nat → Int32} {x1 x2 : Int32}
theorem e_run (h : Rel B tk N S oo zz M0 M1 M2 M3 rs de pc pg sg ln sv pa pn sn kp pd l2 so) (hB : B ≤ 3900000) {lt pl f1s s2s tms : Nat → Int32} {l5 fr sc tm : Int32} {R : RunC} (hR : R = sh_X4_run N oo zz M0 M1 M2 M3 rs de pc pg sg ln lt pl f1s s2s tms) {T : RunT} (hT : T = sh_X5_run sv pa pn pd l2 so l5 fr sc tm) :
    R.1 = T.1 ∧ Rel (B + 10000) tk R.2.1 S R.2.2.1 R.2.2.2.1 R.2.2.2.2.1 R.2.2.2.2.2.1 R.2.2.2.2.2.2.1 R.2.2.2.2.2.2.2.1 R.2.2.2.2.2.2.2.2.1 R.2.2.2.2.2.2.2.2.2.1 R.2.2.2.2.2.2.2.2.2.2.1 R.2.2.2.2.2.2.2.2.2.2.2.1 sg R.2.2.2.2.2.2.2.2.2.2.2.2.1 T.2.1 T.2.2.1 T.2.2.2.1 sn kp pd T.2.2.2.2.1 T.2.2.2.2.2.1 := by
  have hm := h.mono (B1 := B + 10000) (by omega)
  have HK := (h.2.1.keep h.1).mono (B1 := B + 10000) (by omega)
  obtain ⟨g1, g2, g3, ⟨rfl, g4⟩, g5⟩ := h
  have J := q_fault g4 lt pl f1s s2s tms l5 fr sc tm
  unfold sh_X4_run at hR
  unfold sh_X5_run at hT
  generalize sh_X2_findFault sg ln lt pl f1s s2s tms = F at hR J
  generalize sh_X5_isJob pd ln l5 fr sc tm = U at hT J
  replace hR := kb_to hR (rfl : F = F)
  replace hT := kb_to hT (rfl : U = U)
  by_cases t : U.1 = 0
  · obtain ⟨j1, j2⟩ := J.1 t
    have n4 : ¬ F.1 = -4 := fun e => by
      rw [e, show (-4 : Int32).toInt = -4 from rfl] at j2
      omega
    rw [if_neg n4] at hR
    rw [if_pos t] at hT
    subst hR hT
    exact ⟨rfl, hm⟩
  · obtain ⟨j1, j2, n, j3, j4, j5, _⟩ := J.2 t
    rw [if_pos j1] at hR
    rw [if_neg t] at hT
    generalize sh_X0_keep N oo zz M0 M1 M2 M3 = K at hR HK
    generalize sh_X5_records sv pa pn = W at hT HK
    replace hR := kb_to hR (rfl : K = K)
    replace hR := kb_to hR forget_eq
    replace hT := kb_to hT (rfl : W = W)
    replace hT := kb_to hT (rfl : upd so (0 : Int32).toNatClampNeg 0 = upd so (0 : Int32).toNatClampNeg 0)
    dsimp only at hR hT
    rw [j2] at hT
    have z : (0 : Int32).toInt = 0 := rfl
    have L := rowsG_len g4 _ _ _ j5
    have f30 : (((30 : Int32).toInt - (0 : Int32).toInt).toNat + 1) = 31 := by decide
    have E := q_run (v4 := F.2.1) (v5 := F.2.2.1) (v15 := K.1) (v16 := K.2.1) (t17 := K.2.2.1) (t18 := K.2.2.2.1) (t19 := K.2.2.2.2.1) (t20 := K.2.2.2.2.2) (f14 := W.1) (w15 := W.2) g4 n 0 (((30 : Int32).toInt - (0 : Int32).toInt).toNat + 1) ((ln.toInt - (0 : Int32).toInt).toNat + 1) 0 0 N sv (upd so (0 : Int32).toNatClampNeg 0) B U.2.2.2.1 U.2.2.2.2.1 U.2.2.2.2.2.1 U.2.2.2.2.2.2 j5 (by rw [j3, z]; omega) (by omega) (by rw [f30]; omega) (by omega) pk_us g1 (by omega)
    rw [show nI 0 = 0 from rfl, ← hR, ← hT] at E
    clear hR hT
    obtain ⟨e1, e2, e3, ⟨k1, k2, k3, k4, k5, k6⟩, e4, e5, e6, e7⟩ := E
    rw [k1, k2, k3, k4, k5, k6, e4, e5, e6, e7]
    exact ⟨e1, e2.mono (by omega), HK, ⟨g3.1, fun a => (g3.2 a).mono (by omega)⟩, ⟨rfl, padr_0⟩, e3⟩
end CLS
