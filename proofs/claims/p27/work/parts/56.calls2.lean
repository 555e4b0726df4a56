theorem iv_set {sv : Nat → Int32} (h : iv sv) {i : Nat} {v : Int32} (hi : i < 4) (h1 : (lowF i).toInt ≤ v.toInt) (h2 : v.toInt ≤ (highF i).toInt) : iv (upd sv (31 + i) v) := by
  obtain ⟨a, b, c, d, g1, g2, g3, g4⟩ := h
  have r1 : ∀ k, k < 4 → 0 ≤ (upd sv (31 + i) v k).toInt ∧ (upd sv (31 + i) v k).toInt ≤ 2 := fun k hk => by
    rw [pk_un (by omega)]; exact a k hk
  have r2 : ∀ k, k < 4 → 0 ≤ (upd sv (31 + i) v (4 + k)).toInt ∧ 0 ≤ (upd sv (31 + i) v (8 + k)).toInt ∧ (upd sv (31 + i) v (4 + k)).toInt + (upd sv (31 + i) v (8 + k)).toInt ≤ 6000 ∧ 0 ≤ (upd sv (31 + i) v (12 + k)).toInt ∧ (upd sv (31 + i) v (12 + k)).toInt ≤ 4000 := fun k hk => by
    rw [pk_un (by omega), pk_un (by omega), pk_un (by omega)]; exact b k hk
  have r3 : ∀ k, k < 2 → -1 ≤ (upd sv (31 + i) v (16 + k)).toInt ∧ (upd sv (31 + i) v (16 + k)).toInt ≤ 3 := fun k hk => by
    rw [pk_un (by omega)]; exact c k hk
  have r4 : upd sv (31 + i) v 16 = -1 ∨ ¬ upd sv (31 + i) v 16 = upd sv (31 + i) v 17 := by
    rw [pk_un (by omega), pk_un (by omega)]; exact d
  rcases (show i = 0 ∨ i = 1 ∨ i = 2 ∨ i = 3 by omega) with rfl | rfl | rfl | rfl
  · refine ⟨r1, r2, r3, r4, ?_, ?_, ?_, ?_⟩
    · rw [pk_us (k := 31)]; exact ⟨h1, h2⟩
    · rw [pk_un (by decide)]; exact g2
    · rw [pk_un (by decide)]; exact g3
    · rw [pk_un (by decide)]; exact g4
  · refine ⟨r1, r2, r3, r4, ?_, ?_, ?_, ?_⟩
    · rw [pk_un (by decide)]; exact g1
    · rw [pk_us (k := 32)]; exact ⟨h1, h2⟩
    · rw [pk_un (by decide)]; exact g3
    · rw [pk_un (by decide)]; exact g4
  · refine ⟨r1, r2, r3, r4, ?_, ?_, ?_, ?_⟩
    · rw [pk_un (by decide)]; exact g1
    · rw [pk_un (by decide)]; exact g2
    · rw [pk_us (k := 33)]; exact ⟨h1, h2⟩
    · rw [pk_un (by decide)]; exact g4
  · refine ⟨r1, r2, r3, r4, ?_, ?_, ?_, ?_⟩
    · rw [pk_un (by decide)]; exact g1
    · rw [pk_un (by decide)]; exact g2
    · rw [pk_un (by decide)]; exact g3
    · rw [pk_us (k := 34)]; exact ⟨h1, h2⟩
theorem low_eq {x : Int32} (h : vp_in x 4) : sh_X5_lowest x = lowF x.toNatClampNeg ∧ sh_X5_highest x = highF x.toNatClampNeg := by
  obtain ⟨i, hi, rfl⟩ := vp_in_of h (by decide)
  rcases (show i = 0 ∨ i = 1 ∨ i = 2 ∨ i = 3 by omega) with rfl | rfl | rfl | rfl <;> exact ⟨by decide, by decide⟩
theorem i2c_id : ∀ n, n < 127 → ((nI n).toUInt32 % 65536).toInt32 = nI n := by decide +kernel
theorem nar_id : ∀ n, n < 127 → vp_nar .char (nI n) = nI n := by decide +kernel
theorem padr_up {sg pd : Nat → Int32} {ln x : Int32} (h : padr sg pd ln) (hl : vp_in ln 60) (h1 : 33 ≤ x.toInt) (h2 : x.toInt ≤ 126) : padr (upd sg ln.toNatClampNeg x) (upd pd ln.toNatClampNeg x) (ln + 1) := by
  have k := k_cl hl
  have v := vp_in_iff.mp hl
  have o : (1 : Int32).toInt = 1 := rfl
  have e : (ln + 1).toInt = ln.toInt + 1 := by rw [iadd_to (by omega) (by omega), o]
  refine ⟨by rw [vp_in_iff]; omega, fun i hi => ?_⟩
  by_cases g : i = ln.toNatClampNeg
  · rw [g, pk_us, pk_us]; exact ⟨rfl, h1, h2⟩
  · rw [pk_un g, pk_un g]; exact h.2 i (by omega)
theorem take_nf {N M0 M1 M2 M3 : TMa} {o z : Nat} (ho : o < 4) (hz : z < 5) (h0 : 0 < z) : (∀ B sv, goodM B (selM M0 M1 M2 M3 ((o + (z - 1)) % 4)) sv → goodM B (sh_X0_takeBack N (nI o) (nI z) M0 M1 M2 M3).1 sv) ∧ (sh_X0_takeBack N (nI o) (nI z) M0 M1 M2 M3).2 = nI (z - 1) := by
  have e1 : nI z - 1 = nI (z - 1) := by
    obtain ⟨y, rfl⟩ : ∃ y, z = y + 1 := ⟨z - 1, by omega⟩
    rw [← nI_up, Int32.add_sub_cancel, Nat.add_sub_cancel]
  have n0 : ¬ nI z ≤ 0 := by
    rw [Int32.le_iff_toInt_le, nI_toInt (by omega), show (0 : Int32).toInt = 0 from rfl]
    omega
  have r := rem_ix (o := o) (z := z - 1) ho (by omega)
  unfold sh_X0_takeBack
  rw [if_neg n0, e1, r]
  rcases (show (o + (z - 1)) % 4 = 0 ∨ (o + (z - 1)) % 4 = 1 ∨ (o + (z - 1)) % 4 = 2 ∨ (o + (z - 1)) % 4 = 3 by omega) with e | e | e | e
  · rw [e, if_pos rfl]
    exact ⟨fun B sv h => goodM.like (M := N) h, rfl⟩
  · rw [e, if_neg (by decide), if_pos rfl]
    exact ⟨fun B sv h => goodM.like (M := N) h, rfl⟩
  · rw [e, if_neg (by decide), if_neg (by decide), if_pos rfl]
    exact ⟨fun B sv h => goodM.like (M := N) h, rfl⟩
  · rw [e, if_neg (by decide), if_neg (by decide), if_neg (by decide)]
    exact ⟨fun B sv h => goodM.like (M := N) h, rfl⟩
section CLR
variable {B : Int} {tk : Int32} {N S : TMa} {oo zz : Int32} {M0 M1 M2 M3 : TMa} {rs de pc pg : Int32} {sg : Nat → Int32} {ln : Int32} {sv pa : Nat → Int32} {pn : Int32} {sn : Nat → Int32} {kp : Int32} {pd : Nat → Int32} {l2 : Int32} {so : Nat → Int32} {x1 x2 : Int32}
theorem e_set (h : Rel B tk N S oo zz M0 M1 M2 M3 rs de pc pg sg ln sv pa pn sn kp pd l2 so) {R} (hR : R = sh_X4_set N oo zz M0 M1 M2 M3 x1 x2) {T} (hT : T = sh_X5_set sv pa pn x1 x2) :
    R.1 = T.1 ∧ Rel (B + 10000) tk R.2.1 S R.2.2.1 R.2.2.2.1 R.2.2.2.2.1 R.2.2.2.2.2.1 R.2.2.2.2.2.2.1 R.2.2.2.2.2.2.2 rs de pc pg sg ln T.2.1 T.2.2.1 T.2.2.2 sn kp pd l2 so := by
  have o : (3 : Int32).toInt = 3 := rfl
  have f : (4 : Int32).toInt = 4 := rfl
  have z : (0 : Int32).toInt = 0 := rfl
  unfold sh_X4_set at hR
  unfold sh_X5_set at hT
  by_cases a : sh_X5_in x1 0 3 = 0
  · rw [if_pos a] at hT
    have hR : R = (-1, N, oo, zz, M0, M1, M2, M3) := by
      rw [in_iff] at a
      by_cases b1 : x1 < 0
      · rw [if_pos b1] at hR; exact hR
      · rw [if_neg b1, if_neg] at hR
        · exact hR
        · rw [Int32.lt_iff_toInt_lt] at b1 ⊢
          omega
    subst hR hT
    exact ⟨rfl, h.mono (by omega)⟩
  · rw [if_neg a] at hT
    rw [in_iff] at a
    have hx : vp_in x1 4 := by rw [vp_in_iff]; omega
    rw [if_neg (show ¬ x1 < 0 by rw [Int32.lt_iff_toInt_lt]; omega), if_pos (show x1 < 4 by rw [Int32.lt_iff_toInt_lt]; omega)] at hR
    rw [(low_eq hx).1, (low_eq hx).2] at hT
    by_cases b : sh_X5_in x2 (lowF x1.toNatClampNeg) (highF x1.toNatClampNeg) = 0
    · rw [if_pos b] at hT
      have hR : R = (-1, N, oo, zz, M0, M1, M2, M3) := by
        rw [in_iff] at b
        by_cases b1 : x2 < lowF x1.toNatClampNeg
        · rw [if_pos b1] at hR; exact hR
        · rw [if_neg b1, if_neg] at hR
          · exact hR
          · rw [Int32.lt_iff_toInt_lt] at b1
            rw [Int32.le_iff_toInt_le]
            omega
      subst hR hT
      exact ⟨rfl, h.mono (by omega)⟩
    · rw [if_neg b] at hT
      rw [in_iff] at b
      rw [if_neg (show ¬ x2 < lowF x1.toNatClampNeg by rw [Int32.lt_iff_toInt_lt]; omega), if_pos (show x2 ≤ highF x1.toNatClampNeg by rw [Int32.le_iff_toInt_le]; omega)] at hR
      have l := (k_cl hx).1
      have e31 := q_ix (k := 31) (m := 31) hx rfl (by decide) (by decide)
      rw [e31, ← h.1.1.1 _ l] at hT
      simp only [kb] at hR hT
      have m1 := mr_se (v := x2) h.1.1 l
      have i1 := iv_set (v := x2) h.1.2.1 l (by omega) (by omega)
      have p1 : pgB B (upd sv (31 + x1.toNatClampNeg) x2) := pgB_other h.1.2.2 (by omega)
      subst hR hT
      exact ⟨rfl, h.kept (goodM.mono (B := B) ⟨m1, i1, p1⟩ (by omega)) (by omega)⟩
theorem e_append (h : Rel B tk N S oo zz M0 M1 M2 M3 rs de pc pg sg ln sv pa pn sn kp pd l2 so) {R} (hR : R = sh_X4_append sg ln x1) {T} (hT : T = sh_X5_append pd l2 x1) :
    R.1 = T.1 ∧ Rel B tk N S oo zz M0 M1 M2 M3 rs de pc pg R.2.1 R.2.2 sv pa pn sn kp T.2.1 T.2.2 so := by
  have o : (33 : Int32).toInt = 33 := rfl
  have f : (126 : Int32).toInt = 126 := rfl
  have s : (60 : Int32).toInt = 60 := rfl
  obtain ⟨g1, g2, g3, ⟨rfl, g4⟩, g5⟩ := h
  have h : Rel B tk N S oo zz M0 M1 M2 M3 rs de pc pg sg ln sv pa pn sn kp pd ln so := ⟨g1, g2, g3, ⟨rfl, g4⟩, g5⟩
  unfold sh_X4_append at hR
  unfold sh_X5_append at hT
  by_cases a : sh_X5_in x1 33 126 = 0
  · rw [if_pos a] at hT
    have hR : R = (-1, sg, ln) := by
      rw [in_iff] at a
      by_cases b1 : x1 < 33
      · rw [if_pos b1] at hR; exact hR
      · rw [if_neg b1, if_neg] at hR
        · exact hR
        · rw [Int32.lt_iff_toInt_lt] at b1
          rw [Int32.le_iff_toInt_le]; omega
    subst hR hT
    exact ⟨rfl, h.mono (by omega)⟩
  · rw [if_neg a] at hT
    rw [in_iff] at a
    rw [if_neg (show ¬ x1 < 33 by rw [Int32.lt_iff_toInt_lt]; omega), if_pos (show x1 ≤ 126 by rw [Int32.le_iff_toInt_le]; omega)] at hR
    have v := vp_in_iff.mp g4.1
    by_cases b : ln = 60
    · rw [if_pos b] at hT
      rw [if_pos (show sh_X2_hasRoom ln = 0 by unfold sh_X2_hasRoom; rw [b, if_pos (by decide)])] at hR
      subst hR hT
      exact ⟨rfl, h.mono (by omega)⟩
    · rw [if_neg b] at hT
      have nb := k_ne b
      have hr : sh_X2_hasRoom ln = 1 := by
        unfold sh_X2_hasRoom
        rw [if_neg]
        rw [Int32.le_iff_toInt_le]; omega
      rw [if_neg (by rw [hr]; decide)] at hR
      obtain ⟨n, hn, en⟩ := ige_of (x := x1) (by omega)
      have n2 : n < 127 := by rw [en, nI_toInt hn] at a; omega
      rw [show (x1.toUInt32 % 65536).toInt32 = x1 by rw [en]; exact i2c_id n n2] at hR
      simp only [kb] at hR hT
      unfold sh_X2_add at hR
      rw [if_neg (by rw [hr]; decide), show vp_nar .char x1 = x1 by rw [en]; exact nar_id n n2] at hR
      have p := padr_up g4 (by rw [vp_in_iff]; omega) (show 33 ≤ x1.toInt by omega) (show x1.toInt ≤ 126 by omega)
      subst hR hT
      exact ⟨rfl, Rel.mono (B := B) ⟨g1, g2, g3, ⟨rfl, p⟩, g5⟩ (by omega)⟩
theorem Rel.cleared (h : Rel B tk N S oo zz M0 M1 M2 M3 rs de pc pg sg ln sv pa pn sn kp pd l2 so) : Rel B tk N S oo zz M0 M1 M2 M3 rs de pc pg sg 0 sv pa pn sn kp pd 0 so :=
  ⟨h.1, h.2.1, h.2.2.1, ⟨rfl, k_in (by decide), fun i hi => by
    rw [show (0 : Int32).toInt = 0 from rfl] at hi
    omega⟩, h.2.2.2.2⟩
theorem e_clear (h : Rel B tk N S oo zz M0 M1 M2 M3 rs de pc pg sg ln sv pa pn sn kp pd l2 so) {R} (hR : R = sh_X4_clear ln) {T} (hT : T = sh_X5_clear l2) :
    R.1 = T.1 ∧ Rel B tk N S oo zz M0 M1 M2 M3 rs de pc pg sg R.2 sv pa pn sn kp pd T.2 so := by
  subst hR hT
  exact ⟨h.2.2.2.1.1, h.cleared.mono (by omega)⟩
theorem e_fault (h : Rel B tk N S oo zz M0 M1 M2 M3 rs de pc pg sg ln sv pa pn sn kp pd l2 so) {lt pl f1s s2s tms : Nat → Int32} {l5 fr sc tm : Int32} : (sh_X4_fault sg ln lt pl f1s s2s tms).1 = (sh_X5_fault pd l2 l5 fr sc tm).1 := by
  obtain ⟨g1, g2, g3, ⟨rfl, g4⟩, g5⟩ := h
  have J := q_fault g4 lt pl f1s s2s tms l5 fr sc tm
  unfold sh_X4_fault sh_X5_fault
  generalize sh_X2_findFault sg ln lt pl f1s s2s tms = R at J ⊢
  generalize sh_X5_isJob pd ln l5 fr sc tm = T at J ⊢
  simp only [kb]
  by_cases t : T.1 = 0
  · rw [if_pos t]; exact (J.1 t).1
  · rw [if_neg t]; exact (J.2 t).1
theorem e_why (h : stopR rs de pc pg so) : sh_X4_why rs de pc pg x1 = sh_X5_why so x1 := by
  have o : (3 : Int32).toInt = 3 := rfl
  have z : (0 : Int32).toInt = 0 := rfl
  unfold sh_X4_why sh_X5_why
  by_cases a : sh_X5_in x1 0 3 = 0
  · rw [if_pos a]
    rw [in_iff] at a
    rw [if_neg, if_neg, if_neg, if_neg]
    · rintro rfl; exact a (by decide)
    · rintro rfl; exact a (by decide)
    · rintro rfl; exact a (by decide)
    · rintro rfl; exact a (by decide)
  · rw [if_neg a]
    rw [in_iff] at a
    have hx : vp_in x1 4 := by rw [vp_in_iff]; omega
    obtain ⟨i, hi, rfl⟩ := vp_in_of hx (by decide)
    rw [nI_clamp (by omega), show (0 : Int32).toNatClampNeg = 0 from rfl]
    rcases h with ⟨h0, rfl, rfl, rfl, rfl⟩ | ⟨h0, _, rfl, rfl, rfl, rfl⟩
    · rw [if_pos h0]
      rcases (show i = 0 ∨ i = 1 ∨ i = 2 ∨ i = 3 by omega) with rfl | rfl | rfl | rfl <;> rfl
    · rw [if_neg h0]
      rcases (show i = 0 ∨ i = 1 ∨ i = 2 ∨ i = 3 by omega) with rfl | rfl | rfl | rfl <;> rfl
theorem e_undo (h : Rel B tk N S oo zz M0 M1 M2 M3 rs de pc pg sg ln sv pa pn sn kp pd l2 so) {R} (hR : R = sh_X4_undo N oo zz M0 M1 M2 M3) {T} (hT : T = sh_X5_undo sv pa pn) :
    R.1 = T.1 ∧ Rel (B + 10000) tk R.2.1 S oo R.2.2 M0 M1 M2 M3 rs de pc pg sg ln T.2.1 pa T.2.2 sn kp pd l2 so := by
  have hm := h.mono (B1 := B + 10000) (by omega)
  obtain ⟨g1, ⟨h1, h2, rfl, h3⟩, g3⟩ := h
  obtain ⟨o, ho, rfl⟩ := vp_in_of h1 (by decide)
  obtain ⟨z, hz, rfl⟩ := vp_in_of h2 (by decide)
  rw [nI_clamp (n := o) (by omega), nI_clamp (n := z) (by omega)] at h3
  unfold sh_X4_undo at hR
  unfold sh_X5_undo at hT
  by_cases c : z = 0
  · subst c
    rw [if_neg (by decide)] at hR
    rw [if_pos (show nI 0 = 0 from rfl)] at hT
    subst hR hT
    exact ⟨rfl, hm⟩
  · have z1 : (1 : Int32) ≤ nI z := by
      rw [Int32.le_iff_toInt_le, nI_toInt (by omega), show (1 : Int32).toInt = 1 from rfl]
      omega
    have zn : ¬ nI z = 0 := fun e => by
      have := congrArg Int32.toInt e
      rw [nI_toInt (by omega), show (0 : Int32).toInt = 0 from rfl] at this
      omega
    rw [if_pos z1] at hR
    rw [if_neg zn] at hT
    obtain ⟨k1, k2⟩ := take_nf (N := N) (M0 := M0) (M1 := M1) (M2 := M2) (M3 := M3) ho hz (by omega)
    generalize sh_X0_takeBack N (nI o) (nI z) M0 M1 M2 M3 = K at k1 k2 hR
    obtain ⟨y, rfl⟩ : ∃ y, z = y + 1 := ⟨z - 1, by omega⟩
    rw [Nat.add_sub_cancel] at k1 k2
    have U := und22 (pa := pa) (a := y) (by omega) (((35 : Int32).toInt - (0 : Int32).toInt).toNat + 1) 0 sv (by decide) (by decide)
    rw [nI_up y, show nI 0 = 0 from rfl] at U
    rw [← hT] at U
    obtain ⟨u1, u2, u3⟩ := U
    simp only [kb] at hR
    subst hR
    have gy := k1 B _ (h3 y (by omega))
    have gT : goodM B K.1 T.2.1 := gy.cong (fun j hj => by
      rw [u3 j, if_pos ⟨Nat.zero_le _, hj⟩]
      rfl)
    refine ⟨k2.trans u1.symm, Rel.mono (B := B) ⟨gT, ⟨h1, ?_, k2.trans u2.symm, fun k hk => ?_⟩, g3⟩ (by omega)⟩
    · show vp_in K.2 5
      rw [k2]; exact vp_in_nI (by omega) (by decide)
    · have hk : k < K.2.toNatClampNeg := hk
      rw [k2, nI_clamp (by omega)] at hk
      rw [nI_clamp (by omega)]
      exact h3 k (by omega)
theorem e_save (h : Rel B tk N S oo zz M0 M1 M2 M3 rs de pc pg sg ln sv pa pn sn kp pd l2 so) {R} (hR : R = sh_X4_save N S) {T} (hT : T = sh_X5_save sv sn) :
    R.1 = T.1 ∧ Rel (B + 10000) R.2.1 N R.2.2 oo zz M0 M1 M2 M3 rs de pc pg sg ln sv pa pn T.2.1 T.2.2 pd l2 so := by
  have U := sav2 (sv := sv) (((35 : Int32).toInt - (0 : Int32).toInt).toNat + 1) 0 sn (by decide) (by decide)
  rw [show nI 0 = 0 from rfl] at U
  unfold sh_X5_save at hT
  rw [← hT] at U
  obtain ⟨u1, u2, u3⟩ := U
  have L : goodM B (likeM S N) T.2.1 := (h.1.like).cong (fun j hj => by
    rw [u3 j, if_pos ⟨Nat.zero_le _, hj⟩])
  unfold sh_X4_save at hR
  subst hR
  refine ⟨?_, Rel.mono (B := B) ⟨h.1, h.2.1, ⟨u2.symm, fun _ => L⟩, h.2.2.2⟩ (by omega)⟩
  rw [u1, q_allToner h.1.1]
  rfl
theorem restore_kb {K : Int32 × Int32 × TMa × TMa × TMa × TMa} {L : TMa} : (kb K (fun z_v5 => (kb L (fun z_f14 => ((sh_X1_allToner z_f14.2.2.1 z_f14.2.2.2.1), ((z_f14.1, z_f14.2.1, z_f14.2.2.1, z_f14.2.2.2.1, z_f14.2.2.2.2.1, z_f14.2.2.2.2.2.1, z_f14.2.2.2.2.2.2.1, z_f14.2.2.2.2.2.2.2.1, z_f14.2.2.2.2.2.2.2.2.1, z_f14.2.2.2.2.2.2.2.2.2.1, z_f14.2.2.2.2.2.2.2.2.2.2.1, z_f14.2.2.2.2.2.2.2.2.2.2.2.1, z_f14.2.2.2.2.2.2.2.2.2.2.2.2.1, z_f14.2.2.2.2.2.2.2.2.2.2.2.2.2) : TMa), z_v5.1, z_v5.2.1, z_v5.2.2.1, z_v5.2.2.2.1, z_v5.2.2.2.2.1, z_v5.2.2.2.2.2))))) = (sh_X1_allToner L.2.2.1 L.2.2.2.1, L, K) := rfl
theorem restore_nf (a : ¬ tk = 0) : ∃ L, (∀ B sv, goodM B S sv → goodM B L sv) ∧ sh_X4_restore tk N S oo zz M0 M1 M2 M3 = (sh_X1_allToner L.2.2.1 L.2.2.2.1, L, sh_X0_keep N oo zz M0 M1 M2 M3) := by
  refine ⟨likeM N S, fun B sv g => g.like, ?_⟩
  unfold sh_X4_restore
  rw [if_neg a]
  with_reducible exact restore_kb
theorem e_restore (h : Rel B tk N S oo zz M0 M1 M2 M3 rs de pc pg sg ln sv pa pn sn kp pd l2 so) {R} (hR : R = sh_X4_restore tk N S oo zz M0 M1 M2 M3) {T} (hT : T = sh_X5_restore sv pa pn sn kp) :
    R.1 = T.1 ∧ Rel (B + 10000) tk R.2.1 S R.2.2.1 R.2.2.2.1 R.2.2.2.2.1 R.2.2.2.2.2.1 R.2.2.2.2.2.2.1 R.2.2.2.2.2.2.2 rs de pc pg sg ln T.2.1 T.2.2.1 T.2.2.2 sn kp pd l2 so := by
  unfold sh_X5_restore at hT
  rw [← h.2.2.1.1] at hT
  by_cases a : tk = 0
  · unfold sh_X4_restore at hR
    rw [if_pos a] at hR hT
    subst hR hT
    exact ⟨rfl, h.mono (by omega)⟩
  · rw [if_neg a] at hT
    obtain ⟨L, hL, e⟩ := restore_nf (N := N) (S := S) (oo := oo) (zz := zz) (M0 := M0) (M1 := M1) (M2 := M2) (M3 := M3) a
    rw [e] at hR
    clear e
    have g := hL B sn (h.2.2.1.2 a)
    have U : T.1 = sh_X5_toner T.2.1 ∧ T.2.2 = sh_X5_records sv pa pn ∧ ∀ j, j < 35 → T.2.1 j = sn j := by
      generalize sh_X5_records sv pa pn = W at hT
      have U := res16 (f5 := W.1) (v6 := W.2) (sn := sn) (((35 : Int32).toInt - (0 : Int32).toInt).toNat + 1) 0 sv (by decide) (by decide)
      rw [show nI 0 = 0 from rfl] at U
      replace hT := kb_to hT (rfl : W = W)
      rw [← hT] at U
      exact ⟨U.1, U.2.1, fun j hj => by rw [U.2.2 j, if_pos ⟨Nat.zero_le _, hj⟩]⟩
    obtain ⟨u1, u2, u3⟩ := U
    clear hT
    have G : goodM B L T.2.1 := g.cong u3
    have K := h.kept (G.mono (B1 := B + 10000) (by omega)) (by omega)
    have q := q_allToner G.1
    generalize sh_X0_keep N oo zz M0 M1 M2 M3 = k at hR K
    generalize sh_X5_records sv pa pn = W at u2 K
    subst hR
    rw [← u2] at K
    exact ⟨(u1.trans q).symm, K⟩
end CLR
