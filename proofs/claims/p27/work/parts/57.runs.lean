theorem reason_rg {sv : Nat → Int32} {q : Int32} : sh_X5_reason sv q = 0 ∨ sh_X5_reason sv q = 1 ∨ sh_X5_reason sv q = 2 ∨ sh_X5_reason sv q = 3 := by
  unfold sh_X5_reason
  (repeat' split) <;> simp
theorem prints_rg {sv : Nat → Int32} {q d : Int32} (hi : iv sv) (hq : vp_in q 2) (hd : dotsOK d) : 10 ≤ (sh_X5_prints sv q d).1.toInt ∨ (1 ≤ (sh_X5_prints sv q d).1.toInt ∧ (sh_X5_prints sv q d).1.toInt ≤ 3) := by
  unfold sh_X5_prints
  split
  · rename_i c
    have hc := reasonIn hi hq c
    generalize sv (16 + q).toNatClampNeg = cup at hc ⊢
    have e4 := q_ix (k := 4) (m := 4) hc rfl (by decide) (by decide)
    have l := (k_cl hc).1
    have b := hi.2.1 _ l
    have nb := need_bd (sv := sv) (c := cup) (k := sv (31 : Int32).toNatClampNeg) hd hi.2.2.2.2.1.1 hi.2.2.2.2.1.2
    refine kb_ind (P := fun r : Int32 × (Nat → Int32) => 10 ≤ r.1.toInt ∨ (1 ≤ r.1.toInt ∧ r.1.toInt ≤ 3)) (fun v hv => ?_)
    rw [e4] at hv
    have vb : 0 ≤ v.toInt ∧ v.toInt ≤ 6000 ∧ (¬ v = sh_X5_need sv cup d (sv (31 : Int32).toNatClampNeg) → v.toInt < (sh_X5_need sv cup d (sv (31 : Int32).toNatClampNeg)).toInt) := by
      rw [hv]
      split
      · rename_i g
        rw [Int32.le_iff_toInt_le] at g
        exact ⟨nb.1, by omega, fun e => absurd rfl e⟩
      · rename_i g
        rw [Int32.le_iff_toInt_le] at g
        exact ⟨b.1, by omega, fun _ => by omega⟩
    refine kb_ind (P := fun r : Int32 × (Nat → Int32) => 10 ≤ r.1.toInt ∨ (1 ≤ r.1.toInt ∧ r.1.toInt ≤ 3)) (fun w hw => ?_)
    have wb : 0 ≤ w.toInt ∧ w.toInt ≤ 600000 := by
      rw [hw]
      split
      · decide
      · rename_i g
        have lt := vb.2.2 g
        generalize sh_X5_need sv cup d (sv (31 : Int32).toNatClampNeg) = n at lt ⊢
        obtain ⟨a, ha, rfl⟩ := ige_of vb.1
        rw [nI_toInt ha] at vb lt
        have m : (nI a * 100).toInt = (a * 100 : Nat) := by
          rw [show (100 : Int32) = nI 100 from rfl, pk_mul, nI_toInt (by omega)]
        have := idiv_bd (x := nI a * 100) (y := n) (by rw [m]; omega) (by omega)
        rw [m] at this
        omega
    refine Or.inl ?_
    refine kb_ind (P := fun r : Int32 × (Nat → Int32) => 10 ≤ r.1.toInt) (fun f1 h1 => ?_)
    refine kb_ind (P := fun r : Int32 × (Nat → Int32) => 10 ≤ r.1.toInt) (fun f2 h2 => ?_)
    refine kb_ind (P := fun r : Int32 × (Nat → Int32) => 10 ≤ r.1.toInt) (fun k hk => ?_)
    refine kb_ind (P := fun r : Int32 × (Nat → Int32) => 10 ≤ r.1.toInt) (fun f3 h3 => ?_)
    refine kb_ind (P := fun r : Int32 × (Nat → Int32) => 10 ≤ r.1.toInt) (fun f4 h4 => ?_)
    refine kb_ind (P := fun r : Int32 × (Nat → Int32) => 10 ≤ r.1.toInt) (fun f5 h5 => ?_)
    refine kb_ind (P := fun r : Int32 × (Nat → Int32) => 10 ≤ r.1.toInt) (fun v2 hv2 => ?_)
    refine kb_ind (P := fun r : Int32 × (Nat → Int32) => 10 ≤ r.1.toInt) (fun f6 h6 => ?_)
    refine kb_ind (P := fun r : Int32 × (Nat → Int32) => 10 ≤ r.1.toInt) (fun v3 hv3 => ?_)
    refine kb_ind (P := fun r : Int32 × (Nat → Int32) => 10 ≤ r.1.toInt) (fun f7 h7 => ?_)
    refine kb_ind (P := fun r : Int32 × (Nat → Int32) => 10 ≤ r.1.toInt) (fun f8 h8 => ?_)
    refine kb_ind (P := fun r : Int32 × (Nat → Int32) => 10 ≤ r.1.toInt) (fun f9 h9 => ?_)
    show 10 ≤ (10 + w).toInt
    have t : (10 : Int32).toInt = 10 := rfl
    rw [iadd_to (by omega) (by omega)]
    omega
  · rename_i c
    refine kb_ind (P := fun r : Int32 × (Nat → Int32) => 10 ≤ r.1.toInt ∨ (1 ≤ r.1.toInt ∧ r.1.toInt ≤ 3)) (fun f1 h1 => ?_)
    refine Or.inr ?_
    rcases reason_rg (sv := sv) (q := q) with e | e | e | e
    · rw [e] at c; exact absurd (by decide) c
    · show 1 ≤ (sh_X5_reason sv q).toInt ∧ (sh_X5_reason sv q).toInt ≤ 3
      rw [e]; decide
    · show 1 ≤ (sh_X5_reason sv q).toInt ∧ (sh_X5_reason sv q).toInt ≤ 3
      rw [e]; decide
    · show 1 ≤ (sh_X5_reason sv q).toInt ∧ (sh_X5_reason sv q).toInt ≤ 3
      rw [e]; decide
/-- the pages of one deed -/
def pagesR (C : Int32 × TMa × Int32 × Int32 × Int32 × Int32) (T : Int32 × (Nat → Int32) × (Nat → Int32)) (B : Int) (rs de pc pg d pld : Int32) : Prop :=
  C.1 = T.1 ∧ goodM B C.2.1 T.2.1 ∧ ((T.2.2 0 = 0 ∧ C.2.2 = (rs, de, pc, pg)) ∨ (¬ T.2.2 0 = 0 ∧ ¬ T.2.2 0 = -4 ∧ C.2.2 = (T.2.2 0, d, pld, T.2.2 3)))
theorem q_pagesL {rs de pc pg : Int32} {pl f1s s2s tms so : Nat → Int32} {d : Int32} (hf : vp_in (f1s d.toNatClampNeg) 2) (hs : dotsOK (s2s d.toNatClampNeg)) : ∀ (fu fw : Nat) (n : Int32) (N : TMa) (sv : Nat → Int32) (B : Int), n.toInt ≤ (tms d.toNatClampNeg).toInt → ((tms d.toNatClampNeg).toInt - n.toInt).toNat < fu → ((tms d.toNatClampNeg).toInt - n.toInt).toNat + 1 < fw → goodM B N sv → B + 2 * ((tms d.toNatClampNeg).toInt - n.toInt) ≤ 4000000 →
    pagesR (lp_X4_printPagesOf_12 rs de pc pg pl f1s s2s tms d fu n N) (lp_X5_pages_4 so (f1s d.toNatClampNeg) (s2s d.toNatClampNeg) (tms d.toNatClampNeg) fw n 0 sv) (B + 2 * ((tms d.toNatClampNeg).toInt - n.toInt)) rs de pc pg d (pl d.toNatClampNeg) := by
  intro fu
  induction fu with
  | zero => intro fw n N sv B _ h; exact absurd h (Nat.not_lt_zero _)
  | succ fu ih =>
    intro fw n N sv B hm hu hw hg hB
    obtain ⟨fw, rfl⟩ : ∃ k, fw = k + 2 := ⟨fw - 2, by omega⟩
    rw [lp_X4_printPagesOf_12, lp_X5_pages_4]
    by_cases a : tms d.toNatClampNeg ≤ n
    · rw [if_pos a, if_pos a]
      have a2 := a
      rw [Int32.le_iff_toInt_le] at a2
      have e : tms d.toNatClampNeg = n := Int32.toInt_inj.mp (by omega)
      refine ⟨e, hg.mono (by omega), Or.inl ⟨?_, rfl⟩⟩
      show upd (upd so 0 0) 3 n 0 = 0
      rw [pk_un (by decide), pk_us]
    · rw [if_neg a, if_neg a, if_pos (show (0 : Int32) = 0 from rfl)]
      have G := hg.prints hf hs (by rw [Int32.le_iff_toInt_le] at a; omega) rfl
      have P := prints_rg hg.2.1 hf hs
      generalize sh_X1_printPage N.1 N.2.1 N.2.2.1 N.2.2.2.1 N.2.2.2.2.1 N.2.2.2.2.2.1 N.2.2.2.2.2.2.1 N.2.2.2.2.2.2.2.1 N.2.2.2.2.2.2.2.2.1 N.2.2.2.2.2.2.2.2.2.1 N.2.2.2.2.2.2.2.2.2.2.1 N.2.2.2.2.2.2.2.2.2.2.2.1 (f1s d.toNatClampNeg) (s2s d.toNatClampNeg) = R at G ⊢
      generalize sh_X5_prints sv (f1s d.toNatClampNeg) (s2s d.toNatClampNeg) = T at G P ⊢
      simp only [kb]
      rw [G.1]
      have u := k_mu (x := tms d.toNatClampNeg) (v := n) (n := ((tms d.toNatClampNeg).toInt - n.toInt).toNat) (by omega) a
      have t10 : (10 : Int32).toInt = 10 := rfl
      have z : (0 : Int32).toInt = 0 := rfl
      have e1 : (n + 1).toInt = n.toInt + 1 := by
        rw [Int32.le_iff_toInt_le] at a
        have h1 := (tms d.toNatClampNeg).toInt_lt
        have h2 := n.le_toInt
        have o : (1 : Int32).toInt = 1 := rfl
        rw [Int32.toInt_add, o]
        exact Int.bmod_eq_of_le (by omega) (by omega)
      by_cases b : 10 ≤ T.1
      · rw [if_pos b, if_pos b, if_pos (show (0 : Int32) = 0 from rfl)]
        have I := ih (fw + 1) (n + 1) _ _ (B + 2) (by rw [Int32.le_iff_toInt_le] at a; omega) (by omega) (by omega) G.2 (by omega)
        rw [show B + 2 + 2 * ((tms d.toNatClampNeg).toInt - (n + 1).toInt) = B + 2 * ((tms d.toNatClampNeg).toInt - n.toInt) by omega] at I
        exact I
      · rw [if_neg b, if_neg b]
        rw [Int32.le_iff_toInt_le, t10] at b
        have P := P.resolve_left b
        have n0 : ¬ T.1 = 0 := fun e => by rw [e, z] at P; omega
        have n4 : ¬ T.1 = -4 := fun e => by
          rw [e, show (-4 : Int32).toInt = -4 from rfl] at P; omega
        rw [if_neg n0, Int32.add_zero, lp_X5_pages_4, if_neg a, if_neg n0]
        have s0 : upd (upd so 0 T.1) 3 n 0 = T.1 := by rw [pk_un (by decide), pk_us]
        have s3 : upd (upd so 0 T.1) 3 n 3 = n := pk_us
        refine ⟨rfl, G.2.mono (by rw [Int32.le_iff_toInt_le] at a; omega), Or.inr ?_⟩
        show ¬ upd (upd so 0 T.1) 3 n 0 = 0 ∧ ¬ upd (upd so 0 T.1) 3 n 0 = -4 ∧ (T.1, d, pl d.toNatClampNeg, n) = (upd (upd so 0 T.1) 3 n 0, d, pl d.toNatClampNeg, upd (upd so 0 T.1) 3 n 3)
        rw [s0, s3]
        exact ⟨n0, n4, rfl⟩
theorem q_pages1 {rs de pc pg : Int32} {pl f1s s2s tms so sv : Nat → Int32} {d : Int32} {N : TMa} {B : Int} (hf : vp_in (f1s d.toNatClampNeg) 2) (hs : dotsOK (s2s d.toNatClampNeg)) (h1 : 1 ≤ (tms d.toNatClampNeg).toInt) (h2 : (tms d.toNatClampNeg).toInt ≤ 50) (hg : goodM B N sv) (hB : B ≤ 3990000) :
    pagesR (sh_X4_printPagesOf N rs de pc pg pl f1s s2s tms d) (sh_X5_pages sv so (f1s d.toNatClampNeg) (s2s d.toNatClampNeg) (tms d.toNatClampNeg)) (B + 100) rs de pc pg d (pl d.toNatClampNeg) := by
  have z : (0 : Int32).toInt = 0 := rfl
  have q := q_pagesL (rs := rs) (de := de) (pc := pc) (pg := pg) (pl := pl) (so := so) hf hs (((tms d.toNatClampNeg).toInt - (0 : Int32).toInt).toNat + 1) (((tms d.toNatClampNeg).toInt - (0 : Int32).toInt).toNat + (if (0 : Int32) = 0 then 1 else 0) + 1) 0 N sv B (by omega) (Nat.lt_succ_self _) (by rw [if_pos rfl]; omega) hg (by omega)
  unfold sh_X4_printPagesOf sh_X5_pages
  exact ⟨q.1, q.2.1.mono (by omega), q.2.2⟩
theorem dd_eta {X : Int32 × TMa × Int32 × Int32 × Int32 × Int32} : (kb X (fun z_r14 => (z_r14.1, z_r14.2.1, z_r14.2.2.1, z_r14.2.2.2.1, z_r14.2.2.2.2.1, z_r14.2.2.2.2.2))) = X := rfl
section RNQ
variable {v4 v5 v15 v16 : Int32} {t17 t18 t19 t20 : TMa} {lt pl f1s s2s tms f14 pd : Nat → Int32} {w15 ln : Int32}
abbrev RunC : Type := Int32 × TMa × Int32 × Int32 × TMa × TMa × TMa × TMa × Int32 × Int32 × Int32 × Int32 × Int32 × Int32 × Int32 × (Nat → Int32) × (Nat → Int32) × (Nat → Int32) × (Nat → Int32) × (Nat → Int32)
abbrev RunT : Type := Int32 × (Nat → Int32) × (Nat → Int32) × Int32 × Int32 × (Nat → Int32) × Int32 × Int32 × Int32 × Int32 × Int32 × Int32
/-- the ends of the two runs -/
def runE (C : RunC) (T : RunT) (B : Int) (v15 v16 : Int32) (t17 t18 t19 t20 : TMa) (f14 : Nat → Int32) (w15 : Int32) : Prop :=
  C.1 = T.1 ∧ goodM B C.2.1 T.2.1 ∧ stopR C.2.2.2.2.2.2.2.2.1 C.2.2.2.2.2.2.2.2.2.1 C.2.2.2.2.2.2.2.2.2.2.1 C.2.2.2.2.2.2.2.2.2.2.2.1 T.2.2.2.2.2.1 ∧
  (C.2.2.1 = v15 ∧ C.2.2.2.1 = v16 ∧ C.2.2.2.2.1 = t17 ∧ C.2.2.2.2.2.1 = t18 ∧ C.2.2.2.2.2.2.1 = t19 ∧ C.2.2.2.2.2.2.2.1 = t20) ∧ C.2.2.2.2.2.2.2.2.2.2.2.2.1 = 0 ∧ T.2.2.1 = f14 ∧ T.2.2.2.1 = w15 ∧ T.2.2.2.2.1 = 0
theorem cls_exit {fu : Nat} {p d2 rs de pc pg : Int32} {N : TMa} (c : v5 ≤ d2 ∨ ¬ rs = -4) : lp_X4_run_37 v4 v5 lt pl f1s s2s tms v15 v16 t17 t18 t19 t20 (fu + 1) p d2 N rs de pc pg = (p, N, v15, v16, t17, t18, t19, t20, rs, de, pc, pg, 0, v4, v5, lt, pl, f1s, s2s, tms) := by
  rw [lp_X4_run_37]
  by_cases a : v5 ≤ d2
  · rw [if_pos a]; rfl
  · rw [if_neg a, if_neg]
    · rfl
    · unfold sh_X3_known
      rw [if_neg (c.resolve_left a)]
      decide
theorem ref_exit {fw : Nat} {p d2 po w l f s t : Int32} {sv so : Nat → Int32} (c : so 0 = 0 → ln ≤ po) : lp_X5_run_30 f14 w15 pd ln (fw + 1) p d2 sv so po w l f s t = (p, sv, f14, w15, 0, so, po, w, l, f, s, t) := by
  rw [lp_X5_run_30]
  by_cases a : so (0 : Int32).toNatClampNeg = 0
  · rw [if_pos a, if_pos (c a)]
  · rw [if_neg a]
theorem exit_E {p d2 d3 rs de pc pg po w l f s t : Int32} {N : TMa} {sv so : Nat → Int32} {fu fw : Nat} {B : Int} (c : v5 ≤ d2 ∨ ¬ rs = -4) (c2 : so 0 = 0 → ln ≤ po) (hg : goodM B N sv) (hs : stopR rs de pc pg so) :
    runE (lp_X4_run_37 v4 v5 lt pl f1s s2s tms v15 v16 t17 t18 t19 t20 (fu + 1) p d2 N rs de pc pg) (lp_X5_run_30 f14 w15 pd ln (fw + 1) p d3 sv so po w l f s t) B v15 v16 t17 t18 t19 t20 f14 w15 := by
  rw [cls_exit c, ref_exit c2]
  exact ⟨rfl, hg, hs, ⟨rfl, rfl, rfl, rfl, rfl, rfl⟩, rfl, rfl, rfl, rfl⟩
theorem runE.mono {C : RunC} {T : RunT} {B B1 : Int} (h : runE C T B v15 v16 t17 t18 t19 t20 f14 w15) (e : B ≤ B1) : runE C T B1 v15 v16 t17 t18 t19 t20 f14 w15 := ⟨h.1, h.2.1.mono e, h.2.2⟩
theorem q_run {sg : Nat → Int32} (h : padr sg pd ln) : ∀ (n k fu fw : Nat) (p po : Int32) (N : TMa) (sv so : Nat → Int32) (B : Int) (l f s t : Int32), rowsG pd ln lt pl f1s s2s tms n k po → v5.toInt = k + n → k + n ≤ 30 → n < fu → n < fw → so 0 = 0 → goodM B N sv → B + 100 * n ≤ 3990000 →
    runE (lp_X4_run_37 v4 v5 lt pl f1s s2s tms v15 v16 t17 t18 t19 t20 fu p (nI k) N (-4) (-4) (-4) (-4)) (lp_X5_run_30 f14 w15 pd ln fw p (nI k) sv so po 0 l f s t) (B + 100 * n) v15 v16 t17 t18 t19 t20 f14 w15 := by
  intro n
  induction n with
  | zero =>
    intro k fu fw p po N sv so B l f s t hr hv hk hu hw hs hg hB
    obtain ⟨fu, rfl⟩ : ∃ j, fu = j + 1 := ⟨fu - 1, by omega⟩
    obtain ⟨fw, rfl⟩ : ∃ j, fw = j + 1 := ⟨fw - 1, by omega⟩
    have hr : po.toInt = ln.toInt + 1 := hr
    refine exit_E (Or.inl ?_) (fun _ => ?_) (hg.mono (by omega)) (Or.inl ⟨hs, rfl, rfl, rfl, rfl⟩)
    · rw [Int32.le_iff_toInt_le, nI_toInt (by omega)]; omega
    · rw [Int32.le_iff_toInt_le]; omega
  | succ n ih =>
    intro k fu fw p po N sv so B l f s t hr hv hk hu hw hs hg hB
    obtain ⟨fu, rfl⟩ : ∃ j, fu = j + 1 := ⟨fu - 1, by omega⟩
    obtain ⟨fw, rfl⟩ : ∃ j, fw = j + 1 := ⟨fw - 1, by omega⟩
    obtain ⟨r1, hp, c0, e, r2, r3⟩ := hr
    have r2 := r2 f s
    have D := (q_deed (dd := 0) (lt := lt) (pl := pl) (f1s := f1s) (s2s := s2s) (tms := tms) (fr := f) (sc := s) h hp (by decide)).2
    have v0 : ¬ v5 ≤ nI k := by
      rw [Int32.le_iff_toInt_le, nI_toInt (by omega)]; omega
    have kc : (nI k).toNatClampNeg = k := nI_clamp (by omega)
    rw [lp_X4_run_37, if_neg v0, if_pos (show sh_X3_known (-4) = 0 from by decide), lp_X5_run_30, if_pos (show so (0 : Int32).toNatClampNeg = 0 from hs), if_neg c0]
    generalize sh_X5_deed pd ln po 0 f s = Q at r2 D ⊢
    obtain ⟨q1, q2, q3, q4, q5, q6⟩ := Q
    obtain ⟨g1, g2, g3, g4, g5, g6⟩ := r2
    have g1 : q1 = e := g1
    have g2 : q2 = 0 := g2
    have g3 : q3 = lt k := g3
    have g4 : q4 = f1s k := g4
    subst g1 g2 g3 g4
    have D := (D rfl).2.2.2
    unfold sh_X4_doDeed
    rw [kc]
    simp only [kb]
    rw [nI_up]
    rcases D with ⟨d1, d2, d3, d4, d5⟩ | ⟨d1, d2⟩ | ⟨d1, d2, d3⟩
    · have d0 : lt k = 112 := d1
      have e5 : q5 = s2s k := g5 (by rw [d0]; decide)
      have e6 : q6 = tms k := g6 d0
      subst e5 e6
      rw [if_pos d0, if_pos d0]
      have P := q_pages1 (rs := -4) (de := -4) (pc := -4) (pg := -4) (pl := pl) (f1s := f1s) (s2s := s2s) (tms := tms) (so := so) (d := nI k) (N := N) (sv := sv) (B := B) (by rw [kc]; exact d2) (by rw [kc]; exact d3) (by rw [kc]; exact d4) (by rw [kc]; exact d5) hg (by omega)
      rw [kc] at P
      generalize sh_X4_printPagesOf N (-4) (-4) (-4) (-4) pl f1s s2s tms (nI k) = C at P ⊢
      generalize sh_X5_pages sv so (f1s k) (s2s k) (tms k) = T at P ⊢
      obtain ⟨p1, p2, p3⟩ := P
      rw [p1]
      have s0 : upd (upd T.2.2 (1 : Int32).toNatClampNeg (nI k)) (2 : Int32).toNatClampNeg po 0 = T.2.2 0 := by
        rw [show (1 : Int32).toNatClampNeg = 1 from rfl, show (2 : Int32).toNatClampNeg = 2 from rfl, pk_un (by decide), pk_un (by decide)]
      rcases p3 with ⟨p3, p4⟩ | ⟨p3, p4, p5⟩
      · have c1 : C.2.2.1 = -4 := congrArg Prod.fst p4
        have c2 : C.2.2.2.1 = -4 := congrArg (fun z => z.2.1) p4
        have c3 : C.2.2.2.2.1 = -4 := congrArg (fun z => z.2.2.1) p4
        have c4 : C.2.2.2.2.2 = -4 := congrArg (fun z => z.2.2.2) p4
        rw [c1, c2, c3, c4]
        exact (ih (k + 1) fu fw _ _ _ _ _ (B + 100) _ _ _ _ r3 (by omega) (by omega) (by omega) (by omega) (by rw [s0]; exact p3) p2 (by omega)).mono (by omega)
      · have c1 : C.2.2.1 = T.2.2 0 := congrArg Prod.fst p5
        have c2 : C.2.2.2.1 = nI k := congrArg (fun z => z.2.1) p5
        have c3 : C.2.2.2.2.1 = pl k := congrArg (fun z => z.2.2.1) p5
        have c4 : C.2.2.2.2.2 = T.2.2 3 := congrArg (fun z => z.2.2.2) p5
        rw [c1, c2, c3, c4]
        obtain ⟨fu, rfl⟩ : ∃ j, fu = j + 1 := ⟨fu - 1, by omega⟩
        obtain ⟨fw, rfl⟩ : ∃ j, fw = j + 1 := ⟨fw - 1, by omega⟩
        refine exit_E (Or.inr p4) (fun e => absurd (s0.symm.trans e) p3) (p2.mono (by omega)) (Or.inr ⟨by rw [s0]; exact p3, p4, s0.symm, ?_, ?_, ?_⟩)
        · rw [show (1 : Int32).toNatClampNeg = 1 from rfl, show (2 : Int32).toNatClampNeg = 2 from rfl, pk_un (by decide), pk_us]
        · rw [show (2 : Int32).toNatClampNeg = 2 from rfl, pk_us]; exact r1
        · rw [show (1 : Int32).toNatClampNeg = 1 from rfl, show (2 : Int32).toNatClampNeg = 2 from rfl, pk_un (by decide), pk_un (by decide)]
    · have d0 : lt k = 115 := d1
      have n1 : ¬ lt k = 112 := by rw [d0]; decide
      rw [if_neg n1, if_neg n1, if_pos d0, if_pos d0]
      have G := hg.shakes (c := f1s k) d2 rfl
      rw [Int32.add_zero]
      exact (ih (k + 1) fu fw _ _ _ _ _ B _ _ _ _ r3 (by omega) (by omega) (by omega) (by omega) hs G.2 (by omega)).mono (by omega)
    · have d0 : lt k = 109 := d1
      have n1 : ¬ lt k = 112 := by rw [d0]; decide
      have n2 : ¬ lt k = 115 := by rw [d0]; decide
      have e5 : q5 = s2s k := g5 n2
      subst e5
      rw [if_neg n1, if_neg n1, if_neg n2, if_neg n2]
      have G := hg.moves (c := f1s k) (q := s2s k) d2 d3 rfl
      rw [Int32.add_zero]
      exact (ih (k + 1) fu fw _ _ _ _ _ B _ _ _ _ r3 (by omega) (by omega) (by omega) (by omega) hs G.2 (by omega)).mono (by omega)
end RNQ
