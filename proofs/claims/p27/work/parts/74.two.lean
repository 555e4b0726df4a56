abbrev RTA : Type := Int32 × (Int32) × (TMa) × (TMa) × (Int32) × (Int32) × (TMa) × (TMa) × (TMa) × (TMa) × (Int32) × (Int32) × (Int32) × (Int32) × (Nat → Int32) × (Int32) × (Int32) × (Int32) × (Nat → Int32) × (Nat → Int32) × (Nat → Int32) × (Nat → Int32) × (Nat → Int32)
abbrev GdR (B : Int) (R : RTA) : Prop := Gd B R.2.1 R.2.2.1 R.2.2.2.1 R.2.2.2.2.1 R.2.2.2.2.2.1 R.2.2.2.2.2.2.1 R.2.2.2.2.2.2.2.1 R.2.2.2.2.2.2.2.2.1 R.2.2.2.2.2.2.2.2.2.1 R.2.2.2.2.2.2.2.2.2.2.1 R.2.2.2.2.2.2.2.2.2.2.2.1 R.2.2.2.2.2.2.2.2.2.2.2.2.1 R.2.2.2.2.2.2.2.2.2.2.2.2.2.1 R.2.2.2.2.2.2.2.2.2.2.2.2.2.2.1 R.2.2.2.2.2.2.2.2.2.2.2.2.2.2.2.1
/-- two rows that differ at most in their first element -/
def alk (f g : Nat → Int32) : Prop := ∀ i, i ≠ 0 → f i = g i
theorem alk_rf {f : Nat → Int32} : alk f f := fun _ _ => rfl
theorem alk_up {f g : Nat → Int32} (h : alk f g) (v : Int32) : upd f (0 : Int32).toNatClampNeg v = upd g (0 : Int32).toNatClampNeg v := funext fun i => by
  by_cases e : i = (0 : Int32).toNatClampNeg
  · subst e; rw [pk_us, pk_us]
  · rw [pk_un e, pk_un e]; exact h i e
theorem alk_u0 {f : Nat → Int32} {v : Int32} : alk f (upd f (0 : Int32).toNatClampNeg v) := fun i hi => (pk_un hi).symm
theorem alk_trans {f g h : Nat → Int32} (a : alk f g) (b : alk g h) : alk f h := fun i hi => (a i hi).trans (b i hi)
theorem alk_symm {f g : Nat → Int32} (a : alk f g) : alk g f := fun i hi => (a i hi).symm
/-- the same answer, the same state but for the pad's length and what an empty pad leaves -/
def twoR (R R1 : RTA) : Prop := R.1 = R1.1 ∧ R.2.1 = R1.2.1 ∧ R.2.2.1 = R1.2.2.1 ∧ R.2.2.2.1 = R1.2.2.2.1 ∧ R.2.2.2.2.1 = R1.2.2.2.2.1 ∧ R.2.2.2.2.2.1 = R1.2.2.2.2.2.1 ∧ R.2.2.2.2.2.2.1 = R1.2.2.2.2.2.2.1 ∧ R.2.2.2.2.2.2.2.1 = R1.2.2.2.2.2.2.2.1 ∧ R.2.2.2.2.2.2.2.2.1 = R1.2.2.2.2.2.2.2.2.1 ∧ R.2.2.2.2.2.2.2.2.2.1 = R1.2.2.2.2.2.2.2.2.2.1 ∧ R.2.2.2.2.2.2.2.2.2.2.1 = R1.2.2.2.2.2.2.2.2.2.2.1 ∧ R.2.2.2.2.2.2.2.2.2.2.2.1 = R1.2.2.2.2.2.2.2.2.2.2.2.1 ∧ R.2.2.2.2.2.2.2.2.2.2.2.2.1 = R1.2.2.2.2.2.2.2.2.2.2.2.2.1 ∧ R.2.2.2.2.2.2.2.2.2.2.2.2.2.1 = R1.2.2.2.2.2.2.2.2.2.2.2.2.2.1 ∧ R.2.2.2.2.2.2.2.2.2.2.2.2.2.2.1 = R1.2.2.2.2.2.2.2.2.2.2.2.2.2.2.1 ∧ R.2.2.2.2.2.2.2.2.2.2.2.2.2.2.2.2.2.2.2.2.1 = R1.2.2.2.2.2.2.2.2.2.2.2.2.2.2.2.2.2.2.2.2.1 ∧ R.2.2.2.2.2.2.2.2.2.2.2.2.2.2.2.2.2.2.2.2.2.1 = R1.2.2.2.2.2.2.2.2.2.2.2.2.2.2.2.2.2.2.2.2.2.1 ∧ R.2.2.2.2.2.2.2.2.2.2.2.2.2.2.2.2.2.2.2.2.2.2 = R1.2.2.2.2.2.2.2.2.2.2.2.2.2.2.2.2.2.2.2.2.2.2 ∧ alk R.2.2.2.2.2.2.2.2.2.2.2.2.2.2.2.2.2.2.1 R1.2.2.2.2.2.2.2.2.2.2.2.2.2.2.2.2.2.2.1 ∧ alk R.2.2.2.2.2.2.2.2.2.2.2.2.2.2.2.2.2.2.2.1 R1.2.2.2.2.2.2.2.2.2.2.2.2.2.2.2.2.2.2.2.1
theorem two_rf {R : RTA} : twoR R R := ⟨rfl, rfl, rfl, rfl, rfl, rfl, rfl, rfl, rfl, rfl, rfl, rfl, rfl, rfl, rfl, rfl, rfl, rfl, alk_rf, alk_rf⟩
theorem two_leaf {r : Int32} {tk : Int32} {N : TMa} {S : TMa} {oo : Int32} {zz : Int32} {M0 : TMa} {M1 : TMa} {M2 : TMa} {M3 : TMa} {rs : Int32} {de : Int32} {pc : Int32} {pg : Int32} {sg : Nat → Int32} {ln : Int32} {po : Int32} {dd : Int32} {lt : Nat → Int32} {pl : Nat → Int32} {f1s : Nat → Int32} {s2s : Nat → Int32} {tms : Nat → Int32} {lnq poq ddq : Int32} {ltq plq : Nat → Int32} (h1 : alk lt ltq) (h2 : alk pl plq) : twoR (r, tk, N, S, oo, zz, M0, M1, M2, M3, rs, de, pc, pg, sg, ln, po, dd, lt, pl, f1s, s2s, tms) (r, tk, N, S, oo, zz, M0, M1, M2, M3, rs, de, pc, pg, sg, lnq, poq, ddq, ltq, plq, f1s, s2s, tms) := ⟨rfl, rfl, rfl, rfl, rfl, rfl, rfl, rfl, rfl, rfl, rfl, rfl, rfl, rfl, rfl, rfl, rfl, rfl, h1, h2⟩
theorem two_ite {c : Prop} {inst : Decidable c} {a b a1 b1 : RTA} (h1 : c → twoR a a1) (h2 : ¬ c → twoR b b1) : twoR (if c then a else b) (if c then a1 else b1) := by
  by_cases h : c
  · rw [if_pos h, if_pos h]; exact h1 h
  · rw [if_neg h, if_neg h]; exact h2 h
theorem two_kb {α : Type} {x : α} {f g : α → RTA} (h : ∀ z, twoR (f z) (g z)) : twoR (kb x f) (kb x g) := h x
theorem two_kb2 {α : Type} {x y : α} {f g : α → RTA} (e : x = y) (h : ∀ z, twoR (f z) (g z)) : twoR (kb x f) (kb y g) := by rw [e]; exact h y
theorem two_clr {ln lnq : Int32} {f g : Int32 × Int32 → RTA} (h : twoR (f (ln, 0)) (g (lnq, 0))) : twoR (kb (sh_X4_clear ln) f) (kb (sh_X4_clear lnq) g) := h
theorem gdr_ite {B : Int} {c : Prop} {inst : Decidable c} {a b : RTA} (h1 : c → GdR B a) (h2 : ¬ c → GdR B b) : GdR B (if c then a else b) := by
  by_cases h : c
  · rw [if_pos h]; exact h1 h
  · rw [if_neg h]; exact h2 h
theorem gdr_kb {B : Int} {α : Type} {x : α} {f : α → RTA} (h : ∀ z, z = x → GdR B (f z)) : GdR B (kb x f) := h x rfl
theorem gdr_app {B : Int} {sg : Nat → Int32} {ln x : Int32} {f : Int32 × (Nat → Int32) × Int32 → RTA} (hp : padr sg sg ln) (h : ∀ z : Int32 × (Nat → Int32) × Int32, padr z.2.1 z.2.1 z.2.2 → GdR B (f z)) : GdR B (kb (sh_X4_append sg ln x) f) := h _ (padr_app hp rfl)
theorem deed_two {sg lt pl ltq plq f1s s2s tms : Nat → Int32} {ln : Int32} (h1 : alk lt ltq) (h2 : alk pl plq) : sh_X2_readDeed sg ln 0 0 lt pl f1s s2s tms = sh_X2_readDeed sg ln 0 0 ltq plq f1s s2s tms := by
  unfold sh_X2_readDeed
  rw [if_pos (by decide), if_pos (by decide)]
  simp only [alk_up h1, alk_up h2]
theorem fault_two {sg lt pl ltq plq f1s s2s tms : Nat → Int32} {ln : Int32} (h1 : alk lt ltq) (h2 : alk pl plq) : sh_X4_fault sg ln lt pl f1s s2s tms = sh_X4_fault sg ln ltq plq f1s s2s tms := by
  unfold sh_X4_fault sh_X2_findFault
  rw [deed_two h1 h2]
set_option maxHeartbeats 40000000 in
set_option maxRecDepth 100000 in
theorem lp_two {tk : Int32} {N : TMa} {S : TMa} {oo : Int32} {zz : Int32} {M0 : TMa} {M1 : TMa} {M2 : TMa} {M3 : TMa} {rs : Int32} {de : Int32} {pc : Int32} {pg : Int32} {sg : Nat → Int32} {ln : Int32} {po : Int32} {dd : Int32} {lt : Nat → Int32} {pl : Nat → Int32} {f1s : Nat → Int32} {s2s : Nat → Int32} {tms : Nat → Int32} {lnq poq ddq : Int32} {ltq plq : Nat → Int32} {x1 : Int32} (h1 : alk lt ltq) (h2 : alk pl plq) : ∀ (fu : Nat) (n3 n3q k4 : Int32) (l_sg : Nat → Int32) (l_ln : Int32), (n3 = n3q ∨ ¬ (1 + ((x1 / 32) - (x1 / 32) / 4 * 4)) ≤ k4) → twoR (lp_L_acts_248 tk N S oo zz M0 M1 M2 M3 rs de pc pg po dd lt pl f1s s2s tms x1 fu n3 k4 l_sg l_ln) (lp_L_acts_248 tk N S oo zz M0 M1 M2 M3 rs de pc pg poq ddq ltq plq f1s s2s tms x1 fu n3q k4 l_sg l_ln) := by
  intro fu
  induction fu with
  | zero => intro n3 n3q k4 l_sg l_ln _; rw [lp_L_acts_248, lp_L_acts_248]; exact two_rf
  | succ fu ih =>
    intro n3 n3q k4 l_sg l_ln hn
    rw [lp_L_acts_248, lp_L_acts_248]
    refine two_ite (fun c => ?_) (fun c => ?_)
    · obtain rfl := hn.resolve_right (fun h => h c)
      refine two_ite (fun _ => ?_) (fun _ => ?_)
      · with_reducible exact two_leaf h1 h2
      · refine two_kb2 (fault_two h1 h2) (fun z => ?_)
        with_reducible exact two_rf
    · clear hn
      repeat' first | with_reducible exact ih _ _ _ _ _ (Or.inl rfl) | with_reducible refine two_ite (fun _ => ?_) (fun _ => ?_) | with_reducible refine two_kb (fun z => ?_)
set_option maxHeartbeats 40000000 in
set_option maxRecDepth 100000 in
theorem lp_gd {tk : Int32} {N : TMa} {S : TMa} {oo : Int32} {zz : Int32} {M0 : TMa} {M1 : TMa} {M2 : TMa} {M3 : TMa} {rs : Int32} {de : Int32} {pc : Int32} {pg : Int32} {sg : Nat → Int32} {ln : Int32} {po : Int32} {dd : Int32} {lt : Nat → Int32} {pl : Nat → Int32} {f1s : Nat → Int32} {s2s : Nat → Int32} {tms : Nat → Int32} {x1 : Int32} {B : Int} (h : Gd B tk N S oo zz M0 M1 M2 M3 rs de pc pg sg ln) (hB : B ≤ 3900000) : ∀ (fu : Nat) (n3 k4 : Int32) (l_sg : Nat → Int32) (l_ln : Int32), ((1 + ((x1 / 32) - (x1 / 32) / 4 * 4)).toInt - k4.toInt).toNat < fu → padr l_sg l_sg l_ln → GdR (B + 10000) (lp_L_acts_248 tk N S oo zz M0 M1 M2 M3 rs de pc pg po dd lt pl f1s s2s tms x1 fu n3 k4 l_sg l_ln) := by
  intro fu
  induction fu with
  | zero => intro n3 k4 l_sg l_ln hmu; exact absurd hmu (Nat.not_lt_zero _)
  | succ fu ih =>
    intro n3 k4 l_sg l_ln hmu hp
    rw [lp_L_acts_248]
    refine gdr_ite (fun c => ?_) (fun c => ?_)
    · refine gdr_ite (fun _ => ?_) (fun _ => ?_)
      · exact gd_mono (gd_pads h hp) (by omega)
      · refine gdr_kb (fun z hz => ?_)
        refine gdr_ite (fun _ => ?_) (fun _ => ?_)
        · refine gdr_kb (fun y hy => ?_)
          exact gd_run (gd_pads h hp) hB hy
        · exact gd_mono (gd_pads h hp) (by omega)
    · have m := k_mu hmu c
      repeat' first | with_reducible exact ih _ _ _ _ m (by assumption) | with_reducible refine gdr_ite (fun _ => ?_) (fun _ => ?_) | with_reducible refine gdr_app (by assumption) (fun z hz => ?_) | with_reducible refine gdr_kb (fun z _ => ?_)
set_option maxHeartbeats 40000000 in
set_option maxRecDepth 100000 in
theorem acts_gd {tk : Int32} {N : TMa} {S : TMa} {oo : Int32} {zz : Int32} {M0 : TMa} {M1 : TMa} {M2 : TMa} {M3 : TMa} {rs : Int32} {de : Int32} {pc : Int32} {pg : Int32} {sg : Nat → Int32} {ln : Int32} {po : Int32} {dd : Int32} {lt : Nat → Int32} {pl : Nat → Int32} {f1s : Nat → Int32} {s2s : Nat → Int32} {tms : Nat → Int32} {x1 : Int32} {B : Int} (h : Gd B tk N S oo zz M0 M1 M2 M3 rs de pc pg sg ln) (hB : B ≤ 3900000) : GdR (B + 10000) (sh_L_acts tk N S oo zz M0 M1 M2 M3 rs de pc pg sg ln po dd lt pl f1s s2s tms x1) := by
  unfold sh_L_acts
  repeat' first | with_reducible refine gdr_ite (fun _ => ?_) (fun _ => ?_) | with_reducible refine gdr_kb (fun z hz => ?_)
  all_goals first
    | with_reducible exact gd_shake h (by assumption)
    | with_reducible exact gd_move h (by assumption)
    | with_reducible exact gd_takeOut h (by assumption)
    | with_reducible exact gd_refill h (by assumption)
    | with_reducible exact gd_set h (by assumption)
    | with_reducible exact gd_undo h (by assumption)
    | with_reducible exact gd_save h (by assumption)
    | with_reducible exact gd_restore h (by assumption)
    | with_reducible exact gd_print h hB (by assumption)
    | (refine lp_gd h hB _ _ _ _ _ (Nat.lt_succ_self _) ?_
       rename_i z hz
       have e : z.2 = 0 := by rw [hz]; rfl
       rw [e]; exact padr_0)
set_option maxHeartbeats 40000000 in
set_option maxRecDepth 100000 in
theorem acts_two {tk : Int32} {N : TMa} {S : TMa} {oo : Int32} {zz : Int32} {M0 : TMa} {M1 : TMa} {M2 : TMa} {M3 : TMa} {rs : Int32} {de : Int32} {pc : Int32} {pg : Int32} {sg : Nat → Int32} {ln : Int32} {po : Int32} {dd : Int32} {lt : Nat → Int32} {pl : Nat → Int32} {f1s : Nat → Int32} {s2s : Nat → Int32} {tms : Nat → Int32} {lnq poq ddq : Int32} {ltq plq : Nat → Int32} {x1 : Int32} (h1 : alk lt ltq) (h2 : alk pl plq) (hx : ¬ x1 < 0) : twoR (sh_L_acts tk N S oo zz M0 M1 M2 M3 rs de pc pg sg ln po dd lt pl f1s s2s tms x1) (sh_L_acts tk N S oo zz M0 M1 M2 M3 rs de pc pg sg lnq poq ddq ltq plq f1s s2s tms x1) := by
  have ht : ¬ (1 + ((x1 / 32) - (x1 / 32) / 4 * 4)) ≤ 0 := by
    rw [Int32.lt_iff_toInt_lt] at hx
    obtain ⟨n, hn, rfl⟩ := ige_of (x := x1) (by have z : (0 : Int32).toInt = 0 := rfl; omega)
    rw [show (32 : Int32) = nI 32 from rfl, pk_div hn (by decide) (by decide), show (4 : Int32) = nI 4 from rfl, pk_rem (Nat.lt_of_le_of_lt (Nat.div_le_self _ _) hn) (by decide) (by decide), show (1 : Int32) = nI 1 from rfl, nI_add, Int32.le_iff_toInt_le, nI_toInt (by have := Nat.mod_lt (n / 32) (show 0 < 4 by decide); omega)]
    have z : (0 : Int32).toInt = 0 := rfl
    omega
  unfold sh_L_acts
  repeat' first | with_reducible refine two_ite (fun _ => ?_) (fun _ => ?_) | with_reducible refine two_kb (fun z => ?_) | with_reducible exact two_leaf h1 h2
  all_goals (refine two_clr ?_; exact lp_two (sg := sg) (ln := ln) (lnq := lnq) h1 h2 _ _ _ _ _ _ (Or.inr ht))
