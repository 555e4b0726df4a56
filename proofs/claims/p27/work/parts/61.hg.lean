section HG0
variable {se : Nat → Int32} {need sh : Int32}
theorem wbd01 (hi need : Int32) : sh_X1_wouldBeDark hi need = 0 ∨ sh_X1_wouldBeDark hi need = 1 := by
  unfold sh_X1_wouldBeDark
  split
  · exact Or.inl rfl
  · split
    · exact Or.inl rfl
    · exact Or.inr rfl
theorem wbd_ge {hi need : Int32} (h : ¬ sh_X1_wouldBeDark hi need = 0) : 0 < hi.toInt ∧ need.toInt ≤ hi.toInt := by
  unfold sh_X1_wouldBeDark at h
  have z : (0 : Int32).toInt = 0 := rfl
  split at h
  · exact absurd rfl h
  · rename_i a
    split at h
    · exact absurd rfl h
    · rename_i b
      rw [Int32.le_iff_toInt_le] at a
      rw [Int32.lt_iff_toInt_lt] at b
      omega
theorem up_le {n most : Int32} (a : ¬ most ≤ n) : (n + 1).toInt = n.toInt + 1 ∧ (n + 1).toInt ≤ most.toInt := by
  rw [Int32.le_iff_toInt_le] at a
  have h1 := most.toInt_lt
  have h2 := n.le_toInt
  have o : (1 : Int32).toInt = 1 := rfl
  have e : (n + 1).toInt = n.toInt + 1 := by
    rw [Int32.toInt_add, o]
    exact Int.bmod_eq_of_le (by omega) (by omega)
  omega
theorem pl_st (fu : Nat) (most hi lo n : Int32) : lp_X1_pagesLasting_19 se need sh most (fu + 1) hi lo n = if most ≤ n then most else (kb (α := (Int32) × (Int32)) (if sh = 0 then (hi, lo) else (if (sh_X1_wouldBeDark hi need) = 0 then (if (sh_X1_wouldBeDark (hi + (lo / 2)) need) = 0 then (hi, lo) else ((hi + (lo / 2)), (lo - (lo / 2)))) else (hi, lo))) (fun z => (if (sh_X1_wouldBeDark z.1 need) = 0 then n else (lp_X1_pagesLasting_19 se need sh most fu ((z.1 - need) - (sh_X4_share (z.1 - need) (se (1 : Int32).toNatClampNeg))) (z.2 + (sh_X4_share (z.1 - need) (se (1 : Int32).toNatClampNeg))) (n + 1))))) := by
  rw [lp_X1_pagesLasting_19]
/-- how many pages: at least those so far, at most the most -/
theorem pl_rg : ∀ (fu : Nat) (most hi lo n : Int32), n.toInt ≤ most.toInt → (most.toInt - n.toInt).toNat < fu → n.toInt ≤ (lp_X1_pagesLasting_19 se need sh most fu hi lo n).toInt ∧ (lp_X1_pagesLasting_19 se need sh most fu hi lo n).toInt ≤ most.toInt := by
  intro fu
  induction fu with
  | zero => intro most hi lo n _ h; exact absurd h (Nat.not_lt_zero _)
  | succ fu ih =>
    intro most hi lo n hm hf
    rw [pl_st]
    by_cases a : most ≤ n
    · rw [if_pos a]; exact ⟨hm, Int.le_refl _⟩
    · rw [if_neg a]
      have u := up_le a
      refine kb_ind (P := fun r : Int32 => n.toInt ≤ r.toInt ∧ r.toInt ≤ most.toInt) (fun z hz => ?_)
      split
      · exact ⟨Int.le_refl _, hm⟩
      · have := ih most ((z.1 - need) - (sh_X4_share (z.1 - need) (se (1 : Int32).toNatClampNeg))) (z.2 + (sh_X4_share (z.1 - need) (se (1 : Int32).toNatClampNeg))) (n + 1) u.2 (by omega)
        omega
/-- with shaking a cup lasts no less -/
theorem pl_with : ∀ (fu : Nat) (most hi lo n : Int32), n.toInt ≤ most.toInt → (most.toInt - n.toInt).toNat < fu → (lp_X1_pagesLasting_19 se need 0 most fu hi lo n).toInt ≤ (lp_X1_pagesLasting_19 se need 1 most fu hi lo n).toInt := by
  intro fu
  induction fu with
  | zero => intro most hi lo n _ h; exact absurd h (Nat.not_lt_zero _)
  | succ fu ih =>
    intro most hi lo n hm hf
    have R := pl_rg (se := se) (need := need) (sh := 1) (fu + 1) most hi lo n hm hf
    by_cases a : most ≤ n
    · rw [pl_st, pl_st, if_pos a, if_pos a]; exact Int.le_refl _
    · have u := up_le a
      by_cases d : sh_X1_wouldBeDark hi need = 0
      · have e : lp_X1_pagesLasting_19 se need 0 most (fu + 1) hi lo n = n := by
          rw [pl_st, if_neg a, if_pos rfl]
          simp only [kb]
          rw [if_pos d]
        rw [e]; exact R.1
      · rw [pl_st, pl_st, if_neg a, if_neg a, if_pos rfl, if_neg (show ¬ (1 : Int32) = 0 by decide), if_neg d]
        simp only [kb]
        simp only [if_neg d]
        with_reducible exact ih _ _ _ _ u.2 (by omega)
/-- the first so many pages are the same, whatever the most -/
theorem pl_min : ∀ (fu fw : Nat) (m most hi lo n : Int32), n.toInt ≤ m.toInt → m.toInt ≤ most.toInt → (m.toInt - n.toInt).toNat < fu → (most.toInt - n.toInt).toNat < fw → ((lp_X1_pagesLasting_19 se need sh m fu hi lo n).toInt < m.toInt ↔ (lp_X1_pagesLasting_19 se need sh most fw hi lo n).toInt < m.toInt) := by
  intro fu
  induction fu with
  | zero => intro fw m most hi lo n _ _ h; exact absurd h (Nat.not_lt_zero _)
  | succ fu ih =>
    intro fw m most hi lo n hm hM hf hw
    obtain ⟨fw, rfl⟩ : ∃ k, fw = k + 1 := ⟨fw - 1, by omega⟩
    by_cases a : m ≤ n
    · have R := pl_rg (se := se) (need := need) (sh := sh) (fw + 1) most hi lo n (by omega) hw
      rw [pl_st, if_pos a]
      rw [Int32.le_iff_toInt_le] at a
      constructor <;> intro h <;> omega
    · have u := up_le a
      have a2 : ¬ most ≤ n := by rw [Int32.le_iff_toInt_le] at a ⊢; omega
      rw [pl_st, pl_st, if_neg a, if_neg a2]
      refine kb_ind (P := fun r : Int32 => r.toInt < m.toInt ↔ _) (fun z hz => ?_)
      refine kb_ind (P := fun r : Int32 => _ ↔ r.toInt < m.toInt) (fun z2 hz2 => ?_)
      rw [← hz] at hz2
      subst hz2
      split
      · exact Iff.rfl
      · exact ih _ _ _ _ _ _ u.2 hM (by omega) (by omega)
theorem share_bd {a b : Int32} (h : 0 ≤ a.toInt) (hb : 0 < b.toInt) : 0 ≤ (sh_X4_share a b).toInt ∧ (sh_X4_share a b).toInt ≤ a.toInt := by
  rw [q_share hb]
  exact idiv_bd h hb
/-- what is left behind dark pages is no less than 0 -/
theorem hp_ge (hs : 0 < (se (1 : Int32).toNatClampNeg).toInt) (hn : 0 ≤ need.toInt) : ∀ (fu fw : Nat) (most hi lo n : Int32), 0 ≤ hi.toInt → hi.toInt ≤ 6000 → n.toInt ≤ most.toInt → (most.toInt - n.toInt).toNat < fu → (most.toInt - n.toInt).toNat < fw → ¬ (lp_X1_pagesLasting_19 se need 0 most fu hi lo n).toInt < most.toInt → 0 ≤ (lp_X1_handPageByPage_11 se need most fw hi n).toInt := by
  intro fu
  induction fu with
  | zero => intro fw most hi lo n _ _ _ h; exact absurd h (Nat.not_lt_zero _)
  | succ fu ih =>
    intro fw most hi lo n h0 h1 hm hf hw
    obtain ⟨fw, rfl⟩ : ∃ k, fw = k + 1 := ⟨fw - 1, by omega⟩
    rw [lp_X1_handPageByPage_11, pl_st]
    by_cases a : most ≤ n
    · rw [if_pos a, if_pos a]; exact fun _ => h0
    · have u := up_le a
      rw [if_neg a, if_neg a, if_pos rfl]
      simp only [kb]
      by_cases d : sh_X1_wouldBeDark hi need = 0
      · rw [if_pos d]
        intro g
        rw [Int32.le_iff_toInt_le] at a
        omega
      · rw [if_neg d]
        have w := wbd_ge d
        have e : (hi - need).toInt = hi.toInt - need.toInt := isub_to (by omega) (by omega)
        have b := share_bd (a := hi - need) (by omega) hs
        have e2 := isub_to (x := hi - need) (y := sh_X4_share (hi - need) (se (1 : Int32).toNatClampNeg)) (by omega) (by omega)
        exact ih fw most _ _ (n + 1) (by omega) (by omega) u.2 (by omega) (by omega)
/-- both ways to tell it -/
theorem hp_two {ha : Nat → Int32} {c : Int32} : ∀ (fu : Nat) (most hi n us st : Int32), n.toInt ≤ most.toInt → (most.toInt - n.toInt).toNat < fu → ha c.toNatClampNeg - us - st = hi → lp_X1_handPageByPage_11 se need most fu hi n = lp_X1_handAddedUp_17 se ha c need most fu us st n := by
  intro fu
  induction fu with
  | zero => intro most hi n us st _ h; exact absurd h (Nat.not_lt_zero _)
  | succ fu ih =>
    intro most hi n us st hm hf hh
    rw [lp_X1_handPageByPage_11, lp_X1_handAddedUp_17]
    by_cases a : most ≤ n
    · rw [if_pos a, if_pos a]; exact hh.symm
    · have u := up_le a
      rw [if_neg a, if_neg a]
      have e : ha c.toNatClampNeg - (us + need) - st = hi - need := by rw [addup, hh]
      rw [e]
      exact ih _ _ _ _ _ u.2 (by omega) (by rw [addup2, e])
end HG0
section HG
variable {N : TMa} {oo zz ln k q d : Int32} {M0 M1 M2 M3 : TMa}
theorem cup_at {w : Int32} (hk : vp_in k 4) : sh_X4_cup N k w = (if w = 0 then (N.2.1 k.toNatClampNeg) else (if w = 1 then (N.2.2.1 k.toNatClampNeg) else (if w = 2 then (N.2.2.2.1 k.toNatClampNeg) else (if w = 3 then (N.2.2.2.2.1 k.toNatClampNeg) else (if w = 4 then (sh_X1_printerOf N.2.2.2.2.2.1 k) else (if w = 5 then (sh_X1_scaleTells N.1 N.2.2.1 N.2.2.2.1 k) else (if w = 6 then (sh_X1_toldLeft N.1 N.2.2.1 N.2.2.2.1 N.2.2.2.2.1 k) else (if w = 7 then (((sh_X1_toldLeft N.1 N.2.2.1 N.2.2.2.1 N.2.2.2.2.1 k) - (sh_X1_toner N.2.2.1 N.2.2.2.1 k)) + 100000) else (-1 : Int32))))))))) := by
  unfold sh_X4_cup
  rw [if_neg (by rw [isCup_in hk]; decide)]
theorem cup_0 (hk : vp_in k 4) : sh_X4_cup N k 0 = N.2.1 k.toNatClampNeg := by rw [cup_at hk]; rfl
theorem cup_1 (hk : vp_in k 4) : sh_X4_cup N k 1 = N.2.2.1 k.toNatClampNeg := by rw [cup_at hk]; rfl
theorem cup_2 (hk : vp_in k 4) : sh_X4_cup N k 2 = N.2.2.2.1 k.toNatClampNeg := by rw [cup_at hk]; rfl
theorem cup_3 (hk : vp_in k 4) : sh_X4_cup N k 3 = N.2.2.2.2.1 k.toNatClampNeg := by rw [cup_at hk]; rfl
theorem cup_4 (hk : vp_in k 4) : sh_X4_cup N k 4 = sh_X1_printerOf N.2.2.2.2.2.1 k := by rw [cup_at hk]; rfl
theorem cup_5 (hk : vp_in k 4) : sh_X4_cup N k 5 = sh_X1_scaleTells N.1 N.2.2.1 N.2.2.2.1 k := by rw [cup_at hk]; rfl
theorem cup_6 (hk : vp_in k 4) : sh_X4_cup N k 6 = sh_X1_toldLeft N.1 N.2.2.1 N.2.2.2.1 N.2.2.2.2.1 k := by rw [cup_at hk]; rfl
theorem cup_7 (hk : vp_in k 4) : sh_X4_cup N k 7 = sh_X1_toldLeft N.1 N.2.2.1 N.2.2.2.1 N.2.2.2.2.1 k - sh_X1_toner N.2.2.1 N.2.2.2.1 k + 100000 := by rw [cup_at hk]; rfl
theorem cnt_8 : sh_X4_count N zz ln 8 = N.1 0 := rfl
theorem cnt_9 : sh_X4_count N zz ln 9 = N.1 1 := rfl
theorem cnt_10 : sh_X4_count N zz ln 10 = N.1 2 := rfl
theorem cnt_11 : sh_X4_count N zz ln 11 = N.1 3 := rfl
theorem cnt_13 : sh_X4_count N zz ln 13 = zz := rfl
theorem kk4 (hk : vp_in k 4) : k.toNatClampNeg < 4 := (k_cl hk).1
theorem hg_15 (g : okN N) : ¬ sh_X4_count N zz ln 8 ≤ 0 := by
  have := g.2.2.2.2.1
  have z : (0 : Int32).toInt = 0 := rfl
  rw [cnt_8, Int32.le_iff_toInt_le]; omega
theorem hg_26 (g : okN N) : ¬ 6 ≤ sh_X4_count N zz ln 8 := by
  have := g.2.2.2.2.1
  have z : (6 : Int32).toInt = 6 := rfl
  rw [cnt_8, Int32.le_iff_toInt_le]; omega
theorem hg_36 (g : okN N) : ¬ sh_X4_count N zz ln 9 ≤ 1 := by
  have := g.2.2.2.2.2.1
  have z : (1 : Int32).toInt = 1 := rfl
  rw [cnt_9, Int32.le_iff_toInt_le]; omega
theorem hg_47 (g : okN N) : ¬ 51 ≤ sh_X4_count N zz ln 9 := by
  have := g.2.2.2.2.2.1
  have z : (51 : Int32).toInt = 51 := rfl
  rw [cnt_9, Int32.le_iff_toInt_le]; omega
theorem hg_56 (g : okN N) : ¬ sh_X4_count N zz ln 10 < 0 := by
  have := g.2.2.2.2.2.2.1
  have z : (0 : Int32).toInt = 0 := rfl
  rw [cnt_10, Int32.lt_iff_toInt_lt]; omega
theorem hg_66 (g : okN N) : ¬ 2 ≤ sh_X4_count N zz ln 10 := by
  have := g.2.2.2.2.2.2.1
  have z : (2 : Int32).toInt = 2 := rfl
  rw [cnt_10, Int32.le_iff_toInt_le]; omega
theorem hg_75 (g : okN N) : ¬ sh_X4_count N zz ln 11 ≤ 0 := by
  have := g.2.2.2.2.2.2.2.1
  have z : (0 : Int32).toInt = 0 := rfl
  rw [cnt_11, Int32.le_iff_toInt_le]; omega
theorem hg_87 (g : okN N) : ¬ 501 ≤ sh_X4_count N zz ln 11 := by
  have := g.2.2.2.2.2.2.2.1
  have z : (501 : Int32).toInt = 501 := rfl
  rw [cnt_11, Int32.le_iff_toInt_le]; omega
theorem hg_n11 (g : okN N) : ¬ sh_X4_count N zz ln 11 = 0 := fun e => hg_75 (zz := zz) (ln := ln) g (by rw [e]; decide)
theorem hg_153 (g : okN N) (hk : vp_in k 4) : ¬ sh_X4_cup N k 0 < 0 := by
  have := g.1 _ (kk4 hk)
  have z : (0 : Int32).toInt = 0 := rfl
  rw [cup_0 hk, Int32.lt_iff_toInt_lt]; omega
theorem hg_164 (g : okN N) (hk : vp_in k 4) : ¬ 3 ≤ sh_X4_cup N k 0 := by
  have := g.1 _ (kk4 hk)
  have z : (3 : Int32).toInt = 3 := rfl
  rw [cup_0 hk, Int32.le_iff_toInt_le]; omega
theorem hg_174 (g : okN N) (hk : vp_in k 4) : ¬ sh_X4_cup N k 1 < 0 := by
  have := g.2.1 _ (kk4 hk)
  have z : (0 : Int32).toInt = 0 := rfl
  rw [cup_1 hk, Int32.lt_iff_toInt_lt]; omega
theorem hg_184 (g : okN N) (hk : vp_in k 4) : ¬ sh_X4_cup N k 2 < 0 := by
  have := g.2.1 _ (kk4 hk)
  have z : (0 : Int32).toInt = 0 := rfl
  rw [cup_2 hk, Int32.lt_iff_toInt_lt]; omega
theorem ton_to (g : okN N) (hk : vp_in k 4) : (sh_X4_cup N k 1 + sh_X4_cup N k 2).toInt = (N.2.2.1 k.toNatClampNeg).toInt + (N.2.2.2.1 k.toNatClampNeg).toInt := by
  have := g.2.1 _ (kk4 hk)
  rw [cup_1 hk, cup_2 hk, iadd_to (by omega) (by omega)]
theorem hg_192 (g : okN N) (hk : vp_in k 4) : ¬ 6000 < sh_X4_cup N k 1 + sh_X4_cup N k 2 := by
  have := g.2.1 _ (kk4 hk)
  have z : (6000 : Int32).toInt = 6000 := rfl
  rw [Int32.lt_iff_toInt_lt, ton_to g hk]; omega
theorem hg_202 (g : okN N) (hk : vp_in k 4) : ¬ sh_X4_cup N k 3 < 0 := by
  have := g.2.1 _ (kk4 hk)
  have z : (0 : Int32).toInt = 0 := rfl
  rw [cup_3 hk, Int32.lt_iff_toInt_lt]; omega
theorem hg_215 (g : okN N) (hk : vp_in k 4) : ¬ 4000 < sh_X4_cup N k 3 := by
  have := g.2.1 _ (kk4 hk)
  have z : (4000 : Int32).toInt = 4000 := rfl
  rw [cup_3 hk, Int32.lt_iff_toInt_lt]; omega
/-- toner and scale as natural numbers -/
theorem scl_nI (g : okN N) (hk : vp_in k 4) : ∃ t m : Nat, t ≤ 6000 ∧ 1 ≤ m ∧ m ≤ 500 ∧ sh_X4_cup N k 1 + sh_X4_cup N k 2 = nI t ∧ N.1 3 = nI m ∧ sh_X4_cup N k 5 = nI (t / m * m) := by
  have a := g.2.1 _ (kk4 hk)
  have b := g.2.2.2.2.2.2.2.1
  have e := ton_to g hk
  obtain ⟨t, ht, et⟩ := ige_of (x := sh_X4_cup N k 1 + sh_X4_cup N k 2) (by omega)
  obtain ⟨m, hm, em⟩ := ige_of (x := N.1 3) (by omega)
  have tt := nI_toInt ht
  have tm := nI_toInt hm
  rw [← et] at tt
  rw [← em] at tm
  refine ⟨t, m, by omega, by omega, by omega, et, em, ?_⟩
  rw [cup_5 hk]
  unfold sh_X1_scaleTells
  have e1 : sh_X1_toner N.2.2.1 N.2.2.2.1 k = nI t := by rw [← et, cup_1 hk, cup_2 hk]; rfl
  rw [e1, show N.1 (3 : Int32).toNatClampNeg = nI m from em, q_share (by rw [nI_toInt hm]; omega), pk_div ht (by omega) hm, pk_mul]
theorem hg_222 (g : okN N) (hk : vp_in k 4) : ¬ sh_X4_cup N k 1 + sh_X4_cup N k 2 < sh_X4_cup N k 5 := by
  obtain ⟨t, m, h1, h2, h3, e1, e2, e3⟩ := scl_nI g hk
  have := Nat.div_mul_le_self t m
  rw [e1, e3, Int32.lt_iff_toInt_lt, nI_toInt (by omega), nI_toInt (by omega)]
  omega
theorem nI_sub {a b : Nat} (h : b ≤ a) : nI a - nI b = nI (a - b) := by
  have e : nI (a - b) + nI b = nI a := by rw [nI_add, Nat.sub_add_cancel h]
  rw [← e, Int32.add_sub_cancel]
theorem hg_236 (g : okN N) (hk : vp_in k 4) : ¬ sh_X4_count N zz ln 11 ≤ sh_X4_cup N k 1 + sh_X4_cup N k 2 - sh_X4_cup N k 5 := by
  obtain ⟨t, m, h1, h2, h3, e1, e2, e3⟩ := scl_nI g hk
  have a := Nat.div_mul_le_self t m
  have b := Nat.mod_lt t (show 0 < m by omega)
  have c := Nat.div_add_mod t m
  rw [Nat.mul_comm] at c
  rw [cnt_11, e1, e2, e3, nI_sub a, Int32.le_iff_toInt_le, nI_toInt (by omega), nI_toInt (by omega)]
  omega
theorem hg_248 (g : okN N) (hk : vp_in k 4) : sh_X4_cup N k 5 - sh_X4_cup N k 5 / sh_X4_count N zz ln 11 * sh_X4_count N zz ln 11 = 0 := by
  obtain ⟨t, m, h1, h2, h3, e1, e2, e3⟩ := scl_nI g hk
  have a := Nat.div_mul_le_self t m
  rw [cnt_11, e2, e3, pk_div (by omega) (by omega) (by omega), Nat.mul_div_cancel _ (by omega), pk_mul, Int32.sub_self]
theorem hg_271 (hk : vp_in k 4) : sh_X4_cup N k 6 = (sh_X4_cup N k 5 + sh_X4_cup N k 3) / 2 := by
  rw [cup_6 hk, cup_5 hk, cup_3 hk]; rfl
theorem hg_296 (hk : vp_in k 4) : sh_X4_cup N k 7 = sh_X4_cup N k 6 - (sh_X4_cup N k 1 + sh_X4_cup N k 2) + 100000 := by
  rw [cup_7 hk, cup_6 hk, cup_1 hk, cup_2 hk]; rfl
theorem prn_of {ci : Nat → Int32} {x : Int32} : sh_X1_printerOf ci x = -4 ∨ (sh_X1_printerOf ci x = 0 ∧ ci 0 = x) ∨ (sh_X1_printerOf ci x = 1 ∧ ci 1 = x) := by
  unfold sh_X1_printerOf
  split
  · rename_i h; exact Or.inr (Or.inl ⟨rfl, h⟩)
  · split
    · rename_i h; exact Or.inr (Or.inr ⟨rfl, h⟩)
    · exact Or.inl rfl
theorem hg_308 (hk : vp_in k 4) (c : ¬ sh_X4_cup N k 4 = -4) : ¬ sh_X4_cup N k 4 < 0 := by
  rw [cup_4 hk] at *
  rcases prn_of (ci := N.2.2.2.2.2.1) (x := k) with e | ⟨e, _⟩ | ⟨e, _⟩
  · exact absurd e c
  · rw [e]; decide
  · rw [e]; decide
theorem hg_314 (hk : vp_in k 4) (c : ¬ sh_X4_cup N k 4 = -4) : ¬ 2 ≤ sh_X4_cup N k 4 := by
  rw [cup_4 hk] at *
  rcases prn_of (ci := N.2.2.2.2.2.1) (x := k) with e | ⟨e, _⟩ | ⟨e, _⟩
  · exact absurd e c
  · rw [e]; decide
  · rw [e]; decide
theorem hg_326 (hk : vp_in k 4) (c : ¬ sh_X4_cup N k 4 = -4) : sh_X4_printer N (sh_X4_cup N k 4) 0 = k := by
  rw [cup_4 hk] at *
  rcases prn_of (ci := N.2.2.2.2.2.1) (x := k) with e | ⟨e, h⟩ | ⟨e, h⟩
  · exact absurd e c
  · rw [e]; exact h
  · rw [e]; exact h
theorem hg_refill (hk : vp_in k 4) (c : ¬ sh_X4_cup N k 4 = -4) : sh_X4_refill N oo zz M0 M1 M2 M3 k 1 = (-2, N, oo, zz, M0, M1, M2, M3) := by
  rw [cup_4 hk] at c
  unfold sh_X4_refill
  rw [if_neg (by rw [isCup_in hk]; decide), if_neg (by decide), if_pos (by decide), if_neg]
  rcases prn_of (ci := N.2.2.2.2.2.1) (x := k) with e | ⟨e, h⟩ | ⟨e, h⟩
  · exact absurd e c
  · rw [e]; decide
  · rw [e]; decide
/-! pages -/
theorem dots_1 {d : Int32} (h : dotsOK d) : ¬ sh_X4_isDots d = 0 := by
  unfold dotsOK at h
  unfold sh_X4_isDots
  have o : (1 : Int32).toInt = 1 := rfl
  have n : (999 : Int32).toInt = 999 := rfl
  rw [if_neg (by rw [Int32.lt_iff_toInt_lt]; omega), if_neg (by rw [Int32.lt_iff_toInt_lt]; omega)]
  decide
theorem need_ge {ki : Nat → Int32} {c d k : Int32} (hd : dotsOK d) (h1 : 1 ≤ k.toInt) (h2 : k.toInt ≤ 5) : 0 ≤ (sh_X1_tonerFor ki c d k).toInt := by
  obtain ⟨a, ha, rfl⟩ := ige_of (x := d) (by have := hd.1; omega)
  obtain ⟨b, hb, rfl⟩ := ige_of (x := k) (by omega)
  unfold dotsOK at hd
  rw [nI_toInt ha] at hd
  rw [nI_toInt hb] at h1 h2
  have m : a * b ≤ 999 * 5 := Nat.mul_le_mul (by omega) (by omega)
  unfold sh_X1_tonerFor
  rw [pk_mul, show (3 : Int32) = nI 3 from rfl, show (4 : Int32) = nI 4 from rfl, show (9 : Int32) = nI 9 from rfl, show (8 : Int32) = nI 8 from rfl, pk_mul, pk_mul, pk_div (by omega) (by decide) (by decide), pk_div (by omega) (by decide) (by decide)]
  split
  · rw [nI_toInt (by omega)]; omega
  · split
    · rw [nI_toInt (by omega)]; omega
    · rw [nI_toInt (by omega)]; omega
theorem lasts_at {s : Int32} (hk : vp_in k 4) (hd : dotsOK d) : sh_X4_lasts N k d s = sh_X1_pagesLasting N.1 N.2.2.1 N.2.2.2.1 k (sh_X1_tonerFor N.2.1 k d (N.1 (0 : Int32).toNatClampNeg)) s 999 := by
  unfold sh_X4_lasts
  rw [if_neg (by rw [isCup_in hk]; decide), if_neg (dots_1 hd)]
theorem lst_rg {se ki ha sl : Nat → Int32} {c need s m : Int32} (hm : 0 ≤ m.toInt) : 0 ≤ (sh_X1_pagesLasting se ha sl c need s m).toInt ∧ (sh_X1_pagesLasting se ha sl c need s m).toInt ≤ m.toInt := by
  unfold sh_X1_pagesLasting
  exact pl_rg _ _ _ _ _ hm (Nat.lt_succ_self _)
theorem lst_min {se ha sl : Nat → Int32} {c need s m : Int32} (h0 : 0 ≤ m.toInt) (h1 : m.toInt ≤ 999) : (sh_X1_pagesLasting se ha sl c need s m).toInt < m.toInt ↔ (sh_X1_pagesLasting se ha sl c need s 999).toInt < m.toInt := by
  unfold sh_X1_pagesLasting
  exact pl_min _ _ _ _ _ _ _ h0 h1 (Nat.lt_succ_self _) (Nat.lt_succ_self _)
theorem hg_461 (hk : vp_in k 4) (hd : dotsOK d) : ¬ sh_X4_lasts N k d 0 < 0 := by
  have := lst_rg (se := N.1) (ki := N.2.1) (ha := N.2.2.1) (sl := N.2.2.2.1) (c := k) (need := sh_X1_tonerFor N.2.1 k d (N.1 (0 : Int32).toNatClampNeg)) (s := 0) (m := 999) (by decide)
  have z : (0 : Int32).toInt = 0 := rfl
  rw [lasts_at hk hd, Int32.lt_iff_toInt_lt]; omega
theorem hg_468 (hk : vp_in k 4) (hd : dotsOK d) : ¬ sh_X4_lasts N k d 1 < sh_X4_lasts N k d 0 := by
  rw [lasts_at hk hd, lasts_at hk hd, Int32.lt_iff_toInt_lt]
  have := pl_with (se := N.1) (need := sh_X1_tonerFor N.2.1 k d (N.1 (0 : Int32).toNatClampNeg)) (((999 : Int32).toInt - (0 : Int32).toInt).toNat + 1) 999 (N.2.2.1 k.toNatClampNeg) (N.2.2.2.1 k.toNatClampNeg) 0 (by decide) (Nat.lt_succ_self _)
  unfold sh_X1_pagesLasting
  omega
theorem hg_476 (hk : vp_in k 4) (hd : dotsOK d) : ¬ 999 < sh_X4_lasts N k d 1 := by
  have := lst_rg (se := N.1) (ki := N.2.1) (ha := N.2.2.1) (sl := N.2.2.2.1) (c := k) (need := sh_X1_tonerFor N.2.1 k d (N.1 (0 : Int32).toNatClampNeg)) (s := 1) (m := 999) (by decide)
  have z : (999 : Int32).toInt = 999 := rfl
  rw [lasts_at hk hd, Int32.lt_iff_toInt_lt]; omega
theorem atHand_at {m w : Int32} (hk : vp_in k 4) (hd : dotsOK d) (h0 : 0 ≤ m.toInt) (h1 : m.toInt ≤ 50) (hw : w = 0 ∨ w = 1) : sh_X4_atHand N k d m w = if m ≤ sh_X1_pagesLasting N.1 N.2.2.1 N.2.2.2.1 k (sh_X1_tonerFor N.2.1 k d (N.1 (0 : Int32).toNatClampNeg)) 0 m then (if w = 0 then sh_X1_handPageByPage N.1 N.2.2.1 k (sh_X1_tonerFor N.2.1 k d (N.1 (0 : Int32).toNatClampNeg)) m else sh_X1_handAddedUp N.1 N.2.2.1 k (sh_X1_tonerFor N.2.1 k d (N.1 (0 : Int32).toNatClampNeg)) m) else -4 := by
  have z : (0 : Int32).toInt = 0 := rfl
  have f : (50 : Int32).toInt = 50 := rfl
  unfold sh_X4_atHand
  rw [if_neg (by rw [isCup_in hk]; decide), if_neg (dots_1 hd), if_neg (by rw [Int32.lt_iff_toInt_lt]; omega), if_neg (by rw [Int32.lt_iff_toInt_lt]; omega), if_neg (by rcases hw with rfl | rfl <;> decide), if_pos (by rcases hw with rfl | rfl <;> decide)]
theorem se1_pos (g : okN N) : 0 < (N.1 (1 : Int32).toNatClampNeg).toInt := by
  have a : 2 ≤ (N.1 (1 : Int32).toNatClampNeg).toInt := g.2.2.2.2.2.1.1
  omega
theorem hg_510 (g : okN N) (hk : vp_in k 4) (hd : dotsOK d) {v1 v2 : Int32} (h1 : v1 = if sh_X4_atHand N k d 50 0 < 0 then 0 else 1) (h2 : v2 = if sh_X4_lasts N k d 0 < 50 then 0 else 1) : v1 = v2 := by
  have f : (50 : Int32).toInt = 50 := rfl
  have z : (0 : Int32).toInt = 0 := rfl
  have m := lst_min (se := N.1) (ha := N.2.2.1) (sl := N.2.2.2.1) (c := k) (need := sh_X1_tonerFor N.2.1 k d (N.1 (0 : Int32).toNatClampNeg)) (s := 0) (m := 50) (by decide) (by decide)
  rw [atHand_at hk hd (by decide) (by decide) (Or.inl rfl)] at h1
  rw [lasts_at hk hd] at h2
  by_cases c : 50 ≤ sh_X1_pagesLasting N.1 N.2.2.1 N.2.2.2.1 k (sh_X1_tonerFor N.2.1 k d (N.1 (0 : Int32).toNatClampNeg)) 0 50
  · rw [if_pos c, if_pos rfl] at h1
    rw [Int32.le_iff_toInt_le] at c
    have p : 0 ≤ (sh_X1_handPageByPage N.1 N.2.2.1 k (sh_X1_tonerFor N.2.1 k d (N.1 (0 : Int32).toNatClampNeg)) 50).toInt := by
      have b := g.2.1 _ (kk4 hk)
      have s0 : 1 ≤ (N.1 (0 : Int32).toNatClampNeg).toInt := g.2.2.2.2.1.1
      have s1 : (N.1 (0 : Int32).toNatClampNeg).toInt ≤ 5 := g.2.2.2.2.1.2
      unfold sh_X1_handPageByPage
      refine hp_ge (se1_pos g) (need_ge hd s0 s1) (((50 : Int32).toInt - (0 : Int32).toInt).toNat + 1) _ 50 _ (N.2.2.2.1 k.toNatClampNeg) 0 b.1 (by omega) (by decide) (Nat.lt_succ_self _) (Nat.lt_succ_self _) ?_
      unfold sh_X1_pagesLasting at c
      omega
    rw [if_neg (by rw [Int32.lt_iff_toInt_lt]; omega)] at h1
    rw [if_neg (by rw [Int32.lt_iff_toInt_lt]; omega)] at h2
    rw [h1, h2]
  · rw [if_neg c] at h1
    rw [Int32.le_iff_toInt_le] at c
    rw [if_pos (by decide)] at h1
    rw [if_pos (by rw [Int32.lt_iff_toInt_lt]; omega)] at h2
    rw [h1, h2]
theorem hg_535 (hk : vp_in k 4) (hd : dotsOK d) : sh_X4_atHand N k d 7 0 = sh_X4_atHand N k d 7 1 := by
  rw [atHand_at hk hd (by decide) (by decide) (Or.inl rfl), atHand_at hk hd (by decide) (by decide) (Or.inr rfl), if_pos rfl, if_neg (show ¬ (1 : Int32) = 0 by decide)]
  unfold sh_X1_handPageByPage sh_X1_handAddedUp
  rw [hp_two (se := N.1) (need := sh_X1_tonerFor N.2.1 k d (N.1 (0 : Int32).toNatClampNeg)) (ha := N.2.2.1) (c := k) (((7 : Int32).toInt - (0 : Int32).toInt).toNat + 1) 7 (N.2.2.1 k.toNatClampNeg) 0 0 0 (by decide) (Nat.lt_succ_self _) (by rw [Int32.sub_zero, Int32.sub_zero])]
theorem hg_555 (hk : vp_in k 4) (hd : dotsOK d) : sh_X4_atHand N k d 0 1 = sh_X4_cup N k 1 := by
  have r := lst_rg (se := N.1) (ki := N.2.1) (ha := N.2.2.1) (sl := N.2.2.2.1) (c := k) (need := sh_X1_tonerFor N.2.1 k d (N.1 (0 : Int32).toNatClampNeg)) (s := 0) (m := 0) (by decide)
  have z : (0 : Int32).toInt = 0 := rfl
  rw [atHand_at hk hd (by decide) (by decide) (Or.inr rfl), if_pos (by rw [Int32.le_iff_toInt_le]; omega), if_neg (show ¬ (1 : Int32) = 0 by decide), cup_1 hk]
  unfold sh_X1_handAddedUp
  rw [lp_X1_handAddedUp_17, if_pos (by decide), Int32.sub_zero, Int32.sub_zero]
theorem drk_at (hk : vp_in k 4) (hd : dotsOK d) : sh_X4_darkest N k d 20 = (if (sh_X1_lastsShaken N.1 N.2.1 N.2.2.1 N.2.2.2.1 k d 5 20) = 0 then (if (sh_X1_lastsShaken N.1 N.2.1 N.2.2.1 N.2.2.2.1 k d 4 20) = 0 then (if (sh_X1_lastsShaken N.1 N.2.1 N.2.2.1 N.2.2.2.1 k d 3 20) = 0 then (if (sh_X1_lastsShaken N.1 N.2.1 N.2.2.1 N.2.2.2.1 k d 2 20) = 0 then (if (sh_X1_lastsShaken N.1 N.2.1 N.2.2.1 N.2.2.2.1 k d 1 20) = 0 then (-4 : Int32) else (1 : Int32)) else (2 : Int32)) else (3 : Int32)) else (4 : Int32)) else (5 : Int32)) := by
  unfold sh_X4_darkest
  rw [if_neg (by rw [isCup_in hk]; decide), if_neg (dots_1 hd), if_neg (by decide)]
theorem hg_567 (hk : vp_in k 4) (hd : dotsOK d) (c : ¬ sh_X4_darkest N k d 20 = -4) : ¬ sh_X4_darkest N k d 20 ≤ 0 := by
  rw [drk_at hk hd] at *
  revert c
  (repeat' split) <;> intro c <;> first | exact absurd rfl c | decide
theorem hg_574 (hk : vp_in k 4) (hd : dotsOK d) (c : ¬ sh_X4_darkest N k d 20 = -4) : ¬ 6 ≤ sh_X4_darkest N k d 20 := by
  rw [drk_at hk hd] at *
  revert c
  (repeat' split) <;> intro c <;> first | exact absurd rfl c | decide
theorem hg_592 (g : okN N) (hk : vp_in k 4) (hd : dotsOK d) (c : ¬ sh_X4_lasts N k d 1 < 20) : ¬ sh_X4_darkest N k d 20 < sh_X4_count N zz ln 8 := by
  have s0 : 1 ≤ (N.1 0).toInt := g.2.2.2.2.1.1
  have s1 : (N.1 0).toInt ≤ 5 := g.2.2.2.2.1.2
  have tw : (20 : Int32).toInt = 20 := rfl
  rw [lasts_at hk hd, Int32.lt_iff_toInt_lt] at c
  have m := lst_min (se := N.1) (ha := N.2.2.1) (sl := N.2.2.2.1) (c := k) (need := sh_X1_tonerFor N.2.1 k d (N.1 (0 : Int32).toNatClampNeg)) (s := 1) (m := 20) (by decide) (by decide)
  have L : ¬ sh_X1_lastsShaken N.1 N.2.1 N.2.2.1 N.2.2.2.1 k d (N.1 0) 20 = 0 := by
    unfold sh_X1_lastsShaken
    rw [if_neg]
    · decide
    · rw [Int32.lt_iff_toInt_lt]
      rw [show (0 : Int32).toNatClampNeg = 0 from rfl] at c m
      omega
  rw [cnt_8, drk_at hk hd, Int32.lt_iff_toInt_lt]
  have e1 : (1 : Int32).toInt = 1 := rfl
  have e2 : (2 : Int32).toInt = 2 := rfl
  have e3 : (3 : Int32).toInt = 3 := rfl
  have e4 : (4 : Int32).toInt = 4 := rfl
  have e5 : (5 : Int32).toInt = 5 := rfl
  rcases (show (N.1 0).toInt = 1 ∨ (N.1 0).toInt = 2 ∨ (N.1 0).toInt = 3 ∨ (N.1 0).toInt = 4 ∨ (N.1 0).toInt = 5 by omega) with h | h | h | h | h
  · have e : N.1 0 = 1 := Int32.toInt_inj.mp (by omega)
    rw [e] at L ⊢
    rw [if_neg L]
    (repeat' split) <;> decide
  · have e : N.1 0 = 2 := Int32.toInt_inj.mp (by omega)
    rw [e] at L ⊢
    rw [if_neg L]
    (repeat' split) <;> decide
  · have e : N.1 0 = 3 := Int32.toInt_inj.mp (by omega)
    rw [e] at L ⊢
    rw [if_neg L]
    (repeat' split) <;> decide
  · have e : N.1 0 = 4 := Int32.toInt_inj.mp (by omega)
    rw [e] at L ⊢
    rw [if_neg L]
    (repeat' split) <;> decide
  · have e : N.1 0 = 5 := Int32.toInt_inj.mp (by omega)
    rw [e] at L ⊢
    rw [if_neg L]
    decide
theorem hg_616 (hk : vp_in k 4) (hd : dotsOK d) (c : ¬ sh_X4_lasts N k d 0 = 0) : ¬ sh_X4_cup N k 1 < sh_X4_needs N k d 0 := by
  have e : sh_X4_needs N k d 0 = sh_X1_tonerFor N.2.1 k d (N.1 (0 : Int32).toNatClampNeg) := by
    unfold sh_X4_needs
    rw [if_neg (by rw [isCup_in hk]; decide), if_neg (dots_1 hd), if_pos rfl]
  rw [e, cup_1 hk]
  intro h
  refine c ?_
  rw [lasts_at hk hd]
  unfold sh_X1_pagesLasting
  rw [pl_st, if_neg (by decide), if_pos rfl]
  simp only [kb]
  rw [if_pos]
  unfold sh_X1_wouldBeDark
  split
  · rfl
  · first | rfl | rw [if_pos h]
/-! the sums over the cups -/
def sumT (N : TMa) : Nat → Int32
  | 0 => 0
  | n + 1 => sumT N n + (sh_X4_cup N (nI n) 1 + sh_X4_cup N (nI n) 2)
def sumL (N : TMa) : Nat → Int32
  | 0 => 0
  | n + 1 => sumL N n + sh_X4_cup N (nI n) 6
def sumB (N : TMa) : Nat → Int32
  | 0 => 0
  | n + 1 => sumB N n + (if sh_X4_cup N (nI n) 7 ≤ 100000 then 0 else 1)
def sumI (N : TMa) : Nat → Int32
  | 0 => 0
  | n + 1 => sumI N n + (if sh_X4_cup N (nI n) 4 = -4 then 0 else 1)
def hgI (N : TMa) (k al le bo nn : Int32) : Prop := ∃ n : Nat, n ≤ 4 ∧ k = nI n ∧ al = sumT N n ∧ le = sumL N n ∧ bo = sumB N n ∧ nn = sumI N n
theorem hgI_0 : hgI N 0 0 0 0 0 := ⟨0, by decide, rfl, rfl, rfl, rfl, rfl⟩
theorem hgI_in {k al le bo nn : Int32} (h : hgI N k al le bo nn) (c : ¬ 4 ≤ k) : vp_in k 4 := by
  obtain ⟨n, hn, rfl, -⟩ := h
  have f : (4 : Int32).toInt = 4 := rfl
  rw [Int32.le_iff_toInt_le, nI_toInt (by omega)] at c
  exact vp_in_nI (by omega) (by decide)
theorem hgI_up {k al le bo nn v w : Int32} (h : hgI N k al le bo nn) (c : ¬ 4 ≤ k) (hv : v = if sh_X4_cup N k 7 ≤ 100000 then 0 else 1) (hw : w = if sh_X4_cup N k 4 = -4 then 0 else 1) : hgI N (k + 1) (al + (sh_X4_cup N k 1 + sh_X4_cup N k 2)) (le + sh_X4_cup N k 6) (bo + v) (nn + w) := by
  obtain ⟨n, hn, rfl, rfl, rfl, rfl, rfl⟩ := h
  have f : (4 : Int32).toInt = 4 := rfl
  rw [Int32.le_iff_toInt_le, nI_toInt (by omega)] at c
  subst hv hw
  exact ⟨n + 1, by omega, nI_up n, rfl, rfl, rfl, rfl⟩
theorem hgI_end {k al le bo nn : Int32} (h : hgI N k al le bo nn) (c : 4 ≤ k) : al = sumT N 4 ∧ le = sumL N 4 ∧ bo = sumB N 4 ∧ nn = sumI N 4 := by
  obtain ⟨n, hn, rfl, rfl, rfl, rfl, rfl⟩ := h
  have f : (4 : Int32).toInt = 4 := rfl
  rw [Int32.le_iff_toInt_le, nI_toInt (by omega)] at c
  have : n = 4 := by omega
  subst this
  exact ⟨rfl, rfl, rfl, rfl⟩
theorem v0 : vp_in (nI 0) 4 := k_in (by decide)
theorem v1 : vp_in (nI 1) 4 := k_in (by decide)
theorem v2 : vp_in (nI 2) 4 := k_in (by decide)
theorem v3 : vp_in (nI 3) 4 := k_in (by decide)
theorem sumT_4 : sumT N 4 = sh_X4_count N zz ln 0 := by
  simp only [sumT]
  rw [cup_1 v0, cup_2 v0, cup_1 v1, cup_2 v1, cup_1 v2, cup_2 v2, cup_1 v3, cup_2 v3]
  rfl
theorem sumL_4 : sumL N 4 = sh_X4_count N zz ln 6 := by
  simp only [sumL]
  rw [cup_6 v0, cup_6 v1, cup_6 v2, cup_6 v3]
  rfl
theorem told_rg (g : okN N) (hk : vp_in k 4) : 0 ≤ (sh_X1_toldLeft N.1 N.2.2.1 N.2.2.2.1 N.2.2.2.2.1 k).toInt ∧ (sh_X1_toldLeft N.1 N.2.2.1 N.2.2.2.1 N.2.2.2.2.1 k).toInt ≤ 10000 := by
  have b := g.2.1 _ (kk4 hk)
  obtain ⟨t, m, h1, h2, h3, e1, e2, e3⟩ := scl_nI g hk
  have a := Nat.div_mul_le_self t m
  unfold sh_X1_toldLeft
  rw [← cup_5 hk, e3]
  generalize N.2.2.2.2.1 k.toNatClampNeg = x at b
  have e := iadd_to (x := nI (t / m * m)) (y := x) (by rw [nI_toInt (by omega)]; omega) (by rw [nI_toInt (by omega)]; omega)
  rw [nI_toInt (by omega)] at e
  have d := idiv_bd (x := nI (t / m * m) + x) (y := 2) (by omega) (by decide)
  omega
theorem boast_eq (g : okN N) (hk : vp_in k 4) : sh_X4_cup N k 7 ≤ 100000 ↔ sh_X1_toldLeft N.1 N.2.2.1 N.2.2.2.1 N.2.2.2.2.1 k ≤ sh_X1_toner N.2.2.1 N.2.2.2.1 k := by
  have a := told_rg g hk
  have b := g.2.1 _ (kk4 hk)
  have h : (100000 : Int32).toInt = 100000 := rfl
  have t : (sh_X1_toner N.2.2.1 N.2.2.2.1 k).toInt = (N.2.2.1 k.toNatClampNeg).toInt + (N.2.2.2.1 k.toNatClampNeg).toInt := by
    unfold sh_X1_toner
    rw [iadd_to (by omega) (by omega)]
  rw [cup_7 hk]
  generalize sh_X1_toldLeft N.1 N.2.2.1 N.2.2.2.1 N.2.2.2.2.1 k = x at a ⊢
  generalize sh_X1_toner N.2.2.1 N.2.2.2.1 k = y at t ⊢
  have e := isub_to (x := x) (y := y) (by omega) (by omega)
  have e2 := iadd_to (x := x - y) (y := 100000) (by omega) (by omega)
  rw [Int32.le_iff_toInt_le, Int32.le_iff_toInt_le]
  omega
theorem sumB_4 (g : okN N) : sumB N 4 = sh_X4_count N zz ln 7 := by
  simp only [sumB, boast_eq g v0, boast_eq g v1, boast_eq g v2, boast_eq g v3]
  show _ = sh_X1_cupsOvertold N.1 N.2.2.1 N.2.2.2.1 N.2.2.2.2.1
  unfold sh_X1_cupsOvertold
  simp only [kb]
  rw [show (nI 0) = (0 : Int32) from rfl, show (nI 1) = (1 : Int32) from rfl, show (nI 2) = (2 : Int32) from rfl, show (nI 3) = (3 : Int32) from rfl]
  (repeat' split) <;> rfl
theorem isCup_ci (g : okN N) (q : Nat) (hq : q < 2) : sh_X4_isCup (N.2.2.2.2.2.1 q) = 0 ↔ N.2.2.2.2.2.1 q = -4 := by
  rcases g.2.2.1 q hq with e | ⟨a, b⟩
  · rw [e]; exact ⟨fun _ => rfl, fun _ => isCup_no⟩
  · have v : vp_in (N.2.2.2.2.2.1 q) 4 := by rw [vp_in_iff]; omega
    rw [isCup_in v]
    refine ⟨fun h => absurd h (by decide), fun h => ?_⟩
    rw [h] at a
    exact absurd a (by decide)
/-- a cup's printer, by what the printers have -/
theorem ins_4 {ci : Nat → Int32} : (∀ c : Int32, sh_X1_printerOf ci c = -4 ↔ ¬ ci 0 = c ∧ ¬ ci 1 = c) := by
  intro c
  unfold sh_X1_printerOf
  rw [show (0 : Int32).toNatClampNeg = 0 from rfl, show (1 : Int32).toNatClampNeg = 1 from rfl]
  by_cases a : ci 0 = c
  · rw [if_pos a]; exact ⟨fun h => absurd h (by decide), fun h => absurd a h.1⟩
  · rw [if_neg a]
    by_cases b : ci 1 = c
    · rw [if_pos b]; exact ⟨fun h => absurd h (by decide), fun h => absurd b h.2⟩
    · rw [if_neg b]; exact ⟨fun _ => ⟨a, b⟩, fun _ => rfl⟩
theorem ci_five (g : okN N) (q : Nat) (hq : q < 2) : N.2.2.2.2.2.1 q = -4 ∨ N.2.2.2.2.2.1 q = 0 ∨ N.2.2.2.2.2.1 q = 1 ∨ N.2.2.2.2.2.1 q = 2 ∨ N.2.2.2.2.2.1 q = 3 := by
  rcases g.2.2.1 q hq with e | ⟨a, b⟩
  · exact Or.inl e
  · have e0 : (0 : Int32).toInt = 0 := rfl
    have e1 : (1 : Int32).toInt = 1 := rfl
    have e2 : (2 : Int32).toInt = 2 := rfl
    have e3 : (3 : Int32).toInt = 3 := rfl
    rcases (show (N.2.2.2.2.2.1 q).toInt = 0 ∨ (N.2.2.2.2.2.1 q).toInt = 1 ∨ (N.2.2.2.2.2.1 q).toInt = 2 ∨ (N.2.2.2.2.2.1 q).toInt = 3 by omega) with h | h | h | h
    · exact Or.inr (Or.inl (Int32.toInt_inj.mp (by omega)))
    · exact Or.inr (Or.inr (Or.inl (Int32.toInt_inj.mp (by omega))))
    · exact Or.inr (Or.inr (Or.inr (Or.inl (Int32.toInt_inj.mp (by omega)))))
    · exact Or.inr (Or.inr (Or.inr (Or.inr (Int32.toInt_inj.mp (by omega)))))
theorem sumI_4 (g : okN N) : sumI N 4 = sh_X4_count N zz ln 5 := by
  have a := ci_five g 0 (by decide)
  have b := ci_five g 1 (by decide)
  have d := g.2.2.2.1
  simp only [sumI]
  rw [cup_4 v0, cup_4 v1, cup_4 v2, cup_4 v3]
  show _ = sh_X1_cupsInside N.2.2.2.2.2.1
  unfold sh_X1_cupsInside sh_X1_printerOf
  rw [show (0 : Int32).toNatClampNeg = 0 from rfl, show (1 : Int32).toNatClampNeg = 1 from rfl, show (nI 0) = (0 : Int32) from rfl, show (nI 1) = (1 : Int32) from rfl, show (nI 2) = (2 : Int32) from rfl, show (nI 3) = (3 : Int32) from rfl]
  generalize N.2.2.2.2.2.1 0 = x at a d ⊢
  generalize N.2.2.2.2.2.1 1 = y at b d ⊢
  rcases a with rfl | rfl | rfl | rfl | rfl <;> rcases b with rfl | rfl | rfl | rfl | rfl <;> first | rfl | (exfalso; revert d; decide)
/-! the printers -/
theorem prn_at {w : Int32} (hq : vp_in q 2) : sh_X4_printer N q w = (if w = 0 then (N.2.2.2.2.2.1 q.toNatClampNeg) else (if w = 1 then (N.2.2.2.2.2.2.1 q.toNatClampNeg) else (if w = 2 then (N.2.2.2.2.2.2.2.1 q.toNatClampNeg) else (if w = 3 then (N.2.2.2.2.2.2.2.2.1 q.toNatClampNeg) else (if w = 4 then (N.2.2.2.2.2.2.2.2.2.1 q.toNatClampNeg) else (if w = 5 then (N.2.2.2.2.2.2.2.2.2.2.1 q.toNatClampNeg) else (-1 : Int32))))))) := by
  unfold sh_X4_printer
  rw [if_neg (by rw [isPrn_in hq]; decide)]
theorem prn_0 (hq : vp_in q 2) : sh_X4_printer N q 0 = N.2.2.2.2.2.1 q.toNatClampNeg := by rw [prn_at hq]; rfl
theorem prn_1 (hq : vp_in q 2) : sh_X4_printer N q 1 = N.2.2.2.2.2.2.1 q.toNatClampNeg := by rw [prn_at hq]; rfl
theorem prn_2 (hq : vp_in q 2) : sh_X4_printer N q 2 = N.2.2.2.2.2.2.2.1 q.toNatClampNeg := by rw [prn_at hq]; rfl
theorem prn_3 (hq : vp_in q 2) : sh_X4_printer N q 3 = N.2.2.2.2.2.2.2.2.1 q.toNatClampNeg := by rw [prn_at hq]; rfl
theorem prn_4 (hq : vp_in q 2) : sh_X4_printer N q 4 = N.2.2.2.2.2.2.2.2.2.1 q.toNatClampNeg := by rw [prn_at hq]; rfl
theorem prn_5 (hq : vp_in q 2) : sh_X4_printer N q 5 = N.2.2.2.2.2.2.2.2.2.2.1 q.toNatClampNeg := by rw [prn_at hq]; rfl
theorem qq2 (hq : vp_in q 2) : q.toNatClampNeg < 2 := (k_cl hq).1
theorem ci_in (g : okN N) (hq : vp_in q 2) (c : ¬ sh_X4_printer N q 0 = -4) : vp_in (sh_X4_printer N q 0) 4 := by
  rw [prn_0 hq] at *
  rcases g.2.2.1 _ (qq2 hq) with e | ⟨a, b⟩
  · exact absurd e c
  · rw [vp_in_iff]; omega
theorem hg_711 (g : okN N) (hq : vp_in q 2) (c : ¬ sh_X4_printer N q 0 = -4) : ¬ sh_X4_printer N q 0 < 0 := by
  have v := vp_in_iff.mp (ci_in g hq c)
  have z : (0 : Int32).toInt = 0 := rfl
  rw [Int32.lt_iff_toInt_lt]; omega
theorem hg_717 (g : okN N) (hq : vp_in q 2) (c : ¬ sh_X4_printer N q 0 = -4) : ¬ 4 ≤ sh_X4_printer N q 0 := by
  have v := vp_in_iff.mp (ci_in g hq c)
  have z : (4 : Int32).toInt = 4 := rfl
  rw [Int32.le_iff_toInt_le]; omega
theorem q_two (hq : vp_in q 2) : q = 0 ∨ q = 1 := by
  have h := vp_in_iff.mp hq
  have z : (0 : Int32).toInt = 0 := rfl
  have o : (1 : Int32).toInt = 1 := rfl
  rcases (show q.toInt = 0 ∨ q.toInt = 1 by omega) with e | e
  · exact Or.inl (Int32.toInt_inj.mp (by omega))
  · exact Or.inr (Int32.toInt_inj.mp (by omega))
theorem hg_729 (g : okN N) (hq : vp_in q 2) (c : ¬ sh_X4_printer N q 0 = -4) : sh_X4_cup N (sh_X4_printer N q 0) 4 = q := by
  have v := ci_in g hq c
  rw [cup_4 v]
  rw [prn_0 hq] at *
  have d := g.2.2.2.1
  unfold sh_X1_printerOf
  rw [show (0 : Int32).toNatClampNeg = 0 from rfl, show (1 : Int32).toNatClampNeg = 1 from rfl]
  rcases q_two hq with rfl | rfl
  · exact if_pos rfl
  · rw [show (1 : Int32).toNatClampNeg = 1 from rfl] at *
    rw [if_neg]
    · exact if_pos rfl
    · intro e
      rcases d with d | d
      · rw [d] at e; exact c e.symm
      · exact d e
theorem hg_759 (g : okN N) (hq : vp_in q 2) {v1 v2 : Int32} (h1 : v1 = if sh_X4_printer N q 0 = -4 then 1 else 0) (h2 : v2 = if sh_X4_whyNot N q = 1 then 1 else 0) : v1 = v2 := by
  have i := isCup_ci g _ (qq2 hq)
  have e : sh_X4_whyNot N q = 1 ↔ sh_X4_printer N q 0 = -4 := by
    rw [prn_0 hq]
    unfold sh_X4_whyNot sh_X1_refusal
    rw [if_neg (by rw [isPrn_in hq]; decide)]
    by_cases a : N.2.2.2.2.2.1 q.toNatClampNeg = -4
    · rw [if_pos (i.mpr a)]; exact ⟨fun _ => a, fun _ => rfl⟩
    · rw [if_neg (fun h => a (i.mp h))]
      refine ⟨fun h => ?_, fun h => absurd h a⟩
      revert h
      (repeat' split) <;> intro h <;> exact absurd h (by decide)
  rw [h1, h2]
  simp only [e]
theorem hg_802 (g : okN N) (hq : vp_in q 2) {v1 v2 : Int32} (h1 : v1 = if sh_X4_printer N q 5 = -4 then 1 else 0) (h2 : v2 = if sh_X4_printer N q 1 + sh_X4_printer N q 2 = 0 then 1 else 0) : v1 = v2 := by
  have p := g.2.2.2.2.2.2.2.2.1 _ (qq2 hq)
  have z : (0 : Int32).toInt = 0 := rfl
  have e : sh_X4_printer N q 5 = -4 ↔ sh_X4_printer N q 1 + sh_X4_printer N q 2 = 0 := by
    rw [prn_5 hq, prn_1 hq, prn_2 hq, ← Int32.toInt_inj (x := _ + _), iadd_to (by omega) (by omega), z]
    obtain ⟨a1, a2, a3, a4, a5, a6, a7⟩ := p
    rcases a7 with ⟨e1, e2⟩ | ⟨e1, e2, e3⟩
    · exact ⟨fun _ => e2, fun _ => e1⟩
    · refine ⟨fun h => ?_, fun h => by omega⟩
      rw [h] at e1
      exact absurd e1 (by decide)
  rw [h1, h2]
  simp only [e]
theorem hg_814 (g : okN N) (hq : vp_in q 2) : ¬ 100 < sh_X4_printer N q 5 := by
  have p := (g.2.2.2.2.2.2.2.2.1 _ (qq2 hq)).2.2.2.2.2.2
  have h : (100 : Int32).toInt = 100 := rfl
  rw [prn_5 hq, Int32.lt_iff_toInt_lt]
  rcases p with ⟨e, _⟩ | ⟨_, e, _⟩
  · rw [e]; decide
  · omega
theorem hg_839 (g : okN N) (hq : vp_in q 2) : ¬ sh_X4_printer N q 4 < sh_X4_printer N q 1 + sh_X4_printer N q 2 := by
  have p := g.2.2.2.2.2.2.2.2.1 _ (qq2 hq)
  rw [prn_4 hq, prn_1 hq, prn_2 hq, Int32.lt_iff_toInt_lt, iadd_to (by omega) (by omega)]
  omega
theorem hg_849 (g : okN N) (hq : vp_in q 2) : ¬ sh_X4_printer N q 3 < 0 := by
  have p := g.2.2.2.2.2.2.2.2.1 _ (qq2 hq)
  have z : (0 : Int32).toInt = 0 := rfl
  rw [prn_3 hq, Int32.lt_iff_toInt_lt]
  omega
/-! the best cup -/
theorem best_L : ∀ (fu : Nat) (b l4 c : Int32), ¬ c < 0 → ((4 : Int32).toInt - c.toInt).toNat < fu → (b = -4 ∨ (vp_in b 4 ∧ ¬ sh_X1_lastsShaken N.1 N.2.1 N.2.2.1 N.2.2.2.1 b 100 (N.1 (0 : Int32).toNatClampNeg) 5 = 0)) →
    lp_X4_bestFor_25 N 100 5 fu b l4 c = -4 ∨ (vp_in (lp_X4_bestFor_25 N 100 5 fu b l4 c) 4 ∧ ¬ sh_X1_lastsShaken N.1 N.2.1 N.2.2.1 N.2.2.2.1 (lp_X4_bestFor_25 N 100 5 fu b l4 c) 100 (N.1 (0 : Int32).toNatClampNeg) 5 = 0) := by
  intro fu
  induction fu with
  | zero => intro b l4 c _ h; exact absurd h (Nat.not_lt_zero _)
  | succ fu ih =>
    intro b l4 c hc hf hb
    rw [lp_X4_bestFor_25]
    by_cases a : 4 ≤ c
    · rw [if_pos a]; exact hb
    · rw [if_neg a]
      have hc4 : vp_in c 4 := vp_of_le hc a rfl
      have u := k_mu hf a
      have up := k_up hc a (by decide)
      simp only [kb]
      by_cases s : sh_X1_lastsShaken N.1 N.2.1 N.2.2.1 N.2.2.2.1 c 100 (N.1 (0 : Int32).toNatClampNeg) 5 = 0
      · rw [if_pos s]; exact ih _ _ _ up u hb
      · rw [if_neg s]
        split
        · exact ih _ _ _ up u (Or.inr ⟨hc4, s⟩)
        · split
          · exact ih _ _ _ up u hb
          · exact ih _ _ _ up u (Or.inr ⟨hc4, s⟩)
theorem hg_906 (c : ¬ sh_X4_bestFor N 100 5 = -4) : ¬ sh_X4_lasts N (sh_X4_bestFor N 100 5) 100 1 < 5 := by
  have e : sh_X4_bestFor N 100 5 = lp_X4_bestFor_25 N 100 5 (((4 : Int32).toInt - (0 : Int32).toInt).toNat + 1) (-4) 0 0 := by
    unfold sh_X4_bestFor
    rw [if_neg (by decide), if_neg (by decide)]
  have h := best_L (N := N) (((4 : Int32).toInt - (0 : Int32).toInt).toNat + 1) (-4) 0 0 (by decide) (Nat.lt_succ_self _) (Or.inl rfl)
  rw [← e] at h
  obtain ⟨hb, hs⟩ := h.resolve_left c
  generalize sh_X4_bestFor N 100 5 = b at hb hs ⊢
  have m := lst_min (se := N.1) (ha := N.2.2.1) (sl := N.2.2.2.1) (c := b) (need := sh_X1_tonerFor N.2.1 b 100 (N.1 (0 : Int32).toNatClampNeg)) (s := 1) (m := 5) (by decide) (by decide)
  rw [lasts_at hb (show dotsOK 100 from ⟨by decide, by decide⟩), Int32.lt_iff_toInt_lt]
  intro g
  refine hs ?_
  unfold sh_X1_lastsShaken
  rw [if_pos]
  rw [Int32.lt_iff_toInt_lt]
  exact m.mpr g
/-! the end -/
theorem hg_927 {k al le bo nn : Int32} (h : hgI N k al le bo nn) (c : 4 ≤ k) : al = sh_X4_count N zz ln 0 := (hgI_end h c).1.trans sumT_4
theorem hg_952 (g : okN N) {k al le bo nn : Int32} (h : hgI N k al le bo nn) (c : 4 ≤ k) : al + sh_X4_count N zz ln 1 + sh_X4_count N zz ln 2 = 16000 + sh_X4_count N zz ln 3 := by
  have t := g.2.2.2.2.2.2.2.2.2
  rw [hg_927 (zz := zz) (ln := ln) h c]
  show ((((0 + (N.2.2.1 0 + N.2.2.2.1 0)) + (N.2.2.1 1 + N.2.2.2.1 1)) + (N.2.2.1 2 + N.2.2.2.1 2)) + (N.2.2.1 3 + N.2.2.2.1 3)) + N.2.2.2.2.2.2.2.2.2.2.2.1 + N.2.2.2.2.2.2.2.2.2.2.2.2.1 = 16000 + N.2.2.2.2.2.2.2.2.2.2.2.2.2
  grind
theorem hg_962 {k al le bo nn : Int32} (h : hgI N k al le bo nn) (c : 4 ≤ k) : le = sh_X4_count N zz ln 6 := (hgI_end h c).2.1.trans sumL_4
theorem hg_972 (g : okN N) {k al le bo nn : Int32} (h : hgI N k al le bo nn) (c : 4 ≤ k) : bo = sh_X4_count N zz ln 7 := (hgI_end h c).2.2.1.trans (sumB_4 g)
theorem hg_982 (g : okN N) {k al le bo nn : Int32} (h : hgI N k al le bo nn) (c : 4 ≤ k) : nn = sh_X4_count N zz ln 5 := (hgI_end h c).2.2.2.trans (sumI_4 g)
theorem hg_992 : (0 + (sh_X4_printer N 0 1 + sh_X4_printer N 0 2)) + (sh_X4_printer N 1 1 + sh_X4_printer N 1 2) = sh_X4_count N zz ln 4 := by
  show (0 + (N.2.2.2.2.2.2.1 0 + N.2.2.2.2.2.2.2.1 0)) + (N.2.2.2.2.2.2.1 1 + N.2.2.2.2.2.2.2.1 1) = (N.2.2.2.2.2.2.1 0 + N.2.2.2.2.2.2.1 1) + (N.2.2.2.2.2.2.2.1 0 + N.2.2.2.2.2.2.2.1 1)
  grind
theorem hg_1025 (hz : vp_in zz 5) : ¬ sh_X4_count N zz ln 13 < 0 := by
  have v := vp_in_iff.mp hz
  have z : (0 : Int32).toInt = 0 := rfl
  rw [cnt_13, Int32.lt_iff_toInt_lt]; omega
theorem hg_1035 (hz : vp_in zz 5) : ¬ 5 ≤ sh_X4_count N zz ln 13 := by
  have v := vp_in_iff.mp hz
  have z : (5 : Int32).toInt = 5 := rfl
  rw [cnt_13, Int32.le_iff_toInt_le]; omega
/-! how dark the pages are -/
theorem fl_notNaN {x : UInt64} (h : vf_n64 x) : ¬ FP.Core.decode FP.Core.b64 x.toNat = .nan := by
  have hx := x.toNat_lt
  unfold vf_n64 at h
  rw [UInt64.le_iff_toNat_le, UInt64.toNat_and, show (0x7fffffffffffffff : UInt64).toNat = 2 ^ 63 - 1 from rfl, Nat.and_two_pow_sub_one_eq_mod, show (0x7ff0000000000000 : UInt64).toNat = 2047 * 2 ^ 52 from rfl] at h
  have e2 : ∀ n, FP.Core.decode FP.Core.b64 n = if n / 2 ^ 52 % 2048 = 2047 then (if n % 2 ^ 52 = 0 then .inf (FP.Core.fieldS FP.Core.b64 n) else .nan) else if n / 2 ^ 52 % 2048 = 0 then .fin (FP.Core.fieldS FP.Core.b64 n) (n % 2 ^ 52) (-1074) else .fin (FP.Core.fieldS FP.Core.b64 n) (2 ^ 52 + n % 2 ^ 52) ((-1074) + (((n / 2 ^ 52 % 2048 : Nat) : Int) - 1)) := fun n => rfl
  rw [e2]
  generalize x.toNat = n at h hx
  split
  · rw [if_pos (by omega)]
    exact fun e => by cases e
  · split <;> exact fun e => by cases e
theorem cmp_self {x : UInt64} (h : vf_n64 x) : Op.cmpValue (FP.dcmp x x) .l = 0 := by
  have n := fl_notNaN h
  have e : FP.dcmp x x = some .eq := by
    show FP.Core.order (FP.Core.decode FP.Core.b64 x.toNat) (FP.Core.decode FP.Core.b64 x.toNat) = some .eq
    generalize FP.Core.decode FP.Core.b64 x.toNat = y at n
    cases y with
    | nan => exact absurd rfl n
    | inf s => cases s <;> rfl
    | fin s c q =>
      show some (compare (FP.Core.signed s (FP.Core.inUnits c q (min q q))) (FP.Core.signed s (FP.Core.inUnits c q (min q q)))) = some .eq
      generalize FP.Core.signed s (FP.Core.inUnits c q (min q q)) = a
      first | rw [Std.ReflCmp.compare_self] | simp [compare, compareOfLessAndEq]
  rw [e]
  rfl
theorem pgs_eq : sh_X1_darkOfAll N.2.2.2.2.2.2.1 + sh_X1_lightOfAll N.2.2.2.2.2.2.2.1 = (0 + (sh_X4_printer N 0 1 + sh_X4_printer N 0 2)) + (sh_X4_printer N 1 1 + sh_X4_printer N 1 2) := (hg_992 (zz := 0) (ln := 0)).symm
theorem drk_eq : sh_X1_darkOfAll N.2.2.2.2.2.2.1 = (0 + sh_X4_printer N 0 1) + sh_X4_printer N 1 1 := by
  show N.2.2.2.2.2.2.1 0 + N.2.2.2.2.2.2.1 1 = (0 + N.2.2.2.2.2.2.1 0) + N.2.2.2.2.2.2.1 1
  rw [Int32.zero_add]
theorem hg_1016a (c : (0 + (sh_X4_printer N 0 1 + sh_X4_printer N 0 2)) + (sh_X4_printer N 1 1 + sh_X4_printer N 1 2) = 0) : Op.cmpValue (FP.dcmp (sh_X4_darkness N) FP.dconst1) .l = 0 := by
  unfold sh_X4_darkness
  rw [pgs_eq, c, if_pos (by decide)]
  decide +kernel
theorem hg_1016b (g : okN N) (c : ¬ (0 + (sh_X4_printer N 0 1 + sh_X4_printer N 0 2)) + (sh_X4_printer N 1 1 + sh_X4_printer N 1 2) = 0) : Op.cmpValue (FP.dcmp (sh_X4_darkness N) (FP.ddiv (FP.i2d ((0 + sh_X4_printer N 0 1) + sh_X4_printer N 1 1)) (FP.i2d ((0 + (sh_X4_printer N 0 1 + sh_X4_printer N 0 2)) + (sh_X4_printer N 1 1 + sh_X4_printer N 1 2))))) .l = 0 := by
  have p0 := g.2.2.2.2.2.2.2.2.1 0 (by decide)
  have p1 := g.2.2.2.2.2.2.2.2.1 1 (by decide)
  have z : (0 : Int32).toInt = 0 := rfl
  have e : 0 ≤ (sh_X1_darkOfAll N.2.2.2.2.2.2.1 + sh_X1_lightOfAll N.2.2.2.2.2.2.2.1).toInt := by
    show 0 ≤ ((N.2.2.2.2.2.2.1 0 + N.2.2.2.2.2.2.1 1) + (N.2.2.2.2.2.2.2.1 0 + N.2.2.2.2.2.2.2.1 1)).toInt
    have a := iadd_to (x := N.2.2.2.2.2.2.1 0) (y := N.2.2.2.2.2.2.1 1) (by omega) (by omega)
    have b := iadd_to (x := N.2.2.2.2.2.2.2.1 0) (y := N.2.2.2.2.2.2.2.1 1) (by omega) (by omega)
    rw [iadd_to (by omega) (by omega)]
    omega
  unfold sh_X4_darkness
  rw [if_neg, pgs_eq, drk_eq]
  · exact cmp_self (div_num c)
  · intro h
    rw [Int32.le_iff_toInt_le] at h
    rw [pgs_eq] at e h
    exact c (Int32.toInt_inj.mp (by omega))
end HG
