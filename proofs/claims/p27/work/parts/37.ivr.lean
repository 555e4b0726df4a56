theorem idiv_half {x y : Int32} (h : 0 ≤ x.toInt) (hy : 0 < y.toInt) : 0 ≤ (x / y).toInt ∧ (x / y).toInt ≤ x.toInt := idiv_bd h hy
theorem iv_shakes {sv : Nat → Int32} {c : Int32} (h : iv sv) (hc : vp_in c 4) : iv (sh_X5_shakes sv c).2 := by
  have e4 := q_ix (k := 4) (m := 4) hc rfl (by decide) (by decide)
  have e8 := q_ix (k := 8) (m := 8) hc rfl (by decide) (by decide)
  have l := (k_cl hc).1
  have b := h.2.1 _ l
  have d := idiv_bd (y := 2) b.2.1 (by decide)
  simp only [sh_X5_shakes, kb, e4, e8]
  generalize sv (8 + c.toNatClampNeg) / 2 = t at d ⊢
  refine iv_cups h (i := c.toNatClampNeg) (v := sv (4 + c.toNatClampNeg) + t) (w := sv (8 + c.toNatClampNeg) - t) l ?_ ?_ ?_ ?_ ?_ ?_
  · rw [iadd_to (by omega) (by omega)]; omega
  · rw [isub_to (by omega) (by omega)]; omega
  · rw [isub_to (by omega) (by omega), iadd_to (by omega) (by omega)]; omega
  · rw [pk_us, pk_un (by omega)]
  · rw [pk_un (by omega), pk_us]
  · intro j j1 j2
    rw [pk_un j1, pk_un j2]
theorem iv_put {sv : Nat → Int32} (h : iv sv) {i : Nat} {v : Int32} (hi : i < 2) (hv : vp_in v 4) (hn : ∀ j, j < 2 → j ≠ i → ¬ sv (16 + j) = v) : iv (upd sv (16 + i) v) := by
  have hv := vp_in_iff.mp hv
  obtain ⟨a, b, c, d, g1, g2, g3, g4⟩ := h
  refine ⟨fun k hk => ?_, fun k hk => ?_, fun k hk => ?_, ?_, ?_, ?_, ?_, ?_⟩
  · rw [pk_un (by omega)]; exact a k hk
  · rw [pk_un (by omega), pk_un (by omega), pk_un (by omega)]; exact b k hk
  · by_cases q : k = i
    · subst q
      rw [pk_us]; omega
    · rw [pk_un (by omega)]; exact c k hk
  · rcases (show i = 0 ∨ i = 1 by omega) with rfl | rfl
    · refine Or.inr ?_
      rw [pk_un (j := 17) (by decide), pk_us (k := 16)]
      exact fun e => hn 1 (by decide) (by decide) e.symm
    · refine Or.inr ?_
      rw [pk_un (j := 16) (by decide), pk_us (k := 17)]
      exact fun e => hn 0 (by decide) (by decide) e
  · rw [pk_un (by omega)]; exact g1
  · rw [pk_un (by omega)]; exact g2
  · rw [pk_un (by omega)]; exact g3
  · rw [pk_un (by omega)]; exact g4
theorem takes_at {sv : Nat → Int32} {q : Int32} (h : iv sv) (hq : vp_in q 2) : (sh_X5_takes sv q).2 (16 + q.toNatClampNeg) = -1 ∧ ∀ j, j < 2 → j ≠ q.toNatClampNeg → (sh_X5_takes sv q).2 (16 + j) = sv (16 + j) := by
  have e2 := q_ix (k := 16) (m := 16) hq rfl (by decide) (by decide)
  have l2 := (k_cl hq).1
  simp only [sh_X5_takes, kb]
  by_cases c : sv (16 + q).toNatClampNeg = -1
  · rw [if_pos c]
    rw [e2] at c
    exact ⟨c, fun _ _ _ => rfl⟩
  · rw [if_neg c]
    have hc := iv_cup h hq c
    rw [e2] at c hc ⊢
    have e1 := q_ix (k := 4) (m := 4) hc rfl (by decide) (by decide)
    have l1 := (k_cl hc).1
    dsimp only
    rw [e1]
    refine ⟨pk_us, fun j j1 j2 => ?_⟩
    rw [pk_un (by omega), show (29 : Int32).toNatClampNeg = 29 from rfl, pk_un (by omega), pk_un (by omega)]
theorem where_no {sv : Nat → Int32} {x : Int32} (c : sh_X5_where sv x = -1) : ¬ sv 16 = x ∧ ¬ sv 17 = x := by
  unfold sh_X5_where at c
  by_cases a : sv (16 : Int32).toNatClampNeg = x
  · rw [if_pos a] at c; exact absurd c (by decide)
  · rw [if_neg a] at c
    by_cases b : sv (17 : Int32).toNatClampNeg = x
    · rw [if_pos b] at c; exact absurd c (by decide)
    · exact ⟨a, b⟩
theorem iv_moves {sv : Nat → Int32} {c q : Int32} (h : iv sv) (hc : vp_in c 4) (hq : vp_in q 2) : iv (sh_X5_moves sv c q).2 := by
  have l2 := (k_cl hq).1
  have e2 := q_ix (k := 16) (m := 16) hq rfl (by decide) (by decide)
  have cn : ¬ (-1 : Int32) = c := fun e => by
    rw [← e, vp_in_iff] at hc
    exact absurd hc.1 (by decide)
  unfold sh_X5_moves
  by_cases a : sh_X5_where sv c = q
  · rw [if_pos a]; exact h
  · rw [if_neg a]
    by_cases b : sh_X5_where sv c = -1
    · rw [if_pos b]
      have n := where_no b
      have t := takes_at h hq
      have i1 := iv_takes h hq
      simp only [kb]
      rw [e2]
      refine iv_put i1 l2 hc (fun j j1 j2 => ?_)
      rw [t.2 j j1 j2]
      rcases (show j = 0 ∨ j = 1 by omega) with rfl | rfl
      · exact n.1
      · exact n.2
    · rw [if_neg b]
      have hw := whereIn b
      have t := takes_at h hw
      have i1 := iv_takes h hw
      have lw := (k_cl hw).1
      have ne : (sh_X5_where sv c).toNatClampNeg ≠ q.toNatClampNeg := fun e => a (Int32.toInt_inj.mp (by
        have := (k_cl hw).2
        have := (k_cl hq).2
        omega))
      have t2 := takes_at i1 hq
      have i2 := iv_takes i1 hq
      simp only [kb]
      rw [e2]
      refine iv_put i2 l2 hc (fun j j1 j2 => ?_)
      rw [t2.2 j j1 j2, show j = (sh_X5_where sv c).toNatClampNeg by omega, t.1]
      exact cn
theorem iv_pages {so : Nat → Int32} {fr sc tm : Int32} (hfr : vp_in fr 2) (hdots : dotsOK sc) : ∀ (fu : Nat) (n r : Int32) (sv : Nat → Int32), (tm.toInt - n.toInt).toNat + (if r = 0 then 1 else 0) < fu → iv sv → iv (lp_X5_pages_4 so fr sc tm fu n r sv).2.1 := by
  intro fu
  induction fu with
  | zero => intro n r sv h; exact absurd h (Nat.not_lt_zero _)
  | succ fu ih =>
    intro n r sv hmu h
    rw [lp_X5_pages_4]
    by_cases a : tm ≤ n
    · rw [if_pos a]; exact h
    · rw [if_neg a]
      by_cases b : r = 0
      · rw [if_pos b]
        simp only [kb]
        exact ih _ _ _ (pages_mu hmu a b rfl) (iv_prints h hfr hdots)
      · rw [if_neg b]; exact h
theorem iv_pages1 {sv so : Nat → Int32} {fr sc tm : Int32} (h : iv sv) (hfr : vp_in fr 2) (hdots : dotsOK sc) : iv (sh_X5_pages sv so fr sc tm).2.1 := iv_pages hfr hdots _ _ _ _ (Nat.lt_succ_self _) h
theorem fst_iv {r : Int32} {g k : Nat → Int32} {f : Int32 × (Nat → Int32) × (Nat → Int32)} (h : iv f.2.1) (e : (r, g, k) = f) : iv g := by
  have : g = f.2.1 := by rw [← e]
  rw [this]; exact h
/-- the rows below dd are in order -/
def rowsOK (dd : Int32) (lt f1s s2s : Nat → Int32) : Prop := dd.toInt ≤ 30 ∧ ∀ k : Nat, (k : Int) < dd.toInt → rowOK lt f1s s2s k
theorem rowsG_ok {sg pd : Nat → Int32} {ln : Int32} {lt pl f1s s2s tms : Nat → Int32} (h : padr sg pd ln) : ∀ (n k : Nat) (po : Int32), rowsG pd ln lt pl f1s s2s tms n k po → ∀ j, k ≤ j → j < k + n → rowOK lt f1s s2s j := by
  intro n
  induction n with
  | zero => intro k po _ j h1 h2; omega
  | succ n ih =>
    intro k po g j h1 h2
    obtain ⟨_, hp, _, e, g1, g2⟩ := g
    by_cases q : j = k
    · subst q
      have r := g1 0 0
      have d := (q_deed (dd := 0) (lt := lt) (pl := pl) (f1s := f1s) (s2s := s2s) (tms := tms) (fr := 0) (sc := 0) h hp (by decide)).2
      generalize sh_X5_deed pd ln po 0 0 0 = Q at r d
      obtain ⟨r1, r2, r3, r4, r5, r6⟩ := r
      obtain ⟨_, _, _, d⟩ := d r2
      rw [r3, r4] at d
      rcases d with ⟨d1, d2, d3, _⟩ | ⟨d1, d2⟩ | ⟨d1, d2, d3⟩
      · exact ⟨fun _ => d2, fun c => absurd d1 c, fun c => absurd d1 c⟩
      · exact ⟨fun c => absurd (d1 ▸ c) (by decide), fun _ _ => d2, fun _ c => absurd d1 c⟩
      · refine ⟨fun c => absurd (d1 ▸ c) (by decide), fun _ c => absurd (d1 ▸ c) (by decide), fun _ c => ?_⟩
        rw [← r5 c]; exact d3
    · exact ih (k + 1) (e + 1) g2 j (by omega) (by omega)
theorem fault_rows {sg : Nat → Int32} {ln r po1 dd1 : Int32} {lt pl f1s s2s tms lt1 pl1 f1 s1 t1 : Nat → Int32} (h : padr sg sg ln) (hw : (r, po1, dd1, lt1, pl1, f1, s1, t1) = sh_X2_findFault sg ln lt pl f1s s2s tms) (c : r = -4) : rowsOK dd1 lt1 f1 s1 := by
  have J := q_fault h lt pl f1s s2s tms 0 0 0 0
  rw [← hw] at J
  generalize sh_X5_isJob sg ln 0 0 0 0 = T at J
  by_cases t : T.1 = 0
  · have this : 0 ≤ r.toInt := (J.1 t).2
    rw [c] at this
    exact absurd this (by decide)
  · obtain ⟨_, _, n, n1, n2, n3, _⟩ := J.2 t
    have z : (0 : Int32).toInt = 0 := rfl
    have n1 : dd1.toInt = (0 : Int32).toInt + n := n1
    refine ⟨by omega, fun k hk => rowsG_ok h n _ _ n3 k (Nat.zero_le _) ?_⟩
    rw [show (0 : Int32).toNatClampNeg = 0 from rfl]
    omega
theorem run_in {dd d : Int32} {lt f1s s2s : Nat → Int32} (h : rowsOK dd lt f1s s2s) (h0 : ¬ d < 0) (c : ¬ dd ≤ d) : vp_in d 30 := by
  rw [vp_in_iff]
  rw [Int32.lt_iff_toInt_lt] at h0
  rw [Int32.le_iff_toInt_le] at c
  have := h.1
  have z : (0 : Int32).toInt = 0 := rfl
  omega
theorem run_row {dd d : Int32} {lt f1s s2s : Nat → Int32} (h : rowsOK dd lt f1s s2s) (h0 : ¬ d < 0) (c : ¬ dd ≤ d) : rowOK lt f1s s2s d.toNatClampNeg := by
  have l := k_cl (run_in h h0 c)
  rw [Int32.le_iff_toInt_le] at c
  exact h.2 _ (by omega)
theorem run_30 {dd d : Int32} {lt f1s s2s : Nat → Int32} (h : rowsOK dd lt f1s s2s) (c : ¬ dd ≤ d) : ¬ (30 : Int32) ≤ d := by
  rw [Int32.le_iff_toInt_le] at *
  have := h.1
  have z : (30 : Int32).toInt = 30 := rfl
  omega
/-- at the end of the pad, or before a sound deed -/
def goodP (pd : Nat → Int32) (ln po wr : Int32) : Prop := wr = 0 ∧ vp_in po 62 ∧ (ln ≤ po ∨ ∃ (n k : Nat) (lt pl f1s s2s tms : Nat → Int32), rowsG pd ln lt pl f1s s2s tms n k po)
def goodD (pd : Nat → Int32) (ln q w l f s : Int32) : Prop := goodP pd ln (q + 1) w ∧ (l = 112 → vp_in f 2 ∧ dotsOK s) ∧ (¬ l = 112 → l = 115 → vp_in f 4) ∧ (¬ l = 112 → ¬ l = 115 → vp_in f 4 ∧ vp_in s 2)
theorem goodP_po {pd : Nat → Int32} {ln po wr : Int32} (h : padr pd pd ln) (g : goodP pd ln po wr) (c : ¬ ln ≤ po) : poOK po ln := by
  have l := h.1
  have p := g.2.1
  refine ⟨?_, l⟩
  rw [vp_in_iff] at *
  rw [Int32.le_iff_toInt_le] at c
  omega
theorem goodP_deed {pd : Nat → Int32} {ln po wr fr sc q w l f s t : Int32} (h : padr pd pd ln) (g : goodP pd ln po wr) (c : ¬ ln ≤ po) (hw : (q, w, l, f, s, t) = sh_X5_deed pd ln po wr fr sc) : goodD pd ln q w l f s := by
  have hp := goodP_po h g c
  obtain ⟨rfl, g2, g3⟩ := g
  rcases g3 with g3 | ⟨n, k, lt, pl, f1s, s2s, tms, g3⟩
  · exact absurd g3 c
  · cases n with
    | zero =>
      have g3 : po.toInt = ln.toInt + 1 := g3
      rw [Int32.le_iff_toInt_le] at c
      omega
    | succ n =>
      obtain ⟨_, _, _, e, g4, g5⟩ := g3
      have r := g4 fr sc
      have d := (q_deed (dd := 0) (lt := lt) (pl := pl) (f1s := f1s) (s2s := s2s) (tms := tms) (fr := fr) (sc := sc) h hp (by decide)).2
      rw [← hw] at r d
      obtain ⟨r1, r2, r3, r4, r5, r6⟩ := r
      obtain ⟨_, _, d3, d⟩ := d r2
      have r1 : q = e := r1
      have r2 : w = 0 := r2
      subst r1 r2
      refine ⟨⟨rfl, ?_, Or.inr ⟨n, k + 1, lt, pl, f1s, s2s, tms, g5⟩⟩, ?_⟩
      · have p : vp_in q 61 := d3.1
        have u : (q + 1).toInt = q.toInt + 1 := up1_to d3
        rw [vp_in_iff] at *
        omega
      · rcases d with ⟨d1, d2, d3, _⟩ | ⟨d1, d2⟩ | ⟨d1, d2, d3⟩
        · have d1 : l = 112 := d1
          exact ⟨fun _ => ⟨d2, d3⟩, fun c => absurd d1 c, fun c => absurd d1 c⟩
        · have d1 : l = 115 := d1
          exact ⟨fun c => absurd (d1 ▸ c) (by decide), fun _ _ => d2, fun _ c => absurd d1 c⟩
        · have d1 : l = 109 := d1
          exact ⟨fun c => absurd (d1 ▸ c) (by decide), fun _ c => absurd (d1 ▸ c) (by decide), fun _ _ => ⟨d2, d3⟩⟩
theorem goodP_job {pd : Nat → Int32} {ln lt fr sc tm r po1 wr1 lt1 fr1 sc1 tm1 : Int32} (h : padr pd pd ln) (hw : (r, po1, wr1, lt1, fr1, sc1, tm1) = sh_X5_isJob pd ln lt fr sc tm) (c : ¬ r = 0) : goodP pd ln 0 wr1 := by
  have J := q_fault h (fun _ => 0) (fun _ => 0) (fun _ => 0) (fun _ => 0) (fun _ => 0) lt fr sc tm
  rw [← hw] at J
  obtain ⟨_, j2, n, _, _, j3, _⟩ := J.2 c
  exact ⟨j2, k_in (by decide), Or.inr ⟨n, _, _, _, _, _, _, j3⟩⟩
theorem run_mu {ln po q : Int32} {n : Nat} (hmu : (ln.toInt - po.toInt).toNat < n + 1) (c : ¬ ln ≤ po) (hs : poS po q ln) : (ln.toInt - (q + 1).toInt).toNat < n := by
  have u := up1_to hs.1
  have := hs.2
  rw [Int32.le_iff_toInt_le] at c
  omega
