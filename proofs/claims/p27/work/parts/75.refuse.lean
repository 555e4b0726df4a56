/-- what the law hands to refuses -/
def yR (y : Int32) : Prop := 0 ≤ y.toInt ∧ y.toInt < 100000
def outN (n : Int32) : Prop := n.toInt < 0 ∨ 3 < n.toInt
section RFS
variable {y no x1 x2 : Int32} {N : TMa} {oo zz ln rs de pc pg : Int32} {M0 M1 M2 M3 : TMa} {sg lt pl f1s s2s tms : Nat → Int32}
theorem y_add (h : yR y) {k : Int32} {n : Int} (hk : k.toInt = n) (h0 : 0 ≤ n) (h1 : n ≤ 100000) : (k + y).toInt = n + y.toInt := by
  unfold yR at h
  rw [iadd_to (by omega) (by omega), hk]
theorem y_sub (h : yR y) {k : Int32} {n : Int} (hk : k.toInt = n) (h0 : -10 ≤ n) (h1 : n ≤ 100000) : (k - y).toInt = n - y.toInt := by
  unfold yR at h
  rw [isub_to (by omega) (by omega), hk]
theorem no_out (h : yR y) {v : Int32} (hv : v = if y - y / 2 * 2 = 0 then 4 + y else -1 - y) : outN v := by
  have a := y_add h (k := 4) (n := 4) rfl (by decide) (by decide)
  have b := y_sub h (k := -1) (n := -1) rfl (by decide) (by decide)
  unfold yR at h
  unfold outN
  rw [hv]
  split <;> omega
theorem out_cup (h : outN no) : sh_X4_isCup no = 0 := by
  unfold outN at h
  have z : (0 : Int32).toInt = 0 := rfl
  have f : (4 : Int32).toInt = 4 := rfl
  unfold sh_X4_isCup
  by_cases a : no < 0
  · rw [if_pos a]
  · rw [if_neg a, if_pos]
    rw [Int32.lt_iff_toInt_lt] at a
    rw [Int32.le_iff_toInt_le]; omega
theorem out_prn (h : outN no) : sh_X4_isPrinter no = 0 := by
  unfold outN at h
  have z : (0 : Int32).toInt = 0 := rfl
  have f : (2 : Int32).toInt = 2 := rfl
  unfold sh_X4_isPrinter
  by_cases a : no < 0
  · rw [if_pos a]
  · rw [if_neg a, if_pos]
    rw [Int32.lt_iff_toInt_lt] at a
    rw [Int32.le_iff_toInt_le]; omega
theorem dots_hi (h : yR y) : sh_X4_isDots (1000 + y) = 0 := by
  have a := y_add h (k := 1000) (n := 1000) rfl (by decide) (by decide)
  unfold yR at h
  have o : (1 : Int32).toInt = 1 := rfl
  have n : (999 : Int32).toInt = 999 := rfl
  unfold sh_X4_isDots
  rw [if_neg (by rw [Int32.lt_iff_toInt_lt]; omega), if_pos (by rw [Int32.lt_iff_toInt_lt]; omega)]
theorem job_hi (h : yR y) : sh_X4_isJobLength (51 + y) = 0 := by
  have a := y_add h (k := 51) (n := 51) rfl (by decide) (by decide)
  unfold yR at h
  have o : (1 : Int32).toInt = 1 := rfl
  have n : (50 : Int32).toInt = 50 := rfl
  unfold sh_X4_isJobLength
  rw [if_neg (by rw [Int32.lt_iff_toInt_lt]; omega), if_pos (by rw [Int32.lt_iff_toInt_lt]; omega)]
theorem nf_print (h : sh_X4_isPrinter x1 = 0 ∨ sh_X4_isDots x2 = 0) : sh_X4_print N oo zz M0 M1 M2 M3 x1 x2 = (-1, N, oo, zz, M0, M1, M2, M3) := by
  unfold sh_X4_print
  by_cases a : sh_X4_isPrinter x1 = 0
  · rw [if_pos a]
  · rw [if_neg a, if_pos (h.resolve_left a)]
theorem nf_shake (h : outN no) : sh_X4_shake N oo zz M0 M1 M2 M3 no = (-1, N, oo, zz, M0, M1, M2, M3) := by
  unfold sh_X4_shake
  rw [if_pos (out_cup h)]
theorem nf_move (h : sh_X4_isCup x1 = 0 ∨ sh_X4_isPrinter x2 = 0) : sh_X4_move N oo zz M0 M1 M2 M3 x1 x2 = (-1, N, oo, zz, M0, M1, M2, M3) := by
  unfold sh_X4_move
  by_cases a : sh_X4_isCup x1 = 0
  · rw [if_pos a]
  · rw [if_neg a, if_pos (h.resolve_left a)]
theorem nf_takeOut (h : outN no) : sh_X4_takeOut N oo zz M0 M1 M2 M3 no = (-1, N, oo, zz, M0, M1, M2, M3) := by
  unfold sh_X4_takeOut
  rw [if_pos (out_prn h)]
theorem nf_refill1 (h : outN no) : sh_X4_refill N oo zz M0 M1 M2 M3 no x2 = (-1, N, oo, zz, M0, M1, M2, M3) := by
  unfold sh_X4_refill
  rw [if_pos (out_cup h)]
theorem nf_refill2 : sh_X4_refill N oo zz M0 M1 M2 M3 0 0 = (-1, N, oo, zz, M0, M1, M2, M3) := by
  unfold sh_X4_refill
  rw [if_neg (by decide), if_pos (by decide)]
theorem nf_refill3 (h : yR y) : sh_X4_refill N oo zz M0 M1 M2 M3 0 (6001 + y) = (-1, N, oo, zz, M0, M1, M2, M3) := by
  have a := y_add h (k := 6001) (n := 6001) rfl (by decide) (by decide)
  unfold yR at h
  have o : (1 : Int32).toInt = 1 := rfl
  have n : (6000 : Int32).toInt = 6000 := rfl
  unfold sh_X4_refill
  rw [if_neg (by decide), if_neg (by rw [Int32.lt_iff_toInt_lt]; omega), if_neg (by rw [Int32.le_iff_toInt_le]; omega)]
theorem nf_set1 (h : outN no) : sh_X4_set N oo zz M0 M1 M2 M3 no x2 = (-1, N, oo, zz, M0, M1, M2, M3) := by
  unfold outN at h
  have z : (0 : Int32).toInt = 0 := rfl
  have f : (4 : Int32).toInt = 4 := rfl
  unfold sh_X4_set
  by_cases a : no < 0
  · rw [if_pos a]
  · rw [if_neg a, if_neg]
    rw [Int32.lt_iff_toInt_lt] at a ⊢
    omega
theorem nf_set2 : sh_X4_set N oo zz M0 M1 M2 M3 0 0 = (-1, N, oo, zz, M0, M1, M2, M3) := by
  unfold sh_X4_set
  rw [if_neg (by decide), if_pos (by decide), if_pos (by decide)]
theorem nf_set3 (h : yR y) : sh_X4_set N oo zz M0 M1 M2 M3 1 (51 + y) = (-1, N, oo, zz, M0, M1, M2, M3) := by
  have a := y_add h (k := 51) (n := 51) rfl (by decide) (by decide)
  unfold yR at h
  have o : (lowF (1 : Int32).toNatClampNeg).toInt = 2 := rfl
  have n : (highF (1 : Int32).toNatClampNeg).toInt = 50 := rfl
  unfold sh_X4_set
  rw [if_neg (by decide), if_pos (by decide), if_neg (by rw [Int32.lt_iff_toInt_lt]; omega), if_neg (by rw [Int32.le_iff_toInt_le]; omega)]
theorem nf_set4 (h : yR y) : sh_X4_set N oo zz M0 M1 M2 M3 2 (-1 - y) = (-1, N, oo, zz, M0, M1, M2, M3) := by
  have a := y_sub h (k := -1) (n := -1) rfl (by decide) (by decide)
  unfold yR at h
  have o : (lowF (2 : Int32).toNatClampNeg).toInt = 0 := rfl
  unfold sh_X4_set
  rw [if_neg (by decide), if_pos (by decide), if_pos (by rw [Int32.lt_iff_toInt_lt]; omega)]
theorem nf_set5 (h : yR y) : sh_X4_set N oo zz M0 M1 M2 M3 3 (501 + y) = (-1, N, oo, zz, M0, M1, M2, M3) := by
  have a := y_add h (k := 501) (n := 501) rfl (by decide) (by decide)
  unfold yR at h
  have o : (lowF (3 : Int32).toNatClampNeg).toInt = 1 := rfl
  have n : (highF (3 : Int32).toNatClampNeg).toInt = 500 := rfl
  unfold sh_X4_set
  rw [if_neg (by decide), if_pos (by decide), if_neg (by rw [Int32.lt_iff_toInt_lt]; omega), if_neg (by rw [Int32.le_iff_toInt_le]; omega)]
theorem nf_app1 (h : yR y) : sh_X4_append sg ln (32 - y) = (-1, sg, ln) := by
  have a := y_sub h (k := 32) (n := 32) rfl (by decide) (by decide)
  unfold yR at h
  have o : (33 : Int32).toInt = 33 := rfl
  unfold sh_X4_append
  rw [if_pos (by rw [Int32.lt_iff_toInt_lt]; omega)]
theorem nf_app2 (h : yR y) : sh_X4_append sg ln (127 + y) = (-1, sg, ln) := by
  have a := y_add h (k := 127) (n := 127) rfl (by decide) (by decide)
  unfold yR at h
  have o : (33 : Int32).toInt = 33 := rfl
  have n : (126 : Int32).toInt = 126 := rfl
  unfold sh_X4_append
  rw [if_neg (by rw [Int32.lt_iff_toInt_lt]; omega), if_neg (by rw [Int32.le_iff_toInt_le]; omega)]
theorem nf_why (h : outN no) : sh_X4_why rs de pc pg no = -1 := by
  unfold outN at h
  have e : ∀ k : Int32, 0 ≤ k.toInt → k.toInt ≤ 3 → ¬ no = k := fun k a b e => by rw [e] at h; omega
  unfold sh_X4_why
  rw [if_neg (e 0 (by decide) (by decide)), if_neg (e 1 (by decide) (by decide)), if_neg (e 2 (by decide) (by decide)), if_neg (e 3 (by decide) (by decide))]
theorem nf_cup1 (h : outN no) : sh_X4_cup N no x2 = -1 := by
  unfold sh_X4_cup
  rw [if_pos (out_cup h)]
theorem y_ne (h : yR y) {k j : Int32} {n : Int} (hk : k.toInt = n) (h0 : 0 ≤ n) (h1 : n ≤ 100000) (hj : j.toInt < n) : ¬ k + y = j := fun e => by
  have a := y_add h hk h0 h1
  unfold yR at h
  rw [e] at a
  omega
theorem nf_cup2 (h : yR y) : sh_X4_cup N 0 (8 + y) = -1 := by
  have e : ∀ j : Int32, j.toInt < 8 → ¬ 8 + y = j := fun j hj => y_ne h (k := 8) (n := 8) rfl (by decide) (by decide) hj
  rw [cup_at (k_in (by decide)), if_neg (e 0 (by decide)), if_neg (e 1 (by decide)), if_neg (e 2 (by decide)), if_neg (e 3 (by decide)), if_neg (e 4 (by decide)), if_neg (e 5 (by decide)), if_neg (e 6 (by decide)), if_neg (e 7 (by decide))]
theorem nf_prn1 (h : outN no) : sh_X4_printer N no x2 = -1 := by
  unfold sh_X4_printer
  rw [if_pos (out_prn h)]
theorem nf_prn2 (h : yR y) : sh_X4_printer N 0 (6 + y) = -1 := by
  have e : ∀ j : Int32, j.toInt < 6 → ¬ 6 + y = j := fun j hj => y_ne h (k := 6) (n := 6) rfl (by decide) (by decide) hj
  rw [prn_at (k_in (by decide)), if_neg (e 0 (by decide)), if_neg (e 1 (by decide)), if_neg (e 2 (by decide)), if_neg (e 3 (by decide)), if_neg (e 4 (by decide)), if_neg (e 5 (by decide))]
theorem nf_needs1 (h : outN no) {x3 : Int32} : sh_X4_needs N no x2 x3 = -1 := by
  unfold sh_X4_needs
  rw [if_pos (out_cup h)]
theorem nf_needs2 (h : yR y) {x3 : Int32} : sh_X4_needs N 0 (1000 + y) x3 = -1 := by
  unfold sh_X4_needs
  rw [if_neg (by decide), if_pos (dots_hi h)]
theorem nf_needs3 (h : yR y) : sh_X4_needs N 0 1 (2 + y) = -1 := by
  have e : ∀ j : Int32, j.toInt < 2 → ¬ 2 + y = j := fun j hj => y_ne h (k := 2) (n := 2) rfl (by decide) (by decide) hj
  unfold sh_X4_needs
  rw [if_neg (by decide), if_neg (by decide), if_neg (e 0 (by decide)), if_neg (e 1 (by decide))]
theorem nf_whyNot (h : outN no) : sh_X4_whyNot N no = -1 := by
  unfold sh_X4_whyNot
  rw [if_pos (out_prn h)]
theorem cnt_out {w : Int32} (h : w.toInt < 0 ∨ 13 < w.toInt) : sh_X4_count N zz ln w = -1 := by
  have e : ∀ j : Int32, 0 ≤ j.toInt → j.toInt ≤ 13 → ¬ w = j := fun j a b e => by rw [e] at h; omega
  unfold sh_X4_count
  rw [if_neg (e 0 (by decide) (by decide)), if_neg (e 1 (by decide) (by decide)), if_neg (e 2 (by decide) (by decide)), if_neg (e 3 (by decide) (by decide)), if_neg (e 4 (by decide) (by decide)), if_neg (e 5 (by decide) (by decide)), if_neg (e 6 (by decide) (by decide)), if_neg (e 7 (by decide) (by decide)), if_neg (e 8 (by decide) (by decide)), if_neg (e 9 (by decide) (by decide)), if_neg (e 10 (by decide) (by decide)), if_neg (e 11 (by decide) (by decide)), if_neg (e 12 (by decide) (by decide)), if_neg (e 13 (by decide) (by decide))]
theorem nf_cnt1 (h : yR y) : sh_X4_count N zz ln (14 + y) = -1 := by
  have a := y_add h (k := 14) (n := 14) rfl (by decide) (by decide)
  unfold yR at h
  exact cnt_out (by omega)
theorem nf_cnt2 (h : yR y) : sh_X4_count N zz ln (-1 - y) = -1 := by
  have a := y_sub h (k := -1) (n := -1) rfl (by decide) (by decide)
  unfold yR at h
  exact cnt_out (by omega)
theorem nf_lasts (h : outN no) {x3 : Int32} : sh_X4_lasts N no x2 x3 = -1 := by
  unfold sh_X4_lasts
  rw [if_pos (out_cup h)]
theorem nf_hand1 (h : yR y) : sh_X4_atHand N 0 1 (51 + y) 0 = -1 := by
  have a := y_add h (k := 51) (n := 51) rfl (by decide) (by decide)
  unfold yR at h
  have z : (0 : Int32).toInt = 0 := rfl
  have n : (50 : Int32).toInt = 50 := rfl
  unfold sh_X4_atHand
  rw [if_neg (by decide), if_neg (by decide), if_neg (by rw [Int32.lt_iff_toInt_lt]; omega), if_pos (by rw [Int32.lt_iff_toInt_lt]; omega)]
theorem nf_hand2 (h : yR y) : sh_X4_atHand N 0 1 1 (2 + y) = -1 := by
  have a := y_add h (k := 2) (n := 2) rfl (by decide) (by decide)
  unfold yR at h
  have z : (0 : Int32).toInt = 0 := rfl
  have n : (1 : Int32).toInt = 1 := rfl
  unfold sh_X4_atHand
  rw [if_neg (by decide), if_neg (by decide), if_neg (by decide), if_neg (by decide), if_neg (by rw [Int32.lt_iff_toInt_lt]; omega), if_neg (by rw [Int32.le_iff_toInt_le]; omega)]
theorem nf_best1 : sh_X4_bestFor N 0 1 = -1 := by
  unfold sh_X4_bestFor
  rw [if_pos (by decide)]
theorem nf_best2 (h : yR y) : sh_X4_bestFor N 1 (51 + y) = -1 := by
  unfold sh_X4_bestFor
  rw [if_neg (by decide), if_pos (job_hi h)]
theorem nf_drk (h : outN no) {x3 : Int32} : sh_X4_darkest N no x2 x3 = -1 := by
  unfold sh_X4_darkest
  rw [if_pos (out_cup h)]
/-! the empty pad -/
theorem ff_0 : sh_X2_findFault sg 0 lt pl f1s s2s tms = (0, 0, 1, upd lt (0 : Int32).toNatClampNeg (vp_nar .char 109), upd pl (0 : Int32).toNatClampNeg 0, f1s, s2s, tms) := by
  have r : ∀ x, sh_X2_read sg 0 0 x = (0, 0) := fun x => by
    unfold sh_X2_read
    rw [if_pos (by decide)]
  have d : sh_X2_readDeed sg 0 0 0 lt pl f1s s2s tms = (0, 0, 1, upd lt (0 : Int32).toNatClampNeg (vp_nar .char 109), upd pl (0 : Int32).toNatClampNeg 0, f1s, s2s, tms) := by
    unfold sh_X2_readDeed
    rw [if_pos (by decide)]
    simp only [kb, r, if_true]
    rfl
  unfold sh_X2_findFault
  rw [d]
  simp only [kb]
  rw [lp_X2_findFault_17, if_neg (by decide), if_pos rfl, if_pos rfl]
theorem nf_fault : sh_X4_fault sg 0 lt pl f1s s2s tms = (0, 0, 1, upd lt (0 : Int32).toNatClampNeg (vp_nar .char 109), upd pl (0 : Int32).toNatClampNeg 0, f1s, s2s, tms) := by
  unfold sh_X4_fault
  rw [ff_0]
  rfl
theorem nf_run : sh_X4_run N oo zz M0 M1 M2 M3 rs de pc pg sg 0 lt pl f1s s2s tms = (-2, N, oo, zz, M0, M1, M2, M3, rs, de, pc, pg, 0, 0, 1, upd lt (0 : Int32).toNatClampNeg (vp_nar .char 109), upd pl (0 : Int32).toNatClampNeg 0, f1s, s2s, tms) := by
  unfold sh_X4_run
  rw [ff_0]
  simp only [kb]
  rw [if_neg (by decide)]
theorem nf_clear : sh_X4_clear ln = (ln, 0) := rfl
theorem nf_take2 {q : Int32} (hq : vp_in q 2) (c : sh_X4_printer N q 0 = -4) : sh_X4_takeOut N oo zz M0 M1 M2 M3 q = (-2, N, oo, zz, M0, M1, M2, M3) := by
  rw [prn_0 hq] at c
  unfold sh_X4_takeOut
  rw [if_neg (by rw [isPrn_in hq]; decide), c, if_pos isCup_no]
theorem ln_nn (h : padr sg sg ln) : ¬ ln < 0 := by
  have v := vp_in_iff.mp h.1
  have z : (0 : Int32).toInt = 0 := rfl
  rw [Int32.lt_iff_toInt_lt]; omega
end RFS
abbrev rm_L_refuses : Room := { frames := 6, cells := 0, slots := 0, locals := 141 }
theorem hd_L_refuses : hdT yL_refuses 2 := by decide +kernel
set_option maxHeartbeats 40000000 in
set_option maxRecDepth 100000 in
theorem rf_0 {p : Program} {l : Launch} {e : Env} {s : State} {m : MethodId} {args : Array Value} {below : List Frame} {meth : Method} {c : Code} {A : Nat → Prop} {Q : State → Prop} {D : va_G} {cI cC cQ : ClassId} {d0 : Nat} {n0 : Nat} {na : Nat → Nat} {s0 : Nat} {sa : Nat → Nat} {h1 : Nat} {h2 : Nat} {mm : Nat → Nat} {ma : Nat → Nat → Nat} {t0 : Nat} {p0 : Nat} {pa : Nat → Nat} {tk : Int32} {N : TMa} {S : TMa} {oo : Int32} {zz : Int32} {M0 : TMa} {M1 : TMa} {M2 : TMa} {M3 : TMa} {rs : Int32} {de : Int32} {pc : Int32} {pg : Int32} {sg : Nat → Int32} {ln : Int32} {po : Int32} {dd : Int32} {lt : Nat → Int32} {pl : Nat → Int32} {f1s : Nat → Int32} {s2s : Nat → Int32} {tms : Nat → Int32} {y1 : Int32} (F : FxM p s m c args A D cI cC cQ cL_refuses 5) (hy : yR y1) (go : ∀ (no : Int32), outN no → AtL p l e rm_L_refuses s m args below meth c A Q D 0 0 5 (DW cI cC cQ d0 n0 na s0 sa h1 h2 mm ma t0 p0 pa tk N S oo zz M0 M1 M2 M3 rs de pc pg sg ln po dd lt pl f1s s2s tms) [(2, .int no), (1, .int y1), (0, .ref d0)] 16 []) : AtL p l e rm_L_refuses s m args below meth c A Q D 0 0 5 (DW cI cC cQ d0 n0 na s0 sa h1 h2 mm ma t0 p0 pa tk N S oo zz M0 M1 M2 M3 rs de pc pg sg ln po dd lt pl f1s s2s tms) [(1, .int y1), (0, .ref d0)] 0 [] := by
  intro H locs ls hP hD hS hl
  obtain ⟨hx, hb, hml, hown, hts, hN, hA, hK⟩ := F
  refine lv_iload_n hx hb dL_refuses_0 rfl (lv_at hl 0 rfl) ?_
  refine lv_iconst (v := 2) hx hb dL_refuses_1 (by decide) ?_
  refine lv_irem hx hb dL_refuses_2 (by decide) ?_
  have K : ∀ (v3 : Int32) (H : Heap) (locs : List Loc) (ls : Array Slot), v3 = (if (y1 - y1 / 2 * 2) = 0 then (4 + y1) else ((-1) - y1)) → va_P D vwCl (DW cI cC cQ d0 n0 na s0 sa h1 h2 mm ma t0 p0 pa tk N S oo zz M0 M1 M2 M3 rs de pc pg sg ln po dd lt pl f1s s2s tms) H → va_D A (DW cI cC cQ d0 n0 na s0 sa h1 h2 mm ma t0 p0 pa tk N S oo zz M0 M1 M2 M3 rs de pc pg sg ln po dd lt pl f1s s2s tms) → va_S A s.heap H locs → lv_has ls 5 [(0, .ref d0), (1, .int y1)] → W p l e rm_L_refuses s m args below meth c H locs 0 0 Q (F0 m 15 ls [.int v3]) := by
    intro v3 H locs ls hv2 hP hD hS hl
    refine lv_istore_n (lv' := [(2, .int v3), (0, .ref d0), (1, .int y1)]) hx hb dL_refuses_15 rfl hl (by decide) rfl (fun ls hl => ?_)
    exact go v3 (no_out hy hv2) _ _ _ hP hD hS (lv_sub hl [0, 2, 1] rfl)
  refine lv_if_ne (tgt := 12) hx hb dL_refuses_3 (by decide) (fun c1 => ?_) (fun c1 => ?_)
  · skip
    refine lv_iconst (v := (-1)) hx hb dL_refuses_12 (by decide) ?_
    refine lv_iload_n hx hb dL_refuses_13 rfl (lv_at hl 0 rfl) ?_
    refine lv_isub hx hb dL_refuses_14 ?_
    exact K (((-1) - y1)) _ _ _ (by rw [if_neg c1]) hP hD hS (lv_sub hl [1, 0] rfl)
  · skip
    refine lv_iconst (v := 4) hx hb dL_refuses_6 (by decide) ?_
    refine lv_iload_n hx hb dL_refuses_7 rfl (lv_at hl 0 rfl) ?_
    refine lv_iadd hx hb dL_refuses_8 ?_
    refine lv_goto (tgt := 15) hx hb dL_refuses_9 (by decide) ?_
    exact K ((4 + y1)) _ _ _ (by rw [if_pos c1]) hP hD hS (lv_sub hl [1, 0] rfl)
set_option maxHeartbeats 40000000 in
set_option maxRecDepth 100000 in
theorem rf_16 {p : Program} {l : Launch} {e : Env} {s : State} {m : MethodId} {args : Array Value} {below : List Frame} {meth : Method} {c : Code} {A : Nat → Prop} {Q : State → Prop} {D : va_G} {cI cC cQ : ClassId} {d0 : Nat} {n0 : Nat} {na : Nat → Nat} {s0 : Nat} {sa : Nat → Nat} {h1 : Nat} {h2 : Nat} {mm : Nat → Nat} {ma : Nat → Nat → Nat} {t0 : Nat} {p0 : Nat} {pa : Nat → Nat} {tk : Int32} {N : TMa} {S : TMa} {oo : Int32} {zz : Int32} {M0 : TMa} {M1 : TMa} {M2 : TMa} {M3 : TMa} {rs : Int32} {de : Int32} {pc : Int32} {pg : Int32} {sg : Nat → Int32} {ln : Int32} {po : Int32} {dd : Int32} {lt : Nat → Int32} {pl : Nat → Int32} {f1s : Nat → Int32} {s2s : Nat → Int32} {tms : Nat → Int32} {y1 no : Int32} (F : FxM p s m c args A D cI cC cQ cL_refuses 5) (hZ : stZ A s s.heap) (hoo : vp_in oo 4) (hzz : vp_in zz 5) (hpad : padr sg sg ln) (hy : yR y1) (ho : outN no) (go : AtL p l e rm_L_refuses s m args below meth c A Q D 0 0 5 (DW cI cC cQ d0 n0 na s0 sa h1 h2 mm ma t0 p0 pa tk N S oo zz M0 M1 M2 M3 rs de pc pg sg ln po dd lt pl f1s s2s tms) [(2, .int no), (1, .int y1), (0, .ref d0)] 79 []) : AtL p l e rm_L_refuses s m args below meth c A Q D 0 0 5 (DW cI cC cQ d0 n0 na s0 sa h1 h2 mm ma t0 p0 pa tk N S oo zz M0 M1 M2 M3 rs de pc pg sg ln po dd lt pl f1s s2s tms) [(2, .int no), (1, .int y1), (0, .ref d0)] 16 [] := by
  intro H locs ls hP hD hS hl
  obtain ⟨hx, hb, hml, hown, hts, hN, hA, hK⟩ := F
  refine lv_aload_n hx hb dL_refuses_16 rfl (lv_at hl 2 rfl) ?_
  refine lv_iload_n hx hb dL_refuses_17 rfl (lv_at hl 0 rfl) ?_
  refine lv_iconst (v := 1) hx hb dL_refuses_18 (by decide) ?_
  have hPs := k_self hP
  have hDs := k_selfD hD
  refine k_behi (X := []) (Y := []) (va_runV (As := [.int no, .int 1]) (rest := []) ⟨hx, hb, hml, hown, hts⟩ (c_X4_print l D cI cC cQ H.size d0 n0 na s0 sa h1 h2 mm ma t0 p0 pa tk N S oo zz M0 M1 M2 M3 rs de pc pg sg ln po dd lt pl f1s s2s tms no 1 (hoo) (hzz)) (kcwV hts wd_ml_RL_50 wd_im_yX4_print wd_sel_yX4_print wd_ini_RX4 wd_code_yX4_print rfl rfl rfl hd_X4_print ⟨Nat.le_of_ble_eq_true rfl, Nat.le_of_ble_eq_true rfl⟩) ⟨in_blind, va_recv hK (pa_l (pa_r hPs)) (ci := 4) (q0 := 0) rfl rfl, k_pre hK (pa_l (pa_r hPs)) (da_l (da_r hDs)) hN⟩ rfl rfl hl.1 rfl (lv_room (Nat.le_of_ble_eq_true rfl)) dL_refuses_19 ⟨Nat.le_of_ble_eq_true rfl, Nat.le_of_ble_eq_true rfl⟩) hPs hDs hS hA (fun r1 u2 H locs hw3 hP hD hS => ?_)
  have hw3 : (r1, u2) = (sh_X4_print N oo zz M0 M1 M2 M3 no 1) := hw3
  obtain ⟨hr9, hu9⟩ := Prod.mk.inj (hw3.trans (nf_print (Or.inl (out_prn ho))))
  rw [hr9]
  subst hu9
  have hP := k_unP hP
  have hD := k_unD hD
  have hP : va_P D vwCl (DW cI cC cQ d0 n0 na s0 sa h1 h2 mm ma t0 p0 pa tk N S oo zz M0 M1 M2 M3 rs de pc pg sg ln po dd lt pl f1s s2s tms) H := hP
  have hD : va_D A (DW cI cC cQ d0 n0 na s0 sa h1 h2 mm ma t0 p0 pa tk N S oo zz M0 M1 M2 M3 rs de pc pg sg ln po dd lt pl f1s s2s tms) := hD
  refine lv_iconst (v := (-1)) hx hb dL_refuses_22 (by decide) ?_
  refine lv_icmp_ne (tgt := 409) hx hb dL_refuses_23 (by decide) (fun c9 => absurd c9 (by decide)) (fun _ => ?_)
  refine lv_aload_n hx hb dL_refuses_26 rfl (lv_at hl 2 rfl) ?_
  refine lv_iconst (v := 0) hx hb dL_refuses_27 (by decide) ?_
  refine lv_iconst (v := 0) hx hb dL_refuses_28 (by decide) ?_
  have hPs := k_self hP
  have hDs := k_selfD hD
  refine k_behi (X := []) (Y := []) (va_runV (As := [.int 0, .int 0]) (rest := []) ⟨hx, hb, hml, hown, hts⟩ (c_X4_print l D cI cC cQ H.size d0 n0 na s0 sa h1 h2 mm ma t0 p0 pa tk N S oo zz M0 M1 M2 M3 rs de pc pg sg ln po dd lt pl f1s s2s tms 0 0 (hoo) (hzz)) (kcwV hts wd_ml_RL_50 wd_im_yX4_print wd_sel_yX4_print wd_ini_RX4 wd_code_yX4_print rfl rfl rfl hd_X4_print ⟨Nat.le_of_ble_eq_true rfl, Nat.le_of_ble_eq_true rfl⟩) ⟨in_blind, va_recv hK (pa_l (pa_r hPs)) (ci := 4) (q0 := 0) rfl rfl, k_pre hK (pa_l (pa_r hPs)) (da_l (da_r hDs)) hN⟩ rfl rfl hl.1 rfl (lv_room (Nat.le_of_ble_eq_true rfl)) dL_refuses_29 ⟨Nat.le_of_ble_eq_true rfl, Nat.le_of_ble_eq_true rfl⟩) hPs hDs hS hA (fun r4 u5 H locs hw6 hP hD hS => ?_)
  have hw6 : (r4, u5) = (sh_X4_print N oo zz M0 M1 M2 M3 0 0) := hw6
  obtain ⟨hr9, hu9⟩ := Prod.mk.inj (hw6.trans (nf_print (Or.inr (by decide))))
  rw [hr9]
  subst hu9
  have hP := k_unP hP
  have hD := k_unD hD
  have hP : va_P D vwCl (DW cI cC cQ d0 n0 na s0 sa h1 h2 mm ma t0 p0 pa tk N S oo zz M0 M1 M2 M3 rs de pc pg sg ln po dd lt pl f1s s2s tms) H := hP
  have hD : va_D A (DW cI cC cQ d0 n0 na s0 sa h1 h2 mm ma t0 p0 pa tk N S oo zz M0 M1 M2 M3 rs de pc pg sg ln po dd lt pl f1s s2s tms) := hD
  refine lv_iconst (v := (-1)) hx hb dL_refuses_32 (by decide) ?_
  refine lv_icmp_ne (tgt := 409) hx hb dL_refuses_33 (by decide) (fun c9 => absurd c9 (by decide)) (fun _ => ?_)
  refine lv_aload_n hx hb dL_refuses_36 rfl (lv_at hl 2 rfl) ?_
  refine lv_iconst (v := 1) hx hb dL_refuses_37 (by decide) ?_
  refine lv_sipush (v := 1000) hx hb dL_refuses_38 (by decide) ?_
  refine lv_iload_n hx hb dL_refuses_41 rfl (lv_at hl 1 rfl) ?_
  refine lv_iadd hx hb dL_refuses_42 ?_
  have hPs := k_self hP
  have hDs := k_selfD hD
  refine k_behi (X := []) (Y := []) (va_runV (As := [.int 1, .int (1000 + y1)]) (rest := []) ⟨hx, hb, hml, hown, hts⟩ (c_X4_print l D cI cC cQ H.size d0 n0 na s0 sa h1 h2 mm ma t0 p0 pa tk N S oo zz M0 M1 M2 M3 rs de pc pg sg ln po dd lt pl f1s s2s tms 1 (1000 + y1) (hoo) (hzz)) (kcwV hts wd_ml_RL_50 wd_im_yX4_print wd_sel_yX4_print wd_ini_RX4 wd_code_yX4_print rfl rfl rfl hd_X4_print ⟨Nat.le_of_ble_eq_true rfl, Nat.le_of_ble_eq_true rfl⟩) ⟨in_blind, va_recv hK (pa_l (pa_r hPs)) (ci := 4) (q0 := 0) rfl rfl, k_pre hK (pa_l (pa_r hPs)) (da_l (da_r hDs)) hN⟩ rfl rfl hl.1 rfl (lv_room (Nat.le_of_ble_eq_true rfl)) dL_refuses_43 ⟨Nat.le_of_ble_eq_true rfl, Nat.le_of_ble_eq_true rfl⟩) hPs hDs hS hA (fun r7 u8 H locs hw9 hP hD hS => ?_)
  have hw9 : (r7, u8) = (sh_X4_print N oo zz M0 M1 M2 M3 1 (1000 + y1)) := hw9
  obtain ⟨hr9, hu9⟩ := Prod.mk.inj (hw9.trans (nf_print (Or.inr (dots_hi hy))))
  rw [hr9]
  subst hu9
  have hP := k_unP hP
  have hD := k_unD hD
  have hP : va_P D vwCl (DW cI cC cQ d0 n0 na s0 sa h1 h2 mm ma t0 p0 pa tk N S oo zz M0 M1 M2 M3 rs de pc pg sg ln po dd lt pl f1s s2s tms) H := hP
  have hD : va_D A (DW cI cC cQ d0 n0 na s0 sa h1 h2 mm ma t0 p0 pa tk N S oo zz M0 M1 M2 M3 rs de pc pg sg ln po dd lt pl f1s s2s tms) := hD
  refine lv_iconst (v := (-1)) hx hb dL_refuses_46 (by decide) ?_
  refine lv_icmp_ne (tgt := 409) hx hb dL_refuses_47 (by decide) (fun c9 => absurd c9 (by decide)) (fun _ => ?_)
  refine lv_aload_n hx hb dL_refuses_50 rfl (lv_at hl 2 rfl) ?_
  refine lv_iload_n hx hb dL_refuses_51 rfl (lv_at hl 0 rfl) ?_
  have hPs := k_self hP
  have hDs := k_selfD hD
  refine k_behi (X := []) (Y := []) (va_runV (As := [.int no]) (rest := []) ⟨hx, hb, hml, hown, hts⟩ (c_X4_shake l D cI cC cQ H.size d0 n0 na s0 sa h1 h2 mm ma t0 p0 pa tk N S oo zz M0 M1 M2 M3 rs de pc pg sg ln po dd lt pl f1s s2s tms no (hoo) (hzz)) (kcwV hts wd_ml_RL_9 wd_im_yX4_shake wd_sel_yX4_shake wd_ini_RX4 wd_code_yX4_shake rfl rfl rfl hd_X4_shake ⟨Nat.le_of_ble_eq_true rfl, Nat.le_of_ble_eq_true rfl⟩) ⟨in_blind, va_recv hK (pa_l (pa_r hPs)) (ci := 4) (q0 := 0) rfl rfl, k_pre hK (pa_l (pa_r hPs)) (da_l (da_r hDs)) hN⟩ rfl rfl hl.1 rfl (lv_room (Nat.le_of_ble_eq_true rfl)) dL_refuses_52 ⟨Nat.le_of_ble_eq_true rfl, Nat.le_of_ble_eq_true rfl⟩) hPs hDs hS hA (fun r10 u11 H locs hw12 hP hD hS => ?_)
  have hw12 : (r10, u11) = (sh_X4_shake N oo zz M0 M1 M2 M3 no) := hw12
  obtain ⟨hr9, hu9⟩ := Prod.mk.inj (hw12.trans (nf_shake ho))
  rw [hr9]
  subst hu9
  have hP := k_unP hP
  have hD := k_unD hD
  have hP : va_P D vwCl (DW cI cC cQ d0 n0 na s0 sa h1 h2 mm ma t0 p0 pa tk N S oo zz M0 M1 M2 M3 rs de pc pg sg ln po dd lt pl f1s s2s tms) H := hP
  have hD : va_D A (DW cI cC cQ d0 n0 na s0 sa h1 h2 mm ma t0 p0 pa tk N S oo zz M0 M1 M2 M3 rs de pc pg sg ln po dd lt pl f1s s2s tms) := hD
  refine lv_iconst (v := (-1)) hx hb dL_refuses_55 (by decide) ?_
  refine lv_icmp_ne (tgt := 409) hx hb dL_refuses_56 (by decide) (fun c9 => absurd c9 (by decide)) (fun _ => ?_)
  refine lv_aload_n hx hb dL_refuses_59 rfl (lv_at hl 2 rfl) ?_
  refine lv_iload_n hx hb dL_refuses_60 rfl (lv_at hl 0 rfl) ?_
  refine lv_iconst (v := 0) hx hb dL_refuses_61 (by decide) ?_
  have hPs := k_self hP
  have hDs := k_selfD hD
  refine k_behi (X := []) (Y := []) (va_runV (As := [.int no, .int 0]) (rest := []) ⟨hx, hb, hml, hown, hts⟩ (c_X4_move l D cI cC cQ H.size d0 n0 na s0 sa h1 h2 mm ma t0 p0 pa tk N S oo zz M0 M1 M2 M3 rs de pc pg sg ln po dd lt pl f1s s2s tms no 0 (hoo) (hzz)) (kcwV hts wd_ml_RL_15 wd_im_yX4_move wd_sel_yX4_move wd_ini_RX4 wd_code_yX4_move rfl rfl rfl hd_X4_move ⟨Nat.le_of_ble_eq_true rfl, Nat.le_of_ble_eq_true rfl⟩) ⟨in_blind, va_recv hK (pa_l (pa_r hPs)) (ci := 4) (q0 := 0) rfl rfl, k_pre hK (pa_l (pa_r hPs)) (da_l (da_r hDs)) hN⟩ rfl rfl hl.1 rfl (lv_room (Nat.le_of_ble_eq_true rfl)) dL_refuses_62 ⟨Nat.le_of_ble_eq_true rfl, Nat.le_of_ble_eq_true rfl⟩) hPs hDs hS hA (fun r13 u14 H locs hw15 hP hD hS => ?_)
  have hw15 : (r13, u14) = (sh_X4_move N oo zz M0 M1 M2 M3 no 0) := hw15
  obtain ⟨hr9, hu9⟩ := Prod.mk.inj (hw15.trans (nf_move (Or.inl (out_cup ho))))
  rw [hr9]
  subst hu9
  have hP := k_unP hP
  have hD := k_unD hD
  have hP : va_P D vwCl (DW cI cC cQ d0 n0 na s0 sa h1 h2 mm ma t0 p0 pa tk N S oo zz M0 M1 M2 M3 rs de pc pg sg ln po dd lt pl f1s s2s tms) H := hP
  have hD : va_D A (DW cI cC cQ d0 n0 na s0 sa h1 h2 mm ma t0 p0 pa tk N S oo zz M0 M1 M2 M3 rs de pc pg sg ln po dd lt pl f1s s2s tms) := hD
  refine lv_iconst (v := (-1)) hx hb dL_refuses_65 (by decide) ?_
  refine lv_icmp_ne (tgt := 409) hx hb dL_refuses_66 (by decide) (fun c9 => absurd c9 (by decide)) (fun _ => ?_)
  refine lv_aload_n hx hb dL_refuses_69 rfl (lv_at hl 2 rfl) ?_
  refine lv_iconst (v := 0) hx hb dL_refuses_70 (by decide) ?_
  refine lv_iload_n hx hb dL_refuses_71 rfl (lv_at hl 0 rfl) ?_
  have hPs := k_self hP
  have hDs := k_selfD hD
  refine k_behi (X := []) (Y := []) (va_runV (As := [.int 0, .int no]) (rest := []) ⟨hx, hb, hml, hown, hts⟩ (c_X4_move l D cI cC cQ H.size d0 n0 na s0 sa h1 h2 mm ma t0 p0 pa tk N S oo zz M0 M1 M2 M3 rs de pc pg sg ln po dd lt pl f1s s2s tms 0 no (hoo) (hzz)) (kcwV hts wd_ml_RL_15 wd_im_yX4_move wd_sel_yX4_move wd_ini_RX4 wd_code_yX4_move rfl rfl rfl hd_X4_move ⟨Nat.le_of_ble_eq_true rfl, Nat.le_of_ble_eq_true rfl⟩) ⟨in_blind, va_recv hK (pa_l (pa_r hPs)) (ci := 4) (q0 := 0) rfl rfl, k_pre hK (pa_l (pa_r hPs)) (da_l (da_r hDs)) hN⟩ rfl rfl hl.1 rfl (lv_room (Nat.le_of_ble_eq_true rfl)) dL_refuses_72 ⟨Nat.le_of_ble_eq_true rfl, Nat.le_of_ble_eq_true rfl⟩) hPs hDs hS hA (fun r16 u17 H locs hw18 hP hD hS => ?_)
  have hw18 : (r16, u17) = (sh_X4_move N oo zz M0 M1 M2 M3 0 no) := hw18
  obtain ⟨hr9, hu9⟩ := Prod.mk.inj (hw18.trans (nf_move (Or.inr (out_prn ho))))
  rw [hr9]
  subst hu9
  have hP := k_unP hP
  have hD := k_unD hD
  have hP : va_P D vwCl (DW cI cC cQ d0 n0 na s0 sa h1 h2 mm ma t0 p0 pa tk N S oo zz M0 M1 M2 M3 rs de pc pg sg ln po dd lt pl f1s s2s tms) H := hP
  have hD : va_D A (DW cI cC cQ d0 n0 na s0 sa h1 h2 mm ma t0 p0 pa tk N S oo zz M0 M1 M2 M3 rs de pc pg sg ln po dd lt pl f1s s2s tms) := hD
  refine lv_iconst (v := (-1)) hx hb dL_refuses_75 (by decide) ?_
  refine lv_icmp_ne (tgt := 409) hx hb dL_refuses_76 (by decide) (fun c9 => absurd c9 (by decide)) (fun _ => ?_)
  exact go  _ _ _ hP hD hS (lv_sub hl [0, 1, 2] rfl)
set_option maxHeartbeats 40000000 in
set_option maxRecDepth 100000 in
theorem rf_79 {p : Program} {l : Launch} {e : Env} {s : State} {m : MethodId} {args : Array Value} {below : List Frame} {meth : Method} {c : Code} {A : Nat → Prop} {Q : State → Prop} {D : va_G} {cI cC cQ : ClassId} {d0 : Nat} {n0 : Nat} {na : Nat → Nat} {s0 : Nat} {sa : Nat → Nat} {h1 : Nat} {h2 : Nat} {mm : Nat → Nat} {ma : Nat → Nat → Nat} {t0 : Nat} {p0 : Nat} {pa : Nat → Nat} {tk : Int32} {N : TMa} {S : TMa} {oo : Int32} {zz : Int32} {M0 : TMa} {M1 : TMa} {M2 : TMa} {M3 : TMa} {rs : Int32} {de : Int32} {pc : Int32} {pg : Int32} {sg : Nat → Int32} {ln : Int32} {po : Int32} {dd : Int32} {lt : Nat → Int32} {pl : Nat → Int32} {f1s : Nat → Int32} {s2s : Nat → Int32} {tms : Nat → Int32} {y1 no : Int32} (F : FxM p s m c args A D cI cC cQ cL_refuses 5) (hZ : stZ A s s.heap) (hoo : vp_in oo 4) (hzz : vp_in zz 5) (hpad : padr sg sg ln) (hy : yR y1) (ho : outN no) (go : AtL p l e rm_L_refuses s m args below meth c A Q D 0 0 5 (DW cI cC cQ d0 n0 na s0 sa h1 h2 mm ma t0 p0 pa tk N S oo zz M0 M1 M2 M3 rs de pc pg sg ln po dd lt pl f1s s2s tms) [(2, .int no), (1, .int y1), (0, .ref d0)] 142 []) : AtL p l e rm_L_refuses s m args below meth c A Q D 0 0 5 (DW cI cC cQ d0 n0 na s0 sa h1 h2 mm ma t0 p0 pa tk N S oo zz M0 M1 M2 M3 rs de pc pg sg ln po dd lt pl f1s s2s tms) [(2, .int no), (1, .int y1), (0, .ref d0)] 79 [] := by
  intro H locs ls hP hD hS hl
  obtain ⟨hx, hb, hml, hown, hts, hN, hA, hK⟩ := F
  refine lv_aload_n hx hb dL_refuses_79 rfl (lv_at hl 2 rfl) ?_
  refine lv_iload_n hx hb dL_refuses_80 rfl (lv_at hl 0 rfl) ?_
  have hPs := k_self hP
  have hDs := k_selfD hD
  refine k_behi (X := []) (Y := []) (va_runV (As := [.int no]) (rest := []) ⟨hx, hb, hml, hown, hts⟩ (c_X4_takeOut l D cI cC cQ H.size d0 n0 na s0 sa h1 h2 mm ma t0 p0 pa tk N S oo zz M0 M1 M2 M3 rs de pc pg sg ln po dd lt pl f1s s2s tms no (hoo) (hzz)) (kcwV hts wd_ml_RL_19 wd_im_yX4_takeOut wd_sel_yX4_takeOut wd_ini_RX4 wd_code_yX4_takeOut rfl rfl rfl hd_X4_takeOut ⟨Nat.le_of_ble_eq_true rfl, Nat.le_of_ble_eq_true rfl⟩) ⟨in_blind, va_recv hK (pa_l (pa_r hPs)) (ci := 4) (q0 := 0) rfl rfl, k_pre hK (pa_l (pa_r hPs)) (da_l (da_r hDs)) hN⟩ rfl rfl hl.1 rfl (lv_room (Nat.le_of_ble_eq_true rfl)) dL_refuses_81 ⟨Nat.le_of_ble_eq_true rfl, Nat.le_of_ble_eq_true rfl⟩) hPs hDs hS hA (fun r1 u2 H locs hw3 hP hD hS => ?_)
  have hw3 : (r1, u2) = (sh_X4_takeOut N oo zz M0 M1 M2 M3 no) := hw3
  obtain ⟨hr9, hu9⟩ := Prod.mk.inj (hw3.trans (nf_takeOut ho))
  rw [hr9]
  subst hu9
  have hP := k_unP hP
  have hD := k_unD hD
  have hP : va_P D vwCl (DW cI cC cQ d0 n0 na s0 sa h1 h2 mm ma t0 p0 pa tk N S oo zz M0 M1 M2 M3 rs de pc pg sg ln po dd lt pl f1s s2s tms) H := hP
  have hD : va_D A (DW cI cC cQ d0 n0 na s0 sa h1 h2 mm ma t0 p0 pa tk N S oo zz M0 M1 M2 M3 rs de pc pg sg ln po dd lt pl f1s s2s tms) := hD
  refine lv_iconst (v := (-1)) hx hb dL_refuses_84 (by decide) ?_
  refine lv_icmp_ne (tgt := 409) hx hb dL_refuses_85 (by decide) (fun c9 => absurd c9 (by decide)) (fun _ => ?_)
  refine lv_aload_n hx hb dL_refuses_88 rfl (lv_at hl 2 rfl) ?_
  refine lv_iload_n hx hb dL_refuses_89 rfl (lv_at hl 0 rfl) ?_
  refine lv_iconst (v := 1) hx hb dL_refuses_90 (by decide) ?_
  have hPs := k_self hP
  have hDs := k_selfD hD
  refine k_behi (X := []) (Y := []) (va_runV (As := [.int no, .int 1]) (rest := []) ⟨hx, hb, hml, hown, hts⟩ (c_X4_refill l D cI cC cQ H.size d0 n0 na s0 sa h1 h2 mm ma t0 p0 pa tk N S oo zz M0 M1 M2 M3 rs de pc pg sg ln po dd lt pl f1s s2s tms no 1 (hoo) (hzz)) (kcwV hts wd_ml_RL_22 wd_im_yX4_refill wd_sel_yX4_refill wd_ini_RX4 wd_code_yX4_refill rfl rfl rfl hd_X4_refill ⟨Nat.le_of_ble_eq_true rfl, Nat.le_of_ble_eq_true rfl⟩) ⟨in_blind, va_recv hK (pa_l (pa_r hPs)) (ci := 4) (q0 := 0) rfl rfl, k_pre hK (pa_l (pa_r hPs)) (da_l (da_r hDs)) hN⟩ rfl rfl hl.1 rfl (lv_room (Nat.le_of_ble_eq_true rfl)) dL_refuses_91 ⟨Nat.le_of_ble_eq_true rfl, Nat.le_of_ble_eq_true rfl⟩) hPs hDs hS hA (fun r4 u5 H locs hw6 hP hD hS => ?_)
  have hw6 : (r4, u5) = (sh_X4_refill N oo zz M0 M1 M2 M3 no 1) := hw6
  obtain ⟨hr9, hu9⟩ := Prod.mk.inj (hw6.trans (nf_refill1 ho))
  rw [hr9]
  subst hu9
  have hP := k_unP hP
  have hD := k_unD hD
  have hP : va_P D vwCl (DW cI cC cQ d0 n0 na s0 sa h1 h2 mm ma t0 p0 pa tk N S oo zz M0 M1 M2 M3 rs de pc pg sg ln po dd lt pl f1s s2s tms) H := hP
  have hD : va_D A (DW cI cC cQ d0 n0 na s0 sa h1 h2 mm ma t0 p0 pa tk N S oo zz M0 M1 M2 M3 rs de pc pg sg ln po dd lt pl f1s s2s tms) := hD
  refine lv_iconst (v := (-1)) hx hb dL_refuses_94 (by decide) ?_
  refine lv_icmp_ne (tgt := 409) hx hb dL_refuses_95 (by decide) (fun c9 => absurd c9 (by decide)) (fun _ => ?_)
  refine lv_aload_n hx hb dL_refuses_98 rfl (lv_at hl 2 rfl) ?_
  refine lv_iconst (v := 0) hx hb dL_refuses_99 (by decide) ?_
  refine lv_iconst (v := 0) hx hb dL_refuses_100 (by decide) ?_
  have hPs := k_self hP
  have hDs := k_selfD hD
  refine k_behi (X := []) (Y := []) (va_runV (As := [.int 0, .int 0]) (rest := []) ⟨hx, hb, hml, hown, hts⟩ (c_X4_refill l D cI cC cQ H.size d0 n0 na s0 sa h1 h2 mm ma t0 p0 pa tk N S oo zz M0 M1 M2 M3 rs de pc pg sg ln po dd lt pl f1s s2s tms 0 0 (hoo) (hzz)) (kcwV hts wd_ml_RL_22 wd_im_yX4_refill wd_sel_yX4_refill wd_ini_RX4 wd_code_yX4_refill rfl rfl rfl hd_X4_refill ⟨Nat.le_of_ble_eq_true rfl, Nat.le_of_ble_eq_true rfl⟩) ⟨in_blind, va_recv hK (pa_l (pa_r hPs)) (ci := 4) (q0 := 0) rfl rfl, k_pre hK (pa_l (pa_r hPs)) (da_l (da_r hDs)) hN⟩ rfl rfl hl.1 rfl (lv_room (Nat.le_of_ble_eq_true rfl)) dL_refuses_101 ⟨Nat.le_of_ble_eq_true rfl, Nat.le_of_ble_eq_true rfl⟩) hPs hDs hS hA (fun r7 u8 H locs hw9 hP hD hS => ?_)
  have hw9 : (r7, u8) = (sh_X4_refill N oo zz M0 M1 M2 M3 0 0) := hw9
  obtain ⟨hr9, hu9⟩ := Prod.mk.inj (hw9.trans (nf_refill2))
  rw [hr9]
  subst hu9
  have hP := k_unP hP
  have hD := k_unD hD
  have hP : va_P D vwCl (DW cI cC cQ d0 n0 na s0 sa h1 h2 mm ma t0 p0 pa tk N S oo zz M0 M1 M2 M3 rs de pc pg sg ln po dd lt pl f1s s2s tms) H := hP
  have hD : va_D A (DW cI cC cQ d0 n0 na s0 sa h1 h2 mm ma t0 p0 pa tk N S oo zz M0 M1 M2 M3 rs de pc pg sg ln po dd lt pl f1s s2s tms) := hD
  refine lv_iconst (v := (-1)) hx hb dL_refuses_104 (by decide) ?_
  refine lv_icmp_ne (tgt := 409) hx hb dL_refuses_105 (by decide) (fun c9 => absurd c9 (by decide)) (fun _ => ?_)
  refine lv_aload_n hx hb dL_refuses_108 rfl (lv_at hl 2 rfl) ?_
  refine lv_iconst (v := 0) hx hb dL_refuses_109 (by decide) ?_
  refine lv_sipush (v := 6001) hx hb dL_refuses_110 (by decide) ?_
  refine lv_iload_n hx hb dL_refuses_113 rfl (lv_at hl 1 rfl) ?_
  refine lv_iadd hx hb dL_refuses_114 ?_
  have hPs := k_self hP
  have hDs := k_selfD hD
  refine k_behi (X := []) (Y := []) (va_runV (As := [.int 0, .int (6001 + y1)]) (rest := []) ⟨hx, hb, hml, hown, hts⟩ (c_X4_refill l D cI cC cQ H.size d0 n0 na s0 sa h1 h2 mm ma t0 p0 pa tk N S oo zz M0 M1 M2 M3 rs de pc pg sg ln po dd lt pl f1s s2s tms 0 (6001 + y1) (hoo) (hzz)) (kcwV hts wd_ml_RL_22 wd_im_yX4_refill wd_sel_yX4_refill wd_ini_RX4 wd_code_yX4_refill rfl rfl rfl hd_X4_refill ⟨Nat.le_of_ble_eq_true rfl, Nat.le_of_ble_eq_true rfl⟩) ⟨in_blind, va_recv hK (pa_l (pa_r hPs)) (ci := 4) (q0 := 0) rfl rfl, k_pre hK (pa_l (pa_r hPs)) (da_l (da_r hDs)) hN⟩ rfl rfl hl.1 rfl (lv_room (Nat.le_of_ble_eq_true rfl)) dL_refuses_115 ⟨Nat.le_of_ble_eq_true rfl, Nat.le_of_ble_eq_true rfl⟩) hPs hDs hS hA (fun r10 u11 H locs hw12 hP hD hS => ?_)
  have hw12 : (r10, u11) = (sh_X4_refill N oo zz M0 M1 M2 M3 0 (6001 + y1)) := hw12
  obtain ⟨hr9, hu9⟩ := Prod.mk.inj (hw12.trans (nf_refill3 hy))
  rw [hr9]
  subst hu9
  have hP := k_unP hP
  have hD := k_unD hD
  have hP : va_P D vwCl (DW cI cC cQ d0 n0 na s0 sa h1 h2 mm ma t0 p0 pa tk N S oo zz M0 M1 M2 M3 rs de pc pg sg ln po dd lt pl f1s s2s tms) H := hP
  have hD : va_D A (DW cI cC cQ d0 n0 na s0 sa h1 h2 mm ma t0 p0 pa tk N S oo zz M0 M1 M2 M3 rs de pc pg sg ln po dd lt pl f1s s2s tms) := hD
  refine lv_iconst (v := (-1)) hx hb dL_refuses_118 (by decide) ?_
  refine lv_icmp_ne (tgt := 409) hx hb dL_refuses_119 (by decide) (fun c9 => absurd c9 (by decide)) (fun _ => ?_)
  refine lv_aload_n hx hb dL_refuses_122 rfl (lv_at hl 2 rfl) ?_
  refine lv_iload_n hx hb dL_refuses_123 rfl (lv_at hl 0 rfl) ?_
  refine lv_iconst (v := 1) hx hb dL_refuses_124 (by decide) ?_
  have hPs := k_self hP
  have hDs := k_selfD hD
  refine k_behi (X := []) (Y := []) (va_runV (As := [.int no, .int 1]) (rest := []) ⟨hx, hb, hml, hown, hts⟩ (c_X4_set l D cI cC cQ H.size d0 n0 na s0 sa h1 h2 mm ma t0 p0 pa tk N S oo zz M0 M1 M2 M3 rs de pc pg sg ln po dd lt pl f1s s2s tms no 1 (hoo) (hzz)) (kcwV hts wd_ml_RL_25 wd_im_yX4_set wd_sel_yX4_set wd_ini_RX4 wd_code_yX4_set rfl rfl rfl hd_X4_set ⟨Nat.le_of_ble_eq_true rfl, Nat.le_of_ble_eq_true rfl⟩) ⟨in_blindZ, va_recv hK (pa_l (pa_r hPs)) (ci := 4) (q0 := 0) rfl rfl, k_preZ (p := p) hK hPs hDs hN hS hA hZ⟩ rfl rfl hl.1 rfl (lv_room (Nat.le_of_ble_eq_true rfl)) dL_refuses_125 ⟨Nat.le_of_ble_eq_true rfl, Nat.le_of_ble_eq_true rfl⟩) hPs hDs hS hA (fun r13 u14 H locs hw15 hP hD hS => ?_)
  have hw15 : (r13, u14) = (sh_X4_set N oo zz M0 M1 M2 M3 no 1) := hw15
  obtain ⟨hr9, hu9⟩ := Prod.mk.inj (hw15.trans (nf_set1 ho))
  rw [hr9]
  subst hu9
  have hP := k_unP hP
  have hD := k_unD hD
  have hP : va_P D vwCl (DW cI cC cQ d0 n0 na s0 sa h1 h2 mm ma t0 p0 pa tk N S oo zz M0 M1 M2 M3 rs de pc pg sg ln po dd lt pl f1s s2s tms) H := hP
  have hD : va_D A (DW cI cC cQ d0 n0 na s0 sa h1 h2 mm ma t0 p0 pa tk N S oo zz M0 M1 M2 M3 rs de pc pg sg ln po dd lt pl f1s s2s tms) := hD
  refine lv_iconst (v := (-1)) hx hb dL_refuses_128 (by decide) ?_
  refine lv_icmp_ne (tgt := 409) hx hb dL_refuses_129 (by decide) (fun c9 => absurd c9 (by decide)) (fun _ => ?_)
  refine lv_aload_n hx hb dL_refuses_132 rfl (lv_at hl 2 rfl) ?_
  refine lv_iconst (v := 0) hx hb dL_refuses_133 (by decide) ?_
  refine lv_iconst (v := 0) hx hb dL_refuses_134 (by decide) ?_
  have hPs := k_self hP
  have hDs := k_selfD hD
  refine k_behi (X := []) (Y := []) (va_runV (As := [.int 0, .int 0]) (rest := []) ⟨hx, hb, hml, hown, hts⟩ (c_X4_set l D cI cC cQ H.size d0 n0 na s0 sa h1 h2 mm ma t0 p0 pa tk N S oo zz M0 M1 M2 M3 rs de pc pg sg ln po dd lt pl f1s s2s tms 0 0 (hoo) (hzz)) (kcwV hts wd_ml_RL_25 wd_im_yX4_set wd_sel_yX4_set wd_ini_RX4 wd_code_yX4_set rfl rfl rfl hd_X4_set ⟨Nat.le_of_ble_eq_true rfl, Nat.le_of_ble_eq_true rfl⟩) ⟨in_blindZ, va_recv hK (pa_l (pa_r hPs)) (ci := 4) (q0 := 0) rfl rfl, k_preZ (p := p) hK hPs hDs hN hS hA hZ⟩ rfl rfl hl.1 rfl (lv_room (Nat.le_of_ble_eq_true rfl)) dL_refuses_135 ⟨Nat.le_of_ble_eq_true rfl, Nat.le_of_ble_eq_true rfl⟩) hPs hDs hS hA (fun r16 u17 H locs hw18 hP hD hS => ?_)
  have hw18 : (r16, u17) = (sh_X4_set N oo zz M0 M1 M2 M3 0 0) := hw18
  obtain ⟨hr9, hu9⟩ := Prod.mk.inj (hw18.trans (nf_set2))
  rw [hr9]
  subst hu9
  have hP := k_unP hP
  have hD := k_unD hD
  have hP : va_P D vwCl (DW cI cC cQ d0 n0 na s0 sa h1 h2 mm ma t0 p0 pa tk N S oo zz M0 M1 M2 M3 rs de pc pg sg ln po dd lt pl f1s s2s tms) H := hP
  have hD : va_D A (DW cI cC cQ d0 n0 na s0 sa h1 h2 mm ma t0 p0 pa tk N S oo zz M0 M1 M2 M3 rs de pc pg sg ln po dd lt pl f1s s2s tms) := hD
  refine lv_iconst (v := (-1)) hx hb dL_refuses_138 (by decide) ?_
  refine lv_icmp_ne (tgt := 409) hx hb dL_refuses_139 (by decide) (fun c9 => absurd c9 (by decide)) (fun _ => ?_)
  exact go  _ _ _ hP hD hS (lv_sub hl [0, 1, 2] rfl)
set_option maxHeartbeats 40000000 in
set_option maxRecDepth 100000 in
theorem rf_142 {p : Program} {l : Launch} {e : Env} {s : State} {m : MethodId} {args : Array Value} {below : List Frame} {meth : Method} {c : Code} {A : Nat → Prop} {Q : State → Prop} {D : va_G} {cI cC cQ : ClassId} {d0 : Nat} {n0 : Nat} {na : Nat → Nat} {s0 : Nat} {sa : Nat → Nat} {h1 : Nat} {h2 : Nat} {mm : Nat → Nat} {ma : Nat → Nat → Nat} {t0 : Nat} {p0 : Nat} {pa : Nat → Nat} {tk : Int32} {N : TMa} {S : TMa} {oo : Int32} {zz : Int32} {M0 : TMa} {M1 : TMa} {M2 : TMa} {M3 : TMa} {rs : Int32} {de : Int32} {pc : Int32} {pg : Int32} {sg : Nat → Int32} {ln : Int32} {po : Int32} {dd : Int32} {lt : Nat → Int32} {pl : Nat → Int32} {f1s : Nat → Int32} {s2s : Nat → Int32} {tms : Nat → Int32} {y1 no : Int32} (F : FxM p s m c args A D cI cC cQ cL_refuses 5) (hZ : stZ A s s.heap) (hoo : vp_in oo 4) (hzz : vp_in zz 5) (hpad : padr sg sg ln) (hy : yR y1) (ho : outN no) (go : AtL p l e rm_L_refuses s m args below meth c A Q D 0 0 5 (DW cI cC cQ d0 n0 na s0 sa h1 h2 mm ma t0 p0 pa tk N S oo zz M0 M1 M2 M3 rs de pc pg sg ln po dd lt pl f1s s2s tms) [(2, .int no), (1, .int y1), (0, .ref d0)] 205 []) : AtL p l e rm_L_refuses s m args below meth c A Q D 0 0 5 (DW cI cC cQ d0 n0 na s0 sa h1 h2 mm ma t0 p0 pa tk N S oo zz M0 M1 M2 M3 rs de pc pg sg ln po dd lt pl f1s s2s tms) [(2, .int no), (1, .int y1), (0, .ref d0)] 142 [] := by
  intro H locs ls hP hD hS hl
  obtain ⟨hx, hb, hml, hown, hts, hN, hA, hK⟩ := F
  refine lv_aload_n hx hb dL_refuses_142 rfl (lv_at hl 2 rfl) ?_
  refine lv_iconst (v := 1) hx hb dL_refuses_143 (by decide) ?_
  refine lv_bipush (v := 51) hx hb dL_refuses_144 (by decide) ?_
  refine lv_iload_n hx hb dL_refuses_146 rfl (lv_at hl 1 rfl) ?_
  refine lv_iadd hx hb dL_refuses_147 ?_
  have hPs := k_self hP
  have hDs := k_selfD hD
  refine k_behi (X := []) (Y := []) (va_runV (As := [.int 1, .int (51 + y1)]) (rest := []) ⟨hx, hb, hml, hown, hts⟩ (c_X4_set l D cI cC cQ H.size d0 n0 na s0 sa h1 h2 mm ma t0 p0 pa tk N S oo zz M0 M1 M2 M3 rs de pc pg sg ln po dd lt pl f1s s2s tms 1 (51 + y1) (hoo) (hzz)) (kcwV hts wd_ml_RL_25 wd_im_yX4_set wd_sel_yX4_set wd_ini_RX4 wd_code_yX4_set rfl rfl rfl hd_X4_set ⟨Nat.le_of_ble_eq_true rfl, Nat.le_of_ble_eq_true rfl⟩) ⟨in_blindZ, va_recv hK (pa_l (pa_r hPs)) (ci := 4) (q0 := 0) rfl rfl, k_preZ (p := p) hK hPs hDs hN hS hA hZ⟩ rfl rfl hl.1 rfl (lv_room (Nat.le_of_ble_eq_true rfl)) dL_refuses_148 ⟨Nat.le_of_ble_eq_true rfl, Nat.le_of_ble_eq_true rfl⟩) hPs hDs hS hA (fun r1 u2 H locs hw3 hP hD hS => ?_)
  have hw3 : (r1, u2) = (sh_X4_set N oo zz M0 M1 M2 M3 1 (51 + y1)) := hw3
  obtain ⟨hr9, hu9⟩ := Prod.mk.inj (hw3.trans (nf_set3 hy))
  rw [hr9]
  subst hu9
  have hP := k_unP hP
  have hD := k_unD hD
  have hP : va_P D vwCl (DW cI cC cQ d0 n0 na s0 sa h1 h2 mm ma t0 p0 pa tk N S oo zz M0 M1 M2 M3 rs de pc pg sg ln po dd lt pl f1s s2s tms) H := hP
  have hD : va_D A (DW cI cC cQ d0 n0 na s0 sa h1 h2 mm ma t0 p0 pa tk N S oo zz M0 M1 M2 M3 rs de pc pg sg ln po dd lt pl f1s s2s tms) := hD
  refine lv_iconst (v := (-1)) hx hb dL_refuses_151 (by decide) ?_
  refine lv_icmp_ne (tgt := 409) hx hb dL_refuses_152 (by decide) (fun c9 => absurd c9 (by decide)) (fun _ => ?_)
  refine lv_aload_n hx hb dL_refuses_155 rfl (lv_at hl 2 rfl) ?_
  refine lv_iconst (v := 2) hx hb dL_refuses_156 (by decide) ?_
  refine lv_iconst (v := (-1)) hx hb dL_refuses_157 (by decide) ?_
  refine lv_iload_n hx hb dL_refuses_158 rfl (lv_at hl 1 rfl) ?_
  refine lv_isub hx hb dL_refuses_159 ?_
  have hPs := k_self hP
  have hDs := k_selfD hD
  refine k_behi (X := []) (Y := []) (va_runV (As := [.int 2, .int ((-1) - y1)]) (rest := []) ⟨hx, hb, hml, hown, hts⟩ (c_X4_set l D cI cC cQ H.size d0 n0 na s0 sa h1 h2 mm ma t0 p0 pa tk N S oo zz M0 M1 M2 M3 rs de pc pg sg ln po dd lt pl f1s s2s tms 2 ((-1) - y1) (hoo) (hzz)) (kcwV hts wd_ml_RL_25 wd_im_yX4_set wd_sel_yX4_set wd_ini_RX4 wd_code_yX4_set rfl rfl rfl hd_X4_set ⟨Nat.le_of_ble_eq_true rfl, Nat.le_of_ble_eq_true rfl⟩) ⟨in_blindZ, va_recv hK (pa_l (pa_r hPs)) (ci := 4) (q0 := 0) rfl rfl, k_preZ (p := p) hK hPs hDs hN hS hA hZ⟩ rfl rfl hl.1 rfl (lv_room (Nat.le_of_ble_eq_true rfl)) dL_refuses_160 ⟨Nat.le_of_ble_eq_true rfl, Nat.le_of_ble_eq_true rfl⟩) hPs hDs hS hA (fun r4 u5 H locs hw6 hP hD hS => ?_)
  have hw6 : (r4, u5) = (sh_X4_set N oo zz M0 M1 M2 M3 2 ((-1) - y1)) := hw6
  obtain ⟨hr9, hu9⟩ := Prod.mk.inj (hw6.trans (nf_set4 hy))
  rw [hr9]
  subst hu9
  have hP := k_unP hP
  have hD := k_unD hD
  have hP : va_P D vwCl (DW cI cC cQ d0 n0 na s0 sa h1 h2 mm ma t0 p0 pa tk N S oo zz M0 M1 M2 M3 rs de pc pg sg ln po dd lt pl f1s s2s tms) H := hP
  have hD : va_D A (DW cI cC cQ d0 n0 na s0 sa h1 h2 mm ma t0 p0 pa tk N S oo zz M0 M1 M2 M3 rs de pc pg sg ln po dd lt pl f1s s2s tms) := hD
  refine lv_iconst (v := (-1)) hx hb dL_refuses_163 (by decide) ?_
  refine lv_icmp_ne (tgt := 409) hx hb dL_refuses_164 (by decide) (fun c9 => absurd c9 (by decide)) (fun _ => ?_)
  refine lv_aload_n hx hb dL_refuses_167 rfl (lv_at hl 2 rfl) ?_
  refine lv_iconst (v := 3) hx hb dL_refuses_168 (by decide) ?_
  refine lv_sipush (v := 501) hx hb dL_refuses_169 (by decide) ?_
  refine lv_iload_n hx hb dL_refuses_172 rfl (lv_at hl 1 rfl) ?_
  refine lv_iadd hx hb dL_refuses_173 ?_
  have hPs := k_self hP
  have hDs := k_selfD hD
  refine k_behi (X := []) (Y := []) (va_runV (As := [.int 3, .int (501 + y1)]) (rest := []) ⟨hx, hb, hml, hown, hts⟩ (c_X4_set l D cI cC cQ H.size d0 n0 na s0 sa h1 h2 mm ma t0 p0 pa tk N S oo zz M0 M1 M2 M3 rs de pc pg sg ln po dd lt pl f1s s2s tms 3 (501 + y1) (hoo) (hzz)) (kcwV hts wd_ml_RL_25 wd_im_yX4_set wd_sel_yX4_set wd_ini_RX4 wd_code_yX4_set rfl rfl rfl hd_X4_set ⟨Nat.le_of_ble_eq_true rfl, Nat.le_of_ble_eq_true rfl⟩) ⟨in_blindZ, va_recv hK (pa_l (pa_r hPs)) (ci := 4) (q0 := 0) rfl rfl, k_preZ (p := p) hK hPs hDs hN hS hA hZ⟩ rfl rfl hl.1 rfl (lv_room (Nat.le_of_ble_eq_true rfl)) dL_refuses_174 ⟨Nat.le_of_ble_eq_true rfl, Nat.le_of_ble_eq_true rfl⟩) hPs hDs hS hA (fun r7 u8 H locs hw9 hP hD hS => ?_)
  have hw9 : (r7, u8) = (sh_X4_set N oo zz M0 M1 M2 M3 3 (501 + y1)) := hw9
  obtain ⟨hr9, hu9⟩ := Prod.mk.inj (hw9.trans (nf_set5 hy))
  rw [hr9]
  subst hu9
  have hP := k_unP hP
  have hD := k_unD hD
  have hP : va_P D vwCl (DW cI cC cQ d0 n0 na s0 sa h1 h2 mm ma t0 p0 pa tk N S oo zz M0 M1 M2 M3 rs de pc pg sg ln po dd lt pl f1s s2s tms) H := hP
  have hD : va_D A (DW cI cC cQ d0 n0 na s0 sa h1 h2 mm ma t0 p0 pa tk N S oo zz M0 M1 M2 M3 rs de pc pg sg ln po dd lt pl f1s s2s tms) := hD
  refine lv_iconst (v := (-1)) hx hb dL_refuses_177 (by decide) ?_
  refine lv_icmp_ne (tgt := 409) hx hb dL_refuses_178 (by decide) (fun c9 => absurd c9 (by decide)) (fun _ => ?_)
  refine lv_aload_n hx hb dL_refuses_181 rfl (lv_at hl 2 rfl) ?_
  refine lv_bipush (v := 32) hx hb dL_refuses_182 (by decide) ?_
  refine lv_iload_n hx hb dL_refuses_184 rfl (lv_at hl 1 rfl) ?_
  refine lv_isub hx hb dL_refuses_185 ?_
  have hPs := k_self hP
  have hDs := k_selfD hD
  refine k_behi (X := []) (Y := []) (va_runV (As := [.int (32 - y1)]) (rest := []) ⟨hx, hb, hml, hown, hts⟩ (c_X4_append l D cI cC cQ H.size d0 n0 na s0 sa h1 h2 mm ma t0 p0 pa tk N S oo zz M0 M1 M2 M3 rs de pc pg sg ln po dd lt pl f1s s2s tms (32 - y1) (hpad.1)) (kcwV hts wd_ml_RL_41 wd_im_yX4_append wd_sel_yX4_append wd_ini_RX4 wd_code_yX4_append rfl rfl rfl hd_X4_append ⟨Nat.le_of_ble_eq_true rfl, Nat.le_of_ble_eq_true rfl⟩) ⟨in_blind, va_recv hK (pa_l (pa_r hPs)) (ci := 4) (q0 := 0) rfl rfl, k_pre hK (pa_l (pa_r hPs)) (da_l (da_r hDs)) hN⟩ rfl rfl hl.1 rfl (lv_room (Nat.le_of_ble_eq_true rfl)) dL_refuses_186 ⟨Nat.le_of_ble_eq_true rfl, Nat.le_of_ble_eq_true rfl⟩) hPs hDs hS hA (fun r10 u11 H locs hw12 hP hD hS => ?_)
  have hw12 : (r10, u11) = (sh_X4_append sg ln (32 - y1)) := hw12
  obtain ⟨hr9, hu9⟩ := Prod.mk.inj (hw12.trans (nf_app1 hy))
  rw [hr9]
  subst hu9
  have hP := k_unP hP
  have hD := k_unD hD
  have hP : va_P D vwCl (DW cI cC cQ d0 n0 na s0 sa h1 h2 mm ma t0 p0 pa tk N S oo zz M0 M1 M2 M3 rs de pc pg sg ln po dd lt pl f1s s2s tms) H := hP
  have hD : va_D A (DW cI cC cQ d0 n0 na s0 sa h1 h2 mm ma t0 p0 pa tk N S oo zz M0 M1 M2 M3 rs de pc pg sg ln po dd lt pl f1s s2s tms) := hD
  refine lv_iconst (v := (-1)) hx hb dL_refuses_189 (by decide) ?_
  refine lv_icmp_ne (tgt := 409) hx hb dL_refuses_190 (by decide) (fun c9 => absurd c9 (by decide)) (fun _ => ?_)
  refine lv_aload_n hx hb dL_refuses_193 rfl (lv_at hl 2 rfl) ?_
  refine lv_bipush (v := 127) hx hb dL_refuses_194 (by decide) ?_
  refine lv_iload_n hx hb dL_refuses_196 rfl (lv_at hl 1 rfl) ?_
  refine lv_iadd hx hb dL_refuses_197 ?_
  have hPs := k_self hP
  have hDs := k_selfD hD
  refine k_behi (X := []) (Y := []) (va_runV (As := [.int (127 + y1)]) (rest := []) ⟨hx, hb, hml, hown, hts⟩ (c_X4_append l D cI cC cQ H.size d0 n0 na s0 sa h1 h2 mm ma t0 p0 pa tk N S oo zz M0 M1 M2 M3 rs de pc pg sg ln po dd lt pl f1s s2s tms (127 + y1) (hpad.1)) (kcwV hts wd_ml_RL_41 wd_im_yX4_append wd_sel_yX4_append wd_ini_RX4 wd_code_yX4_append rfl rfl rfl hd_X4_append ⟨Nat.le_of_ble_eq_true rfl, Nat.le_of_ble_eq_true rfl⟩) ⟨in_blind, va_recv hK (pa_l (pa_r hPs)) (ci := 4) (q0 := 0) rfl rfl, k_pre hK (pa_l (pa_r hPs)) (da_l (da_r hDs)) hN⟩ rfl rfl hl.1 rfl (lv_room (Nat.le_of_ble_eq_true rfl)) dL_refuses_198 ⟨Nat.le_of_ble_eq_true rfl, Nat.le_of_ble_eq_true rfl⟩) hPs hDs hS hA (fun r13 u14 H locs hw15 hP hD hS => ?_)
  have hw15 : (r13, u14) = (sh_X4_append sg ln (127 + y1)) := hw15
  obtain ⟨hr9, hu9⟩ := Prod.mk.inj (hw15.trans (nf_app2 hy))
  rw [hr9]
  subst hu9
  have hP := k_unP hP
  have hD := k_unD hD
  have hP : va_P D vwCl (DW cI cC cQ d0 n0 na s0 sa h1 h2 mm ma t0 p0 pa tk N S oo zz M0 M1 M2 M3 rs de pc pg sg ln po dd lt pl f1s s2s tms) H := hP
  have hD : va_D A (DW cI cC cQ d0 n0 na s0 sa h1 h2 mm ma t0 p0 pa tk N S oo zz M0 M1 M2 M3 rs de pc pg sg ln po dd lt pl f1s s2s tms) := hD
  refine lv_iconst (v := (-1)) hx hb dL_refuses_201 (by decide) ?_
  refine lv_icmp_ne (tgt := 409) hx hb dL_refuses_202 (by decide) (fun c9 => absurd c9 (by decide)) (fun _ => ?_)
  exact go  _ _ _ hP hD hS (lv_sub hl [0, 1, 2] rfl)
set_option maxHeartbeats 40000000 in
set_option maxRecDepth 100000 in
theorem rf_205 {p : Program} {l : Launch} {e : Env} {s : State} {m : MethodId} {args : Array Value} {below : List Frame} {meth : Method} {c : Code} {A : Nat → Prop} {Q : State → Prop} {D : va_G} {cI cC cQ : ClassId} {d0 : Nat} {n0 : Nat} {na : Nat → Nat} {s0 : Nat} {sa : Nat → Nat} {h1 : Nat} {h2 : Nat} {mm : Nat → Nat} {ma : Nat → Nat → Nat} {t0 : Nat} {p0 : Nat} {pa : Nat → Nat} {tk : Int32} {N : TMa} {S : TMa} {oo : Int32} {zz : Int32} {M0 : TMa} {M1 : TMa} {M2 : TMa} {M3 : TMa} {rs : Int32} {de : Int32} {pc : Int32} {pg : Int32} {sg : Nat → Int32} {ln : Int32} {po : Int32} {dd : Int32} {lt : Nat → Int32} {pl : Nat → Int32} {f1s : Nat → Int32} {s2s : Nat → Int32} {tms : Nat → Int32} {y1 no : Int32} (F : FxM p s m c args A D cI cC cQ cL_refuses 5) (hZ : stZ A s s.heap) (hoo : vp_in oo 4) (hzz : vp_in zz 5) (hpad : padr sg sg ln) (hy : yR y1) (ho : outN no) (go : AtL p l e rm_L_refuses s m args below meth c A Q D 0 0 5 (DW cI cC cQ d0 n0 na s0 sa h1 h2 mm ma t0 p0 pa tk N S oo zz M0 M1 M2 M3 rs de pc pg sg ln po dd lt pl f1s s2s tms) [(2, .int no), (1, .int y1), (0, .ref d0)] 260 []) : AtL p l e rm_L_refuses s m args below meth c A Q D 0 0 5 (DW cI cC cQ d0 n0 na s0 sa h1 h2 mm ma t0 p0 pa tk N S oo zz M0 M1 M2 M3 rs de pc pg sg ln po dd lt pl f1s s2s tms) [(2, .int no), (1, .int y1), (0, .ref d0)] 205 [] := by
  intro H locs ls hP hD hS hl
  obtain ⟨hx, hb, hml, hown, hts, hN, hA, hK⟩ := F
  refine lv_aload_n hx hb dL_refuses_205 rfl (lv_at hl 2 rfl) ?_
  refine lv_iload_n hx hb dL_refuses_206 rfl (lv_at hl 0 rfl) ?_
  have hPs := k_self hP
  have hDs := k_selfD hD
  refine k_behi (X := []) (Y := []) (va_runV (As := [.int no]) (rest := []) ⟨hx, hb, hml, hown, hts⟩ (c_X4_why l D cI cC cQ H.size d0 n0 na s0 sa h1 h2 mm ma t0 p0 pa tk N S oo zz M0 M1 M2 M3 rs de pc pg sg ln po dd lt pl f1s s2s tms no) (kcwV hts wd_ml_RL_88 wd_im_yX4_why wd_sel_yX4_why wd_ini_RX4 wd_code_yX4_why rfl rfl rfl hd_X4_why ⟨Nat.le_of_ble_eq_true rfl, Nat.le_of_ble_eq_true rfl⟩) ⟨in_blind, va_recv hK (pa_l (pa_r hPs)) (ci := 4) (q0 := 0) rfl rfl, k_pre hK (pa_l (pa_r hPs)) (da_l (da_r hDs)) hN⟩ rfl rfl hl.1 rfl (lv_room (Nat.le_of_ble_eq_true rfl)) dL_refuses_207 ⟨Nat.le_of_ble_eq_true rfl, Nat.le_of_ble_eq_true rfl⟩) hPs hDs hS hA (fun r1 u2 H locs hw3 hP hD hS => ?_)
  have hP := k_unP hP
  have hD := k_unD hD
  have hP : va_P D vwCl (DW cI cC cQ d0 n0 na s0 sa h1 h2 mm ma t0 p0 pa tk N S oo zz M0 M1 M2 M3 rs de pc pg sg ln po dd lt pl f1s s2s tms) H := hP
  have hD : va_D A (DW cI cC cQ d0 n0 na s0 sa h1 h2 mm ma t0 p0 pa tk N S oo zz M0 M1 M2 M3 rs de pc pg sg ln po dd lt pl f1s s2s tms) := hD
  have hw3 : r1 = (sh_X4_why rs de pc pg no) := hw3
  have hw3 : r1 = (-1) := hw3.trans (nf_why ho)
  subst hw3
  refine lv_iconst (v := (-1)) hx hb dL_refuses_210 (by decide) ?_
  refine lv_icmp_ne (tgt := 409) hx hb dL_refuses_211 (by decide) (fun c9 => absurd c9 (by decide)) (fun _ => ?_)
  refine lv_aload_n hx hb dL_refuses_214 rfl (lv_at hl 2 rfl) ?_
  refine lv_iload_n hx hb dL_refuses_215 rfl (lv_at hl 0 rfl) ?_
  refine lv_iconst (v := 0) hx hb dL_refuses_216 (by decide) ?_
  have hPs := k_self hP
  have hDs := k_selfD hD
  refine k_behi (X := []) (Y := []) (va_runV (As := [.int no, .int 0]) (rest := []) ⟨hx, hb, hml, hown, hts⟩ (c_X4_cup l D cI cC cQ H.size d0 n0 na s0 sa h1 h2 mm ma t0 p0 pa tk N S oo zz M0 M1 M2 M3 rs de pc pg sg ln po dd lt pl f1s s2s tms no 0) (kcwV hts wd_ml_RL_56 wd_im_yX4_cup wd_sel_yX4_cup wd_ini_RX4 wd_code_yX4_cup rfl rfl rfl hd_X4_cup ⟨Nat.le_of_ble_eq_true rfl, Nat.le_of_ble_eq_true rfl⟩) ⟨in_blind, va_recv hK (pa_l (pa_r hPs)) (ci := 4) (q0 := 0) rfl rfl, k_pre hK (pa_l (pa_r hPs)) (da_l (da_r hDs)) hN⟩ rfl rfl hl.1 rfl (lv_room (Nat.le_of_ble_eq_true rfl)) dL_refuses_217 ⟨Nat.le_of_ble_eq_true rfl, Nat.le_of_ble_eq_true rfl⟩) hPs hDs hS hA (fun r4 u5 H locs hw6 hP hD hS => ?_)
  have hP := k_unP hP
  have hD := k_unD hD
  have hP : va_P D vwCl (DW cI cC cQ d0 n0 na s0 sa h1 h2 mm ma t0 p0 pa tk N S oo zz M0 M1 M2 M3 rs de pc pg sg ln po dd lt pl f1s s2s tms) H := hP
  have hD : va_D A (DW cI cC cQ d0 n0 na s0 sa h1 h2 mm ma t0 p0 pa tk N S oo zz M0 M1 M2 M3 rs de pc pg sg ln po dd lt pl f1s s2s tms) := hD
  have hw6 : r4 = (sh_X4_cup N no 0) := hw6
  have hw6 : r4 = (-1) := hw6.trans (nf_cup1 ho)
  subst hw6
  refine lv_iconst (v := (-1)) hx hb dL_refuses_220 (by decide) ?_
  refine lv_icmp_ne (tgt := 409) hx hb dL_refuses_221 (by decide) (fun c9 => absurd c9 (by decide)) (fun _ => ?_)
  refine lv_aload_n hx hb dL_refuses_224 rfl (lv_at hl 2 rfl) ?_
  refine lv_iconst (v := 0) hx hb dL_refuses_225 (by decide) ?_
  refine lv_bipush (v := 8) hx hb dL_refuses_226 (by decide) ?_
  refine lv_iload_n hx hb dL_refuses_228 rfl (lv_at hl 1 rfl) ?_
  refine lv_iadd hx hb dL_refuses_229 ?_
  have hPs := k_self hP
  have hDs := k_selfD hD
  refine k_behi (X := []) (Y := []) (va_runV (As := [.int 0, .int (8 + y1)]) (rest := []) ⟨hx, hb, hml, hown, hts⟩ (c_X4_cup l D cI cC cQ H.size d0 n0 na s0 sa h1 h2 mm ma t0 p0 pa tk N S oo zz M0 M1 M2 M3 rs de pc pg sg ln po dd lt pl f1s s2s tms 0 (8 + y1)) (kcwV hts wd_ml_RL_56 wd_im_yX4_cup wd_sel_yX4_cup wd_ini_RX4 wd_code_yX4_cup rfl rfl rfl hd_X4_cup ⟨Nat.le_of_ble_eq_true rfl, Nat.le_of_ble_eq_true rfl⟩) ⟨in_blind, va_recv hK (pa_l (pa_r hPs)) (ci := 4) (q0 := 0) rfl rfl, k_pre hK (pa_l (pa_r hPs)) (da_l (da_r hDs)) hN⟩ rfl rfl hl.1 rfl (lv_room (Nat.le_of_ble_eq_true rfl)) dL_refuses_230 ⟨Nat.le_of_ble_eq_true rfl, Nat.le_of_ble_eq_true rfl⟩) hPs hDs hS hA (fun r7 u8 H locs hw9 hP hD hS => ?_)
  have hP := k_unP hP
  have hD := k_unD hD
  have hP : va_P D vwCl (DW cI cC cQ d0 n0 na s0 sa h1 h2 mm ma t0 p0 pa tk N S oo zz M0 M1 M2 M3 rs de pc pg sg ln po dd lt pl f1s s2s tms) H := hP
  have hD : va_D A (DW cI cC cQ d0 n0 na s0 sa h1 h2 mm ma t0 p0 pa tk N S oo zz M0 M1 M2 M3 rs de pc pg sg ln po dd lt pl f1s s2s tms) := hD
  have hw9 : r7 = (sh_X4_cup N 0 (8 + y1)) := hw9
  have hw9 : r7 = (-1) := hw9.trans (nf_cup2 hy)
  subst hw9
  refine lv_iconst (v := (-1)) hx hb dL_refuses_233 (by decide) ?_
  refine lv_icmp_ne (tgt := 409) hx hb dL_refuses_234 (by decide) (fun c9 => absurd c9 (by decide)) (fun _ => ?_)
  refine lv_aload_n hx hb dL_refuses_237 rfl (lv_at hl 2 rfl) ?_
  refine lv_iload_n hx hb dL_refuses_238 rfl (lv_at hl 0 rfl) ?_
  refine lv_iconst (v := 0) hx hb dL_refuses_239 (by decide) ?_
  have hPs := k_self hP
  have hDs := k_selfD hD
  refine k_behi (X := []) (Y := []) (va_runV (As := [.int no, .int 0]) (rest := []) ⟨hx, hb, hml, hown, hts⟩ (c_X4_printer l D cI cC cQ H.size d0 n0 na s0 sa h1 h2 mm ma t0 p0 pa tk N S oo zz M0 M1 M2 M3 rs de pc pg sg ln po dd lt pl f1s s2s tms no 0) (kcwV hts wd_ml_RL_60 wd_im_yX4_printer wd_sel_yX4_printer wd_ini_RX4 wd_code_yX4_printer rfl rfl rfl hd_X4_printer ⟨Nat.le_of_ble_eq_true rfl, Nat.le_of_ble_eq_true rfl⟩) ⟨in_blind, va_recv hK (pa_l (pa_r hPs)) (ci := 4) (q0 := 0) rfl rfl, k_pre hK (pa_l (pa_r hPs)) (da_l (da_r hDs)) hN⟩ rfl rfl hl.1 rfl (lv_room (Nat.le_of_ble_eq_true rfl)) dL_refuses_240 ⟨Nat.le_of_ble_eq_true rfl, Nat.le_of_ble_eq_true rfl⟩) hPs hDs hS hA (fun r10 u11 H locs hw12 hP hD hS => ?_)
  have hP := k_unP hP
  have hD := k_unD hD
  have hP : va_P D vwCl (DW cI cC cQ d0 n0 na s0 sa h1 h2 mm ma t0 p0 pa tk N S oo zz M0 M1 M2 M3 rs de pc pg sg ln po dd lt pl f1s s2s tms) H := hP
  have hD : va_D A (DW cI cC cQ d0 n0 na s0 sa h1 h2 mm ma t0 p0 pa tk N S oo zz M0 M1 M2 M3 rs de pc pg sg ln po dd lt pl f1s s2s tms) := hD
  have hw12 : r10 = (sh_X4_printer N no 0) := hw12
  have hw12 : r10 = (-1) := hw12.trans (nf_prn1 ho)
  subst hw12
  refine lv_iconst (v := (-1)) hx hb dL_refuses_243 (by decide) ?_
  refine lv_icmp_ne (tgt := 409) hx hb dL_refuses_244 (by decide) (fun c9 => absurd c9 (by decide)) (fun _ => ?_)
  refine lv_aload_n hx hb dL_refuses_247 rfl (lv_at hl 2 rfl) ?_
  refine lv_iconst (v := 0) hx hb dL_refuses_248 (by decide) ?_
  refine lv_bipush (v := 6) hx hb dL_refuses_249 (by decide) ?_
  refine lv_iload_n hx hb dL_refuses_251 rfl (lv_at hl 1 rfl) ?_
  refine lv_iadd hx hb dL_refuses_252 ?_
  have hPs := k_self hP
  have hDs := k_selfD hD
  refine k_behi (X := []) (Y := []) (va_runV (As := [.int 0, .int (6 + y1)]) (rest := []) ⟨hx, hb, hml, hown, hts⟩ (c_X4_printer l D cI cC cQ H.size d0 n0 na s0 sa h1 h2 mm ma t0 p0 pa tk N S oo zz M0 M1 M2 M3 rs de pc pg sg ln po dd lt pl f1s s2s tms 0 (6 + y1)) (kcwV hts wd_ml_RL_60 wd_im_yX4_printer wd_sel_yX4_printer wd_ini_RX4 wd_code_yX4_printer rfl rfl rfl hd_X4_printer ⟨Nat.le_of_ble_eq_true rfl, Nat.le_of_ble_eq_true rfl⟩) ⟨in_blind, va_recv hK (pa_l (pa_r hPs)) (ci := 4) (q0 := 0) rfl rfl, k_pre hK (pa_l (pa_r hPs)) (da_l (da_r hDs)) hN⟩ rfl rfl hl.1 rfl (lv_room (Nat.le_of_ble_eq_true rfl)) dL_refuses_253 ⟨Nat.le_of_ble_eq_true rfl, Nat.le_of_ble_eq_true rfl⟩) hPs hDs hS hA (fun r13 u14 H locs hw15 hP hD hS => ?_)
  have hP := k_unP hP
  have hD := k_unD hD
  have hP : va_P D vwCl (DW cI cC cQ d0 n0 na s0 sa h1 h2 mm ma t0 p0 pa tk N S oo zz M0 M1 M2 M3 rs de pc pg sg ln po dd lt pl f1s s2s tms) H := hP
  have hD : va_D A (DW cI cC cQ d0 n0 na s0 sa h1 h2 mm ma t0 p0 pa tk N S oo zz M0 M1 M2 M3 rs de pc pg sg ln po dd lt pl f1s s2s tms) := hD
  have hw15 : r13 = (sh_X4_printer N 0 (6 + y1)) := hw15
  have hw15 : r13 = (-1) := hw15.trans (nf_prn2 hy)
  subst hw15
  refine lv_iconst (v := (-1)) hx hb dL_refuses_256 (by decide) ?_
  refine lv_icmp_ne (tgt := 409) hx hb dL_refuses_257 (by decide) (fun c9 => absurd c9 (by decide)) (fun _ => ?_)
  exact go  _ _ _ hP hD hS (lv_sub hl [0, 1, 2] rfl)
set_option maxHeartbeats 40000000 in
set_option maxRecDepth 100000 in
theorem rf_260 {p : Program} {l : Launch} {e : Env} {s : State} {m : MethodId} {args : Array Value} {below : List Frame} {meth : Method} {c : Code} {A : Nat → Prop} {Q : State → Prop} {D : va_G} {cI cC cQ : ClassId} {d0 : Nat} {n0 : Nat} {na : Nat → Nat} {s0 : Nat} {sa : Nat → Nat} {h1 : Nat} {h2 : Nat} {mm : Nat → Nat} {ma : Nat → Nat → Nat} {t0 : Nat} {p0 : Nat} {pa : Nat → Nat} {tk : Int32} {N : TMa} {S : TMa} {oo : Int32} {zz : Int32} {M0 : TMa} {M1 : TMa} {M2 : TMa} {M3 : TMa} {rs : Int32} {de : Int32} {pc : Int32} {pg : Int32} {sg : Nat → Int32} {ln : Int32} {po : Int32} {dd : Int32} {lt : Nat → Int32} {pl : Nat → Int32} {f1s : Nat → Int32} {s2s : Nat → Int32} {tms : Nat → Int32} {y1 no : Int32} (F : FxM p s m c args A D cI cC cQ cL_refuses 5) (hZ : stZ A s s.heap) (hoo : vp_in oo 4) (hzz : vp_in zz 5) (hpad : padr sg sg ln) (hy : yR y1) (ho : outN no) (go : AtL p l e rm_L_refuses s m args below meth c A Q D 0 0 5 (DW cI cC cQ d0 n0 na s0 sa h1 h2 mm ma t0 p0 pa tk N S oo zz M0 M1 M2 M3 rs de pc pg sg ln po dd lt pl f1s s2s tms) [(2, .int no), (1, .int y1), (0, .ref d0)] 320 []) : AtL p l e rm_L_refuses s m args below meth c A Q D 0 0 5 (DW cI cC cQ d0 n0 na s0 sa h1 h2 mm ma t0 p0 pa tk N S oo zz M0 M1 M2 M3 rs de pc pg sg ln po dd lt pl f1s s2s tms) [(2, .int no), (1, .int y1), (0, .ref d0)] 260 [] := by
  intro H locs ls hP hD hS hl
  obtain ⟨hx, hb, hml, hown, hts, hN, hA, hK⟩ := F
  refine lv_aload_n hx hb dL_refuses_260 rfl (lv_at hl 2 rfl) ?_
  refine lv_iload_n hx hb dL_refuses_261 rfl (lv_at hl 0 rfl) ?_
  refine lv_iconst (v := 1) hx hb dL_refuses_262 (by decide) ?_
  refine lv_iconst (v := 0) hx hb dL_refuses_263 (by decide) ?_
  have hPs := k_self hP
  have hDs := k_selfD hD
  refine k_behi (X := []) (Y := []) (va_runV (As := [.int no, .int 1, .int 0]) (rest := []) ⟨hx, hb, hml, hown, hts⟩ (c_X4_needs l D cI cC cQ H.size d0 n0 na s0 sa h1 h2 mm ma t0 p0 pa tk N S oo zz M0 M1 M2 M3 rs de pc pg sg ln po dd lt pl f1s s2s tms no 1 0) (kcwV hts wd_ml_RL_75 wd_im_yX4_needs wd_sel_yX4_needs wd_ini_RX4 wd_code_yX4_needs rfl rfl rfl hd_X4_needs ⟨Nat.le_of_ble_eq_true rfl, Nat.le_of_ble_eq_true rfl⟩) ⟨in_blind, va_recv hK (pa_l (pa_r hPs)) (ci := 4) (q0 := 0) rfl rfl, k_pre hK (pa_l (pa_r hPs)) (da_l (da_r hDs)) hN⟩ rfl rfl hl.1 rfl (lv_room (Nat.le_of_ble_eq_true rfl)) dL_refuses_264 ⟨Nat.le_of_ble_eq_true rfl, Nat.le_of_ble_eq_true rfl⟩) hPs hDs hS hA (fun r1 u2 H locs hw3 hP hD hS => ?_)
  have hP := k_unP hP
  have hD := k_unD hD
  have hP : va_P D vwCl (DW cI cC cQ d0 n0 na s0 sa h1 h2 mm ma t0 p0 pa tk N S oo zz M0 M1 M2 M3 rs de pc pg sg ln po dd lt pl f1s s2s tms) H := hP
  have hD : va_D A (DW cI cC cQ d0 n0 na s0 sa h1 h2 mm ma t0 p0 pa tk N S oo zz M0 M1 M2 M3 rs de pc pg sg ln po dd lt pl f1s s2s tms) := hD
  have hw3 : r1 = (sh_X4_needs N no 1 0) := hw3
  have hw3 : r1 = (-1) := hw3.trans (nf_needs1 ho)
  subst hw3
  refine lv_iconst (v := (-1)) hx hb dL_refuses_267 (by decide) ?_
  refine lv_icmp_ne (tgt := 409) hx hb dL_refuses_268 (by decide) (fun c9 => absurd c9 (by decide)) (fun _ => ?_)
  refine lv_aload_n hx hb dL_refuses_271 rfl (lv_at hl 2 rfl) ?_
  refine lv_iconst (v := 0) hx hb dL_refuses_272 (by decide) ?_
  refine lv_sipush (v := 1000) hx hb dL_refuses_273 (by decide) ?_
  refine lv_iload_n hx hb dL_refuses_276 rfl (lv_at hl 1 rfl) ?_
  refine lv_iadd hx hb dL_refuses_277 ?_
  refine lv_iconst (v := 0) hx hb dL_refuses_278 (by decide) ?_
  have hPs := k_self hP
  have hDs := k_selfD hD
  refine k_behi (X := []) (Y := []) (va_runV (As := [.int 0, .int (1000 + y1), .int 0]) (rest := []) ⟨hx, hb, hml, hown, hts⟩ (c_X4_needs l D cI cC cQ H.size d0 n0 na s0 sa h1 h2 mm ma t0 p0 pa tk N S oo zz M0 M1 M2 M3 rs de pc pg sg ln po dd lt pl f1s s2s tms 0 (1000 + y1) 0) (kcwV hts wd_ml_RL_75 wd_im_yX4_needs wd_sel_yX4_needs wd_ini_RX4 wd_code_yX4_needs rfl rfl rfl hd_X4_needs ⟨Nat.le_of_ble_eq_true rfl, Nat.le_of_ble_eq_true rfl⟩) ⟨in_blind, va_recv hK (pa_l (pa_r hPs)) (ci := 4) (q0 := 0) rfl rfl, k_pre hK (pa_l (pa_r hPs)) (da_l (da_r hDs)) hN⟩ rfl rfl hl.1 rfl (lv_room (Nat.le_of_ble_eq_true rfl)) dL_refuses_279 ⟨Nat.le_of_ble_eq_true rfl, Nat.le_of_ble_eq_true rfl⟩) hPs hDs hS hA (fun r4 u5 H locs hw6 hP hD hS => ?_)
  have hP := k_unP hP
  have hD := k_unD hD
  have hP : va_P D vwCl (DW cI cC cQ d0 n0 na s0 sa h1 h2 mm ma t0 p0 pa tk N S oo zz M0 M1 M2 M3 rs de pc pg sg ln po dd lt pl f1s s2s tms) H := hP
  have hD : va_D A (DW cI cC cQ d0 n0 na s0 sa h1 h2 mm ma t0 p0 pa tk N S oo zz M0 M1 M2 M3 rs de pc pg sg ln po dd lt pl f1s s2s tms) := hD
  have hw6 : r4 = (sh_X4_needs N 0 (1000 + y1) 0) := hw6
  have hw6 : r4 = (-1) := hw6.trans (nf_needs2 hy)
  subst hw6
  refine lv_iconst (v := (-1)) hx hb dL_refuses_282 (by decide) ?_
  refine lv_icmp_ne (tgt := 409) hx hb dL_refuses_283 (by decide) (fun c9 => absurd c9 (by decide)) (fun _ => ?_)
  refine lv_aload_n hx hb dL_refuses_286 rfl (lv_at hl 2 rfl) ?_
  refine lv_iconst (v := 0) hx hb dL_refuses_287 (by decide) ?_
  refine lv_iconst (v := 1) hx hb dL_refuses_288 (by decide) ?_
  refine lv_iconst (v := 2) hx hb dL_refuses_289 (by decide) ?_
  refine lv_iload_n hx hb dL_refuses_290 rfl (lv_at hl 1 rfl) ?_
  refine lv_iadd hx hb dL_refuses_291 ?_
  have hPs := k_self hP
  have hDs := k_selfD hD
  refine k_behi (X := []) (Y := []) (va_runV (As := [.int 0, .int 1, .int (2 + y1)]) (rest := []) ⟨hx, hb, hml, hown, hts⟩ (c_X4_needs l D cI cC cQ H.size d0 n0 na s0 sa h1 h2 mm ma t0 p0 pa tk N S oo zz M0 M1 M2 M3 rs de pc pg sg ln po dd lt pl f1s s2s tms 0 1 (2 + y1)) (kcwV hts wd_ml_RL_75 wd_im_yX4_needs wd_sel_yX4_needs wd_ini_RX4 wd_code_yX4_needs rfl rfl rfl hd_X4_needs ⟨Nat.le_of_ble_eq_true rfl, Nat.le_of_ble_eq_true rfl⟩) ⟨in_blind, va_recv hK (pa_l (pa_r hPs)) (ci := 4) (q0 := 0) rfl rfl, k_pre hK (pa_l (pa_r hPs)) (da_l (da_r hDs)) hN⟩ rfl rfl hl.1 rfl (lv_room (Nat.le_of_ble_eq_true rfl)) dL_refuses_292 ⟨Nat.le_of_ble_eq_true rfl, Nat.le_of_ble_eq_true rfl⟩) hPs hDs hS hA (fun r7 u8 H locs hw9 hP hD hS => ?_)
  have hP := k_unP hP
  have hD := k_unD hD
  have hP : va_P D vwCl (DW cI cC cQ d0 n0 na s0 sa h1 h2 mm ma t0 p0 pa tk N S oo zz M0 M1 M2 M3 rs de pc pg sg ln po dd lt pl f1s s2s tms) H := hP
  have hD : va_D A (DW cI cC cQ d0 n0 na s0 sa h1 h2 mm ma t0 p0 pa tk N S oo zz M0 M1 M2 M3 rs de pc pg sg ln po dd lt pl f1s s2s tms) := hD
  have hw9 : r7 = (sh_X4_needs N 0 1 (2 + y1)) := hw9
  have hw9 : r7 = (-1) := hw9.trans (nf_needs3 hy)
  subst hw9
  refine lv_iconst (v := (-1)) hx hb dL_refuses_295 (by decide) ?_
  refine lv_icmp_ne (tgt := 409) hx hb dL_refuses_296 (by decide) (fun c9 => absurd c9 (by decide)) (fun _ => ?_)
  refine lv_aload_n hx hb dL_refuses_299 rfl (lv_at hl 2 rfl) ?_
  refine lv_iload_n hx hb dL_refuses_300 rfl (lv_at hl 0 rfl) ?_
  have hPs := k_self hP
  have hDs := k_selfD hD
  refine k_behi (X := []) (Y := []) (va_runV (As := [.int no]) (rest := []) ⟨hx, hb, hml, hown, hts⟩ (c_X4_whyNot l D cI cC cQ H.size d0 n0 na s0 sa h1 h2 mm ma t0 p0 pa tk N S oo zz M0 M1 M2 M3 rs de pc pg sg ln po dd lt pl f1s s2s tms no) (kcwV hts wd_ml_RL_78 wd_im_yX4_whyNot wd_sel_yX4_whyNot wd_ini_RX4 wd_code_yX4_whyNot rfl rfl rfl hd_X4_whyNot ⟨Nat.le_of_ble_eq_true rfl, Nat.le_of_ble_eq_true rfl⟩) ⟨in_blind, va_recv hK (pa_l (pa_r hPs)) (ci := 4) (q0 := 0) rfl rfl, k_pre hK (pa_l (pa_r hPs)) (da_l (da_r hDs)) hN⟩ rfl rfl hl.1 rfl (lv_room (Nat.le_of_ble_eq_true rfl)) dL_refuses_301 ⟨Nat.le_of_ble_eq_true rfl, Nat.le_of_ble_eq_true rfl⟩) hPs hDs hS hA (fun r10 u11 H locs hw12 hP hD hS => ?_)
  have hP := k_unP hP
  have hD := k_unD hD
  have hP : va_P D vwCl (DW cI cC cQ d0 n0 na s0 sa h1 h2 mm ma t0 p0 pa tk N S oo zz M0 M1 M2 M3 rs de pc pg sg ln po dd lt pl f1s s2s tms) H := hP
  have hD : va_D A (DW cI cC cQ d0 n0 na s0 sa h1 h2 mm ma t0 p0 pa tk N S oo zz M0 M1 M2 M3 rs de pc pg sg ln po dd lt pl f1s s2s tms) := hD
  have hw12 : r10 = (sh_X4_whyNot N no) := hw12
  have hw12 : r10 = (-1) := hw12.trans (nf_whyNot ho)
  subst hw12
  refine lv_iconst (v := (-1)) hx hb dL_refuses_304 (by decide) ?_
  refine lv_icmp_ne (tgt := 409) hx hb dL_refuses_305 (by decide) (fun c9 => absurd c9 (by decide)) (fun _ => ?_)
  refine lv_aload_n hx hb dL_refuses_308 rfl (lv_at hl 2 rfl) ?_
  refine lv_bipush (v := 14) hx hb dL_refuses_309 (by decide) ?_
  refine lv_iload_n hx hb dL_refuses_311 rfl (lv_at hl 1 rfl) ?_
  refine lv_iadd hx hb dL_refuses_312 ?_
  have hPs := k_self hP
  have hDs := k_selfD hD
  refine k_behi (X := []) (Y := []) (va_runV (As := [.int (14 + y1)]) (rest := []) ⟨hx, hb, hml, hown, hts⟩ (c_X4_count l D cI cC cQ H.size d0 n0 na s0 sa h1 h2 mm ma t0 p0 pa tk N S oo zz M0 M1 M2 M3 rs de pc pg sg ln po dd lt pl f1s s2s tms (14 + y1)) (kcwV hts wd_ml_RL_53 wd_im_yX4_count wd_sel_yX4_count wd_ini_RX4 wd_code_yX4_count rfl rfl rfl hd_X4_count ⟨Nat.le_of_ble_eq_true rfl, Nat.le_of_ble_eq_true rfl⟩) ⟨in_blind, va_recv hK (pa_l (pa_r hPs)) (ci := 4) (q0 := 0) rfl rfl, k_pre hK (pa_l (pa_r hPs)) (da_l (da_r hDs)) hN⟩ rfl rfl hl.1 rfl (lv_room (Nat.le_of_ble_eq_true rfl)) dL_refuses_313 ⟨Nat.le_of_ble_eq_true rfl, Nat.le_of_ble_eq_true rfl⟩) hPs hDs hS hA (fun r13 u14 H locs hw15 hP hD hS => ?_)
  have hP := k_unP hP
  have hD := k_unD hD
  have hP : va_P D vwCl (DW cI cC cQ d0 n0 na s0 sa h1 h2 mm ma t0 p0 pa tk N S oo zz M0 M1 M2 M3 rs de pc pg sg ln po dd lt pl f1s s2s tms) H := hP
  have hD : va_D A (DW cI cC cQ d0 n0 na s0 sa h1 h2 mm ma t0 p0 pa tk N S oo zz M0 M1 M2 M3 rs de pc pg sg ln po dd lt pl f1s s2s tms) := hD
  have hw15 : r13 = (sh_X4_count N zz ln (14 + y1)) := hw15
  have hw15 : r13 = (-1) := hw15.trans (nf_cnt1 hy)
  subst hw15
  refine lv_iconst (v := (-1)) hx hb dL_refuses_316 (by decide) ?_
  refine lv_icmp_ne (tgt := 409) hx hb dL_refuses_317 (by decide) (fun c9 => absurd c9 (by decide)) (fun _ => ?_)
  exact go  _ _ _ hP hD hS (lv_sub hl [0, 1, 2] rfl)
set_option maxHeartbeats 40000000 in
set_option maxRecDepth 100000 in
theorem rf_320 {p : Program} {l : Launch} {e : Env} {s : State} {m : MethodId} {args : Array Value} {below : List Frame} {meth : Method} {c : Code} {A : Nat → Prop} {Q : State → Prop} {D : va_G} {cI cC cQ : ClassId} {d0 : Nat} {n0 : Nat} {na : Nat → Nat} {s0 : Nat} {sa : Nat → Nat} {h1 : Nat} {h2 : Nat} {mm : Nat → Nat} {ma : Nat → Nat → Nat} {t0 : Nat} {p0 : Nat} {pa : Nat → Nat} {tk : Int32} {N : TMa} {S : TMa} {oo : Int32} {zz : Int32} {M0 : TMa} {M1 : TMa} {M2 : TMa} {M3 : TMa} {rs : Int32} {de : Int32} {pc : Int32} {pg : Int32} {sg : Nat → Int32} {ln : Int32} {po : Int32} {dd : Int32} {lt : Nat → Int32} {pl : Nat → Int32} {f1s : Nat → Int32} {s2s : Nat → Int32} {tms : Nat → Int32} {y1 no : Int32} (F : FxM p s m c args A D cI cC cQ cL_refuses 5) (hZ : stZ A s s.heap) (hoo : vp_in oo 4) (hzz : vp_in zz 5) (hpad : padr sg sg ln) (hy : yR y1) (ho : outN no) (go : AtL p l e rm_L_refuses s m args below meth c A Q D 0 0 5 (DW cI cC cQ d0 n0 na s0 sa h1 h2 mm ma t0 p0 pa tk N S oo zz M0 M1 M2 M3 rs de pc pg sg ln po dd lt pl f1s s2s tms) [(3, .int 1), (2, .int no), (1, .int y1), (0, .ref d0)] 411 []) : AtL p l e rm_L_refuses s m args below meth c A Q D 0 0 5 (DW cI cC cQ d0 n0 na s0 sa h1 h2 mm ma t0 p0 pa tk N S oo zz M0 M1 M2 M3 rs de pc pg sg ln po dd lt pl f1s s2s tms) [(2, .int no), (1, .int y1), (0, .ref d0)] 320 [] := by
  intro H locs ls hP hD hS hl
  obtain ⟨hx, hb, hml, hown, hts, hN, hA, hK⟩ := F
  refine lv_aload_n hx hb dL_refuses_320 rfl (lv_at hl 2 rfl) ?_
  refine lv_iconst (v := (-1)) hx hb dL_refuses_321 (by decide) ?_
  refine lv_iload_n hx hb dL_refuses_322 rfl (lv_at hl 1 rfl) ?_
  refine lv_isub hx hb dL_refuses_323 ?_
  have hPs := k_self hP
  have hDs := k_selfD hD
  refine k_behi (X := []) (Y := []) (va_runV (As := [.int ((-1) - y1)]) (rest := []) ⟨hx, hb, hml, hown, hts⟩ (c_X4_count l D cI cC cQ H.size d0 n0 na s0 sa h1 h2 mm ma t0 p0 pa tk N S oo zz M0 M1 M2 M3 rs de pc pg sg ln po dd lt pl f1s s2s tms ((-1) - y1)) (kcwV hts wd_ml_RL_53 wd_im_yX4_count wd_sel_yX4_count wd_ini_RX4 wd_code_yX4_count rfl rfl rfl hd_X4_count ⟨Nat.le_of_ble_eq_true rfl, Nat.le_of_ble_eq_true rfl⟩) ⟨in_blind, va_recv hK (pa_l (pa_r hPs)) (ci := 4) (q0 := 0) rfl rfl, k_pre hK (pa_l (pa_r hPs)) (da_l (da_r hDs)) hN⟩ rfl rfl hl.1 rfl (lv_room (Nat.le_of_ble_eq_true rfl)) dL_refuses_324 ⟨Nat.le_of_ble_eq_true rfl, Nat.le_of_ble_eq_true rfl⟩) hPs hDs hS hA (fun r1 u2 H locs hw3 hP hD hS => ?_)
  have hP := k_unP hP
  have hD := k_unD hD
  have hP : va_P D vwCl (DW cI cC cQ d0 n0 na s0 sa h1 h2 mm ma t0 p0 pa tk N S oo zz M0 M1 M2 M3 rs de pc pg sg ln po dd lt pl f1s s2s tms) H := hP
  have hD : va_D A (DW cI cC cQ d0 n0 na s0 sa h1 h2 mm ma t0 p0 pa tk N S oo zz M0 M1 M2 M3 rs de pc pg sg ln po dd lt pl f1s s2s tms) := hD
  have hw3 : r1 = (sh_X4_count N zz ln ((-1) - y1)) := hw3
  have hw3 : r1 = (-1) := hw3.trans (nf_cnt2 hy)
  subst hw3
  refine lv_iconst (v := (-1)) hx hb dL_refuses_327 (by decide) ?_
  refine lv_icmp_ne (tgt := 409) hx hb dL_refuses_328 (by decide) (fun c9 => absurd c9 (by decide)) (fun _ => ?_)
  refine lv_aload_n hx hb dL_refuses_331 rfl (lv_at hl 2 rfl) ?_
  refine lv_iload_n hx hb dL_refuses_332 rfl (lv_at hl 0 rfl) ?_
  refine lv_iconst (v := 1) hx hb dL_refuses_333 (by decide) ?_
  refine lv_iconst (v := 1) hx hb dL_refuses_334 (by decide) ?_
  have hPs := k_self hP
  have hDs := k_selfD hD
  refine k_behi (X := []) (Y := []) (va_runV (As := [.int no, .int 1, .int 1]) (rest := []) ⟨hx, hb, hml, hown, hts⟩ (c_X4_lasts l D cI cC cQ H.size d0 n0 na s0 sa h1 h2 mm ma t0 p0 pa tk N S oo zz M0 M1 M2 M3 rs de pc pg sg ln po dd lt pl f1s s2s tms no 1 1) (kcwV hts wd_ml_RL_63 wd_im_yX4_lasts wd_sel_yX4_lasts wd_ini_RX4 wd_code_yX4_lasts rfl rfl rfl hd_X4_lasts ⟨Nat.le_of_ble_eq_true rfl, Nat.le_of_ble_eq_true rfl⟩) ⟨in_blind, va_recv hK (pa_l (pa_r hPs)) (ci := 4) (q0 := 0) rfl rfl, k_pre hK (pa_l (pa_r hPs)) (da_l (da_r hDs)) hN⟩ rfl rfl hl.1 rfl (lv_room (Nat.le_of_ble_eq_true rfl)) dL_refuses_335 ⟨Nat.le_of_ble_eq_true rfl, Nat.le_of_ble_eq_true rfl⟩) hPs hDs hS hA (fun r4 u5 H locs hw6 hP hD hS => ?_)
  have hP := k_unP hP
  have hD := k_unD hD
  have hP : va_P D vwCl (DW cI cC cQ d0 n0 na s0 sa h1 h2 mm ma t0 p0 pa tk N S oo zz M0 M1 M2 M3 rs de pc pg sg ln po dd lt pl f1s s2s tms) H := hP
  have hD : va_D A (DW cI cC cQ d0 n0 na s0 sa h1 h2 mm ma t0 p0 pa tk N S oo zz M0 M1 M2 M3 rs de pc pg sg ln po dd lt pl f1s s2s tms) := hD
  have hw6 : r4 = (sh_X4_lasts N no 1 1) := hw6
  have hw6 : r4 = (-1) := hw6.trans (nf_lasts ho)
  subst hw6
  refine lv_iconst (v := (-1)) hx hb dL_refuses_338 (by decide) ?_
  refine lv_icmp_ne (tgt := 409) hx hb dL_refuses_339 (by decide) (fun c9 => absurd c9 (by decide)) (fun _ => ?_)
  refine lv_aload_n hx hb dL_refuses_342 rfl (lv_at hl 2 rfl) ?_
  refine lv_iconst (v := 0) hx hb dL_refuses_343 (by decide) ?_
  refine lv_iconst (v := 1) hx hb dL_refuses_344 (by decide) ?_
  refine lv_bipush (v := 51) hx hb dL_refuses_345 (by decide) ?_
  refine lv_iload_n hx hb dL_refuses_347 rfl (lv_at hl 1 rfl) ?_
  refine lv_iadd hx hb dL_refuses_348 ?_
  refine lv_iconst (v := 0) hx hb dL_refuses_349 (by decide) ?_
  have hPs := k_self hP
  have hDs := k_selfD hD
  refine k_behi (X := []) (Y := []) (va_runV (As := [.int 0, .int 1, .int (51 + y1), .int 0]) (rest := []) ⟨hx, hb, hml, hown, hts⟩ (c_X4_atHand l D cI cC cQ H.size d0 n0 na s0 sa h1 h2 mm ma t0 p0 pa tk N S oo zz M0 M1 M2 M3 rs de pc pg sg ln po dd lt pl f1s s2s tms 0 1 (51 + y1) 0) (kcwV hts wd_ml_RL_71 wd_im_yX4_atHand wd_sel_yX4_atHand wd_ini_RX4 wd_code_yX4_atHand rfl rfl rfl hd_X4_atHand ⟨Nat.le_of_ble_eq_true rfl, Nat.le_of_ble_eq_true rfl⟩) ⟨in_blind, va_recv hK (pa_l (pa_r hPs)) (ci := 4) (q0 := 0) rfl rfl, k_pre hK (pa_l (pa_r hPs)) (da_l (da_r hDs)) hN⟩ rfl rfl hl.1 rfl (lv_room (Nat.le_of_ble_eq_true rfl)) dL_refuses_350 ⟨Nat.le_of_ble_eq_true rfl, Nat.le_of_ble_eq_true rfl⟩) hPs hDs hS hA (fun r7 u8 H locs hw9 hP hD hS => ?_)
  have hP := k_unP hP
  have hD := k_unD hD
  have hP : va_P D vwCl (DW cI cC cQ d0 n0 na s0 sa h1 h2 mm ma t0 p0 pa tk N S oo zz M0 M1 M2 M3 rs de pc pg sg ln po dd lt pl f1s s2s tms) H := hP
  have hD : va_D A (DW cI cC cQ d0 n0 na s0 sa h1 h2 mm ma t0 p0 pa tk N S oo zz M0 M1 M2 M3 rs de pc pg sg ln po dd lt pl f1s s2s tms) := hD
  have hw9 : r7 = (sh_X4_atHand N 0 1 (51 + y1) 0) := hw9
  have hw9 : r7 = (-1) := hw9.trans (nf_hand1 hy)
  subst hw9
  refine lv_iconst (v := (-1)) hx hb dL_refuses_353 (by decide) ?_
  refine lv_icmp_ne (tgt := 409) hx hb dL_refuses_354 (by decide) (fun c9 => absurd c9 (by decide)) (fun _ => ?_)
  refine lv_aload_n hx hb dL_refuses_357 rfl (lv_at hl 2 rfl) ?_
  refine lv_iconst (v := 0) hx hb dL_refuses_358 (by decide) ?_
  refine lv_iconst (v := 1) hx hb dL_refuses_359 (by decide) ?_
  refine lv_iconst (v := 1) hx hb dL_refuses_360 (by decide) ?_
  refine lv_iconst (v := 2) hx hb dL_refuses_361 (by decide) ?_
  refine lv_iload_n hx hb dL_refuses_362 rfl (lv_at hl 1 rfl) ?_
  refine lv_iadd hx hb dL_refuses_363 ?_
  have hPs := k_self hP
  have hDs := k_selfD hD
  refine k_behi (X := []) (Y := []) (va_runV (As := [.int 0, .int 1, .int 1, .int (2 + y1)]) (rest := []) ⟨hx, hb, hml, hown, hts⟩ (c_X4_atHand l D cI cC cQ H.size d0 n0 na s0 sa h1 h2 mm ma t0 p0 pa tk N S oo zz M0 M1 M2 M3 rs de pc pg sg ln po dd lt pl f1s s2s tms 0 1 1 (2 + y1)) (kcwV hts wd_ml_RL_71 wd_im_yX4_atHand wd_sel_yX4_atHand wd_ini_RX4 wd_code_yX4_atHand rfl rfl rfl hd_X4_atHand ⟨Nat.le_of_ble_eq_true rfl, Nat.le_of_ble_eq_true rfl⟩) ⟨in_blind, va_recv hK (pa_l (pa_r hPs)) (ci := 4) (q0 := 0) rfl rfl, k_pre hK (pa_l (pa_r hPs)) (da_l (da_r hDs)) hN⟩ rfl rfl hl.1 rfl (lv_room (Nat.le_of_ble_eq_true rfl)) dL_refuses_364 ⟨Nat.le_of_ble_eq_true rfl, Nat.le_of_ble_eq_true rfl⟩) hPs hDs hS hA (fun r10 u11 H locs hw12 hP hD hS => ?_)
  have hP := k_unP hP
  have hD := k_unD hD
  have hP : va_P D vwCl (DW cI cC cQ d0 n0 na s0 sa h1 h2 mm ma t0 p0 pa tk N S oo zz M0 M1 M2 M3 rs de pc pg sg ln po dd lt pl f1s s2s tms) H := hP
  have hD : va_D A (DW cI cC cQ d0 n0 na s0 sa h1 h2 mm ma t0 p0 pa tk N S oo zz M0 M1 M2 M3 rs de pc pg sg ln po dd lt pl f1s s2s tms) := hD
  have hw12 : r10 = (sh_X4_atHand N 0 1 1 (2 + y1)) := hw12
  have hw12 : r10 = (-1) := hw12.trans (nf_hand2 hy)
  subst hw12
  refine lv_iconst (v := (-1)) hx hb dL_refuses_367 (by decide) ?_
  refine lv_icmp_ne (tgt := 409) hx hb dL_refuses_368 (by decide) (fun c9 => absurd c9 (by decide)) (fun _ => ?_)
  refine lv_aload_n hx hb dL_refuses_371 rfl (lv_at hl 2 rfl) ?_
  refine lv_iconst (v := 0) hx hb dL_refuses_372 (by decide) ?_
  refine lv_iconst (v := 1) hx hb dL_refuses_373 (by decide) ?_
  have hPs := k_self hP
  have hDs := k_selfD hD
  refine k_behi (X := []) (Y := []) (va_runV (As := [.int 0, .int 1]) (rest := []) ⟨hx, hb, hml, hown, hts⟩ (c_X4_bestFor l D cI cC cQ H.size d0 n0 na s0 sa h1 h2 mm ma t0 p0 pa tk N S oo zz M0 M1 M2 M3 rs de pc pg sg ln po dd lt pl f1s s2s tms 0 1) (kcwV hts wd_ml_RL_81 wd_im_yX4_bestFor wd_sel_yX4_bestFor wd_ini_RX4 wd_code_yX4_bestFor rfl rfl rfl hd_X4_bestFor ⟨Nat.le_of_ble_eq_true rfl, Nat.le_of_ble_eq_true rfl⟩) ⟨in_blind, va_recv hK (pa_l (pa_r hPs)) (ci := 4) (q0 := 0) rfl rfl, k_pre hK (pa_l (pa_r hPs)) (da_l (da_r hDs)) hN⟩ rfl rfl hl.1 rfl (lv_room (Nat.le_of_ble_eq_true rfl)) dL_refuses_374 ⟨Nat.le_of_ble_eq_true rfl, Nat.le_of_ble_eq_true rfl⟩) hPs hDs hS hA (fun r13 u14 H locs hw15 hP hD hS => ?_)
  have hP := k_unP hP
  have hD := k_unD hD
  have hP : va_P D vwCl (DW cI cC cQ d0 n0 na s0 sa h1 h2 mm ma t0 p0 pa tk N S oo zz M0 M1 M2 M3 rs de pc pg sg ln po dd lt pl f1s s2s tms) H := hP
  have hD : va_D A (DW cI cC cQ d0 n0 na s0 sa h1 h2 mm ma t0 p0 pa tk N S oo zz M0 M1 M2 M3 rs de pc pg sg ln po dd lt pl f1s s2s tms) := hD
  have hw15 : r13 = (sh_X4_bestFor N 0 1) := hw15
  have hw15 : r13 = (-1) := hw15.trans (nf_best1)
  subst hw15
  refine lv_iconst (v := (-1)) hx hb dL_refuses_377 (by decide) ?_
  refine lv_icmp_ne (tgt := 409) hx hb dL_refuses_378 (by decide) (fun c9 => absurd c9 (by decide)) (fun _ => ?_)
  refine lv_aload_n hx hb dL_refuses_381 rfl (lv_at hl 2 rfl) ?_
  refine lv_iconst (v := 1) hx hb dL_refuses_382 (by decide) ?_
  refine lv_bipush (v := 51) hx hb dL_refuses_383 (by decide) ?_
  refine lv_iload_n hx hb dL_refuses_385 rfl (lv_at hl 1 rfl) ?_
  refine lv_iadd hx hb dL_refuses_386 ?_
  have hPs := k_self hP
  have hDs := k_selfD hD
  refine k_behi (X := []) (Y := []) (va_runV (As := [.int 1, .int (51 + y1)]) (rest := []) ⟨hx, hb, hml, hown, hts⟩ (c_X4_bestFor l D cI cC cQ H.size d0 n0 na s0 sa h1 h2 mm ma t0 p0 pa tk N S oo zz M0 M1 M2 M3 rs de pc pg sg ln po dd lt pl f1s s2s tms 1 (51 + y1)) (kcwV hts wd_ml_RL_81 wd_im_yX4_bestFor wd_sel_yX4_bestFor wd_ini_RX4 wd_code_yX4_bestFor rfl rfl rfl hd_X4_bestFor ⟨Nat.le_of_ble_eq_true rfl, Nat.le_of_ble_eq_true rfl⟩) ⟨in_blind, va_recv hK (pa_l (pa_r hPs)) (ci := 4) (q0 := 0) rfl rfl, k_pre hK (pa_l (pa_r hPs)) (da_l (da_r hDs)) hN⟩ rfl rfl hl.1 rfl (lv_room (Nat.le_of_ble_eq_true rfl)) dL_refuses_387 ⟨Nat.le_of_ble_eq_true rfl, Nat.le_of_ble_eq_true rfl⟩) hPs hDs hS hA (fun r16 u17 H locs hw18 hP hD hS => ?_)
  have hP := k_unP hP
  have hD := k_unD hD
  have hP : va_P D vwCl (DW cI cC cQ d0 n0 na s0 sa h1 h2 mm ma t0 p0 pa tk N S oo zz M0 M1 M2 M3 rs de pc pg sg ln po dd lt pl f1s s2s tms) H := hP
  have hD : va_D A (DW cI cC cQ d0 n0 na s0 sa h1 h2 mm ma t0 p0 pa tk N S oo zz M0 M1 M2 M3 rs de pc pg sg ln po dd lt pl f1s s2s tms) := hD
  have hw18 : r16 = (sh_X4_bestFor N 1 (51 + y1)) := hw18
  have hw18 : r16 = (-1) := hw18.trans (nf_best2 hy)
  subst hw18
  refine lv_iconst (v := (-1)) hx hb dL_refuses_390 (by decide) ?_
  refine lv_icmp_ne (tgt := 409) hx hb dL_refuses_391 (by decide) (fun c9 => absurd c9 (by decide)) (fun _ => ?_)
  refine lv_aload_n hx hb dL_refuses_394 rfl (lv_at hl 2 rfl) ?_
  refine lv_iload_n hx hb dL_refuses_395 rfl (lv_at hl 0 rfl) ?_
  refine lv_iconst (v := 1) hx hb dL_refuses_396 (by decide) ?_
  refine lv_iconst (v := 1) hx hb dL_refuses_397 (by decide) ?_
  have hPs := k_self hP
  have hDs := k_selfD hD
  refine k_behi (X := []) (Y := []) (va_runV (As := [.int no, .int 1, .int 1]) (rest := []) ⟨hx, hb, hml, hown, hts⟩ (c_X4_darkest l D cI cC cQ H.size d0 n0 na s0 sa h1 h2 mm ma t0 p0 pa tk N S oo zz M0 M1 M2 M3 rs de pc pg sg ln po dd lt pl f1s s2s tms no 1 1) (kcwV hts wd_ml_RL_67 wd_im_yX4_darkest wd_sel_yX4_darkest wd_ini_RX4 wd_code_yX4_darkest rfl rfl rfl hd_X4_darkest ⟨Nat.le_of_ble_eq_true rfl, Nat.le_of_ble_eq_true rfl⟩) ⟨in_blind, va_recv hK (pa_l (pa_r hPs)) (ci := 4) (q0 := 0) rfl rfl, k_pre hK (pa_l (pa_r hPs)) (da_l (da_r hDs)) hN⟩ rfl rfl hl.1 rfl (lv_room (Nat.le_of_ble_eq_true rfl)) dL_refuses_398 ⟨Nat.le_of_ble_eq_true rfl, Nat.le_of_ble_eq_true rfl⟩) hPs hDs hS hA (fun r19 u20 H locs hw21 hP hD hS => ?_)
  have hP := k_unP hP
  have hD := k_unD hD
  have hP : va_P D vwCl (DW cI cC cQ d0 n0 na s0 sa h1 h2 mm ma t0 p0 pa tk N S oo zz M0 M1 M2 M3 rs de pc pg sg ln po dd lt pl f1s s2s tms) H := hP
  have hD : va_D A (DW cI cC cQ d0 n0 na s0 sa h1 h2 mm ma t0 p0 pa tk N S oo zz M0 M1 M2 M3 rs de pc pg sg ln po dd lt pl f1s s2s tms) := hD
  have hw21 : r19 = (sh_X4_darkest N no 1 1) := hw21
  have hw21 : r19 = (-1) := hw21.trans (nf_drk ho)
  subst hw21
  refine lv_iconst (v := (-1)) hx hb dL_refuses_401 (by decide) ?_
  refine lv_icmp_ne (tgt := 409) hx hb dL_refuses_402 (by decide) (fun c9 => absurd c9 (by decide)) (fun _ => ?_)
  refine lv_iconst (v := 1) hx hb dL_refuses_405 (by decide) ?_
  refine lv_goto (tgt := 410) hx hb dL_refuses_406 (by decide) ?_
  refine lv_istore_n (lv' := [(3, .int 1), (2, .int no), (1, .int y1), (0, .ref d0)]) hx hb dL_refuses_410 rfl hl (by decide) rfl (fun ls hl => ?_)
  exact go  _ _ _ hP hD hS (lv_sub hl [0, 1, 2, 3] rfl)
set_option maxHeartbeats 40000000 in
set_option maxRecDepth 100000 in
theorem rf_411 {p : Program} {l : Launch} {e : Env} {s : State} {m : MethodId} {args : Array Value} {below : List Frame} {meth : Method} {c : Code} {A : Nat → Prop} {Q : State → Prop} {D : va_G} {cI cC cQ : ClassId} {d0 : Nat} {n0 : Nat} {na : Nat → Nat} {s0 : Nat} {sa : Nat → Nat} {h1 : Nat} {h2 : Nat} {mm : Nat → Nat} {ma : Nat → Nat → Nat} {t0 : Nat} {p0 : Nat} {pa : Nat → Nat} {tk : Int32} {N : TMa} {S : TMa} {oo : Int32} {zz : Int32} {M0 : TMa} {M1 : TMa} {M2 : TMa} {M3 : TMa} {rs : Int32} {de : Int32} {pc : Int32} {pg : Int32} {sg : Nat → Int32} {ln : Int32} {po : Int32} {dd : Int32} {lt : Nat → Int32} {pl : Nat → Int32} {f1s : Nat → Int32} {s2s : Nat → Int32} {tms : Nat → Int32} {y1 no : Int32} (F : FxM p s m c args A D cI cC cQ cL_refuses 5) (hZ : stZ A s s.heap) (hoo : vp_in oo 4) (hzz : vp_in zz 5) (hpad : padr sg sg ln) (hy : yR y1) (go : AtL p l e rm_L_refuses s m args below meth c A Q D 0 0 5 (DW cI cC cQ d0 n0 na s0 sa h1 h2 mm ma t0 p0 pa tk N S oo zz M0 M1 M2 M3 rs de pc pg sg 0 0 1 (upd (upd lt (0 : Int32).toNatClampNeg (vp_nar .char 109)) (0 : Int32).toNatClampNeg (vp_nar .char 109)) (upd (upd pl (0 : Int32).toNatClampNeg 0) (0 : Int32).toNatClampNeg 0) f1s s2s tms) [(0, .ref d0)] 489 [.int 1]) : AtL p l e rm_L_refuses s m args below meth c A Q D 0 0 5 (DW cI cC cQ d0 n0 na s0 sa h1 h2 mm ma t0 p0 pa tk N S oo zz M0 M1 M2 M3 rs de pc pg sg ln po dd lt pl f1s s2s tms) [(3, .int 1), (2, .int no), (1, .int y1), (0, .ref d0)] 411 [] := by
  intro H locs ls hP hD hS hl
  obtain ⟨hx, hb, hml, hown, hts, hN, hA, hK⟩ := F
  refine lv_aload_n hx hb dL_refuses_411 rfl (lv_at hl 3 rfl) ?_
  have hPs := k_self hP
  have hDs := k_selfD hD
  refine k_behi (X := []) (Y := []) (va_runV (As := []) (rest := []) ⟨hx, hb, hml, hown, hts⟩ (c_X4_clear l D cI cC cQ H.size d0 n0 na s0 sa h1 h2 mm ma t0 p0 pa tk N S oo zz M0 M1 M2 M3 rs de pc pg sg ln po dd lt pl f1s s2s tms ) (kcwV hts wd_ml_RL_38 wd_im_yX4_clear wd_sel_yX4_clear wd_ini_RX4 wd_code_yX4_clear rfl rfl rfl hd_X4_clear ⟨Nat.le_of_ble_eq_true rfl, Nat.le_of_ble_eq_true rfl⟩) ⟨in_blind, va_recv hK (pa_l (pa_r hPs)) (ci := 4) (q0 := 0) rfl rfl, k_pre hK (pa_l (pa_r hPs)) (da_l (da_r hDs)) hN⟩ rfl rfl hl.1 rfl (lv_room (Nat.le_of_ble_eq_true rfl)) dL_refuses_412 ⟨Nat.le_of_ble_eq_true rfl, Nat.le_of_ble_eq_true rfl⟩) hPs hDs hS hA (fun r1 u2 H locs hw3 hP hD hS => ?_)
  have hw3 : (r1, u2) = (sh_X4_clear ln) := hw3
  obtain ⟨hr9, hu9⟩ := Prod.mk.inj (hw3.trans nf_clear)
  rw [hr9]
  subst hu9
  have hP := k_unP hP
  have hD := k_unD hD
  have hP : va_P D vwCl (DW cI cC cQ d0 n0 na s0 sa h1 h2 mm ma t0 p0 pa tk N S oo zz M0 M1 M2 M3 rs de pc pg sg 0 po dd lt pl f1s s2s tms) H := hP
  have hD : va_D A (DW cI cC cQ d0 n0 na s0 sa h1 h2 mm ma t0 p0 pa tk N S oo zz M0 M1 M2 M3 rs de pc pg sg 0 po dd lt pl f1s s2s tms) := hD
  refine lv_istore (lv' := [(4, .int ln), (3, .int 1), (2, .int no), (1, .int y1), (0, .ref d0)]) hx hb dL_refuses_415 hl (by decide) rfl (fun ls hl => ?_)
  refine lv_iload_n hx hb dL_refuses_417 rfl (lv_at hl 1 rfl) ?_
  refine lv_if_eq (tgt := 488) hx hb dL_refuses_418 (by decide) (fun c9 => absurd c9 (by decide)) (fun _ => ?_)
  refine lv_iload hx hb dL_refuses_421 (lv_at hl 0 rfl) ?_
  refine lv_if_lt (tgt := 488) hx hb dL_refuses_423 (by decide) (fun c9 => absurd c9 (ln_nn hpad)) (fun _ => ?_)
  refine lv_aload_n hx hb dL_refuses_426 rfl (lv_at hl 4 rfl) ?_
  have hPs := k_self hP
  have hDs := k_selfD hD
  refine k_behi (X := []) (Y := []) (va_runV (As := []) (rest := []) ⟨hx, hb, hml, hown, hts⟩ (c_X4_fault l D cI cC cQ H.size d0 n0 na s0 sa h1 h2 mm ma t0 p0 pa tk N S oo zz M0 M1 M2 M3 rs de pc pg sg 0 po dd lt pl f1s s2s tms ((k_in (by decide)))) (kcwV hts wd_ml_RL_44 wd_im_yX4_fault wd_sel_yX4_fault wd_ini_RX4 wd_code_yX4_fault rfl rfl rfl hd_X4_fault ⟨Nat.le_of_ble_eq_true rfl, Nat.le_of_ble_eq_true rfl⟩) ⟨in_blind, va_recv hK (pa_l (pa_r hPs)) (ci := 4) (q0 := 0) rfl rfl, k_pre hK (pa_l (pa_r hPs)) (da_l (da_r hDs)) hN⟩ rfl rfl hl.1 rfl (lv_room (Nat.le_of_ble_eq_true rfl)) dL_refuses_427 ⟨Nat.le_of_ble_eq_true rfl, Nat.le_of_ble_eq_true rfl⟩) hPs hDs hS hA (fun r4 u5 H locs hw6 hP hD hS => ?_)
  have hw6 : (r4, u5) = (sh_X4_fault sg 0 lt pl f1s s2s tms) := hw6
  obtain ⟨hr9, hu9⟩ := Prod.mk.inj (hw6.trans nf_fault)
  rw [hr9]
  subst hu9
  have hP := k_unP hP
  have hD := k_unD hD
  have hP : va_P D vwCl (DW cI cC cQ d0 n0 na s0 sa h1 h2 mm ma t0 p0 pa tk N S oo zz M0 M1 M2 M3 rs de pc pg sg 0 0 1 (upd lt (0 : Int32).toNatClampNeg (vp_nar .char 109)) (upd pl (0 : Int32).toNatClampNeg 0) f1s s2s tms) H := hP
  have hD : va_D A (DW cI cC cQ d0 n0 na s0 sa h1 h2 mm ma t0 p0 pa tk N S oo zz M0 M1 M2 M3 rs de pc pg sg 0 0 1 (upd lt (0 : Int32).toNatClampNeg (vp_nar .char 109)) (upd pl (0 : Int32).toNatClampNeg 0) f1s s2s tms) := hD
  refine lv_if_ne (tgt := 488) hx hb dL_refuses_430 (by decide) (fun c9 => absurd c9 (by decide)) (fun _ => ?_)
  refine lv_aload_n hx hb dL_refuses_433 rfl (lv_at hl 4 rfl) ?_
  have hPs := k_self hP
  have hDs := k_selfD hD
  refine k_behi (X := []) (Y := []) (va_runV (As := []) (rest := []) ⟨hx, hb, hml, hown, hts⟩ (c_X4_run l D cI cC cQ H.size d0 n0 na s0 sa h1 h2 mm ma t0 p0 pa tk N S oo zz M0 M1 M2 M3 rs de pc pg sg 0 0 1 (upd lt (0 : Int32).toNatClampNeg (vp_nar .char 109)) (upd pl (0 : Int32).toNatClampNeg 0) f1s s2s tms (hoo) (hzz) (padr_0)) (kcwV hts wd_ml_RL_47 wd_im_yX4_run wd_sel_yX4_run wd_ini_RX4 wd_code_yX4_run rfl rfl rfl hd_X4_run ⟨Nat.le_of_ble_eq_true rfl, Nat.le_of_ble_eq_true rfl⟩) ⟨in_blind, va_recv hK (pa_l (pa_r hPs)) (ci := 4) (q0 := 0) rfl rfl, k_pre hK (pa_l (pa_r hPs)) (da_l (da_r hDs)) hN⟩ rfl rfl hl.1 rfl (lv_room (Nat.le_of_ble_eq_true rfl)) dL_refuses_434 ⟨Nat.le_of_ble_eq_true rfl, Nat.le_of_ble_eq_true rfl⟩) hPs hDs hS hA (fun r7 u8 H locs hw9 hP hD hS => ?_)
  have hw9 : (r7, u8) = (sh_X4_run N oo zz M0 M1 M2 M3 rs de pc pg sg 0 (upd lt (0 : Int32).toNatClampNeg (vp_nar .char 109)) (upd pl (0 : Int32).toNatClampNeg 0) f1s s2s tms) := hw9
  obtain ⟨hr9, hu9⟩ := Prod.mk.inj (hw9.trans nf_run)
  rw [hr9]
  subst hu9
  have hP := k_unP hP
  have hD := k_unD hD
  have hP : va_P D vwCl (DW cI cC cQ d0 n0 na s0 sa h1 h2 mm ma t0 p0 pa tk N S oo zz M0 M1 M2 M3 rs de pc pg sg 0 0 1 (upd (upd lt (0 : Int32).toNatClampNeg (vp_nar .char 109)) (0 : Int32).toNatClampNeg (vp_nar .char 109)) (upd (upd pl (0 : Int32).toNatClampNeg 0) (0 : Int32).toNatClampNeg 0) f1s s2s tms) H := hP
  have hD : va_D A (DW cI cC cQ d0 n0 na s0 sa h1 h2 mm ma t0 p0 pa tk N S oo zz M0 M1 M2 M3 rs de pc pg sg 0 0 1 (upd (upd lt (0 : Int32).toNatClampNeg (vp_nar .char 109)) (0 : Int32).toNatClampNeg (vp_nar .char 109)) (upd (upd pl (0 : Int32).toNatClampNeg 0) (0 : Int32).toNatClampNeg 0) f1s s2s tms) := hD
  refine lv_bipush (v := (-2)) hx hb dL_refuses_437 (by decide) ?_
  refine lv_icmp_ne (tgt := 488) hx hb dL_refuses_439 (by decide) (fun c9 => absurd c9 (by decide)) (fun _ => ?_)
  refine lv_aload_n hx hb dL_refuses_442 rfl (lv_at hl 4 rfl) ?_
  refine lv_iconst (v := 0) hx hb dL_refuses_443 (by decide) ?_
  refine lv_iconst (v := 0) hx hb dL_refuses_444 (by decide) ?_
  have hPs := k_self hP
  have hDs := k_selfD hD
  refine k_behq (X := []) (Y := []) (va_runV (As := [.int 0, .int 0]) (rest := []) ⟨hx, hb, hml, hown, hts⟩ (c_X4_printer l D cI cC cQ H.size d0 n0 na s0 sa h1 h2 mm ma t0 p0 pa tk N S oo zz M0 M1 M2 M3 rs de pc pg sg 0 0 1 (upd (upd lt (0 : Int32).toNatClampNeg (vp_nar .char 109)) (0 : Int32).toNatClampNeg (vp_nar .char 109)) (upd (upd pl (0 : Int32).toNatClampNeg 0) (0 : Int32).toNatClampNeg 0) f1s s2s tms 0 0) (kcwV hts wd_ml_RL_60 wd_im_yX4_printer wd_sel_yX4_printer wd_ini_RX4 wd_code_yX4_printer rfl rfl rfl hd_X4_printer ⟨Nat.le_of_ble_eq_true rfl, Nat.le_of_ble_eq_true rfl⟩) ⟨in_blind, va_recv hK (pa_l (pa_r hPs)) (ci := 4) (q0 := 0) rfl rfl, k_pre hK (pa_l (pa_r hPs)) (da_l (da_r hDs)) hN⟩ rfl rfl hl.1 rfl (lv_room (Nat.le_of_ble_eq_true rfl)) dL_refuses_445 ⟨Nat.le_of_ble_eq_true rfl, Nat.le_of_ble_eq_true rfl⟩) hPs hDs hS hA (fun u11 H locs hP hD hS => ?_)
  have hP := k_unP hP
  have hD := k_unD hD
  have hP : va_P D vwCl (DW cI cC cQ d0 n0 na s0 sa h1 h2 mm ma t0 p0 pa tk N S oo zz M0 M1 M2 M3 rs de pc pg sg 0 0 1 (upd (upd lt (0 : Int32).toNatClampNeg (vp_nar .char 109)) (0 : Int32).toNatClampNeg (vp_nar .char 109)) (upd (upd pl (0 : Int32).toNatClampNeg 0) (0 : Int32).toNatClampNeg 0) f1s s2s tms) H := hP
  have hD : va_D A (DW cI cC cQ d0 n0 na s0 sa h1 h2 mm ma t0 p0 pa tk N S oo zz M0 M1 M2 M3 rs de pc pg sg 0 0 1 (upd (upd lt (0 : Int32).toNatClampNeg (vp_nar .char 109)) (0 : Int32).toNatClampNeg (vp_nar .char 109)) (upd (upd pl (0 : Int32).toNatClampNeg 0) (0 : Int32).toNatClampNeg 0) f1s s2s tms) := hD
  refine lv_bipush (v := (-4)) hx hb dL_refuses_448 (by decide) ?_
  have K : ∀  (H : Heap) (locs : List Loc) (ls : Array Slot), va_P D vwCl (DW cI cC cQ d0 n0 na s0 sa h1 h2 mm ma t0 p0 pa tk N S oo zz M0 M1 M2 M3 rs de pc pg sg 0 0 1 (upd (upd lt (0 : Int32).toNatClampNeg (vp_nar .char 109)) (0 : Int32).toNatClampNeg (vp_nar .char 109)) (upd (upd pl (0 : Int32).toNatClampNeg 0) (0 : Int32).toNatClampNeg 0) f1s s2s tms) H → va_D A (DW cI cC cQ d0 n0 na s0 sa h1 h2 mm ma t0 p0 pa tk N S oo zz M0 M1 M2 M3 rs de pc pg sg 0 0 1 (upd (upd lt (0 : Int32).toNatClampNeg (vp_nar .char 109)) (0 : Int32).toNatClampNeg (vp_nar .char 109)) (upd (upd pl (0 : Int32).toNatClampNeg 0) (0 : Int32).toNatClampNeg 0) f1s s2s tms) → va_S A s.heap H locs → lv_has ls 5 [(0, .ref d0), (1, .int y1), (2, .int no), (3, .int 1), (4, .int ln)] → W p l e rm_L_refuses s m args below meth c H locs 0 0 Q (F0 m 463 ls []) := by
    intro  H locs ls  hP hD hS hl
    refine lv_aload_n hx hb dL_refuses_463 rfl (lv_at hl 0 rfl) ?_
    refine lv_iconst (v := 1) hx hb dL_refuses_464 (by decide) ?_
    refine lv_iconst (v := 0) hx hb dL_refuses_465 (by decide) ?_
    have hPs := k_self hP
    have hDs := k_selfD hD
    refine k_behq (X := []) (Y := []) (va_runV (As := [.int 1, .int 0]) (rest := []) ⟨hx, hb, hml, hown, hts⟩ (c_X4_printer l D cI cC cQ H.size d0 n0 na s0 sa h1 h2 mm ma t0 p0 pa tk N S oo zz M0 M1 M2 M3 rs de pc pg sg 0 0 1 (upd (upd lt (0 : Int32).toNatClampNeg (vp_nar .char 109)) (0 : Int32).toNatClampNeg (vp_nar .char 109)) (upd (upd pl (0 : Int32).toNatClampNeg 0) (0 : Int32).toNatClampNeg 0) f1s s2s tms 1 0) (kcwV hts wd_ml_RL_60 wd_im_yX4_printer wd_sel_yX4_printer wd_ini_RX4 wd_code_yX4_printer rfl rfl rfl hd_X4_printer ⟨Nat.le_of_ble_eq_true rfl, Nat.le_of_ble_eq_true rfl⟩) ⟨in_blind, va_recv hK (pa_l (pa_r hPs)) (ci := 4) (q0 := 0) rfl rfl, k_pre hK (pa_l (pa_r hPs)) (da_l (da_r hDs)) hN⟩ rfl rfl hl.1 rfl (lv_room (Nat.le_of_ble_eq_true rfl)) dL_refuses_466 ⟨Nat.le_of_ble_eq_true rfl, Nat.le_of_ble_eq_true rfl⟩) hPs hDs hS hA (fun u19 H locs hP hD hS => ?_)
    have hP := k_unP hP
    have hD := k_unD hD
    have hP : va_P D vwCl (DW cI cC cQ d0 n0 na s0 sa h1 h2 mm ma t0 p0 pa tk N S oo zz M0 M1 M2 M3 rs de pc pg sg 0 0 1 (upd (upd lt (0 : Int32).toNatClampNeg (vp_nar .char 109)) (0 : Int32).toNatClampNeg (vp_nar .char 109)) (upd (upd pl (0 : Int32).toNatClampNeg 0) (0 : Int32).toNatClampNeg 0) f1s s2s tms) H := hP
    have hD : va_D A (DW cI cC cQ d0 n0 na s0 sa h1 h2 mm ma t0 p0 pa tk N S oo zz M0 M1 M2 M3 rs de pc pg sg 0 0 1 (upd (upd lt (0 : Int32).toNatClampNeg (vp_nar .char 109)) (0 : Int32).toNatClampNeg (vp_nar .char 109)) (upd (upd pl (0 : Int32).toNatClampNeg 0) (0 : Int32).toNatClampNeg 0) f1s s2s tms) := hD
    refine lv_bipush (v := (-4)) hx hb dL_refuses_469 (by decide) ?_
    have K : ∀  (H : Heap) (locs : List Loc) (ls : Array Slot), va_P D vwCl (DW cI cC cQ d0 n0 na s0 sa h1 h2 mm ma t0 p0 pa tk N S oo zz M0 M1 M2 M3 rs de pc pg sg 0 0 1 (upd (upd lt (0 : Int32).toNatClampNeg (vp_nar .char 109)) (0 : Int32).toNatClampNeg (vp_nar .char 109)) (upd (upd pl (0 : Int32).toNatClampNeg 0) (0 : Int32).toNatClampNeg 0) f1s s2s tms) H → va_D A (DW cI cC cQ d0 n0 na s0 sa h1 h2 mm ma t0 p0 pa tk N S oo zz M0 M1 M2 M3 rs de pc pg sg 0 0 1 (upd (upd lt (0 : Int32).toNatClampNeg (vp_nar .char 109)) (0 : Int32).toNatClampNeg (vp_nar .char 109)) (upd (upd pl (0 : Int32).toNatClampNeg 0) (0 : Int32).toNatClampNeg 0) f1s s2s tms) → va_S A s.heap H locs → lv_has ls 5 [(0, .ref d0), (1, .int y1), (2, .int no), (3, .int 1), (4, .int ln)] → W p l e rm_L_refuses s m args below meth c H locs 0 0 Q (F0 m 484 ls []) := by
      intro  H locs ls  hP hD hS hl
      refine lv_iconst (v := 1) hx hb dL_refuses_484 (by decide) ?_
      refine lv_goto (tgt := 489) hx hb dL_refuses_485 (by decide) ?_
      exact go  _ _ _ hP hD hS (lv_sub hl [0] rfl)
    refine lv_icmp_ne (tgt := 484) hx hb dL_refuses_471 (by decide) (fun c21 => ?_) (fun c21 => ?_)
    · skip
      exact K _ _ _ hP hD hS (lv_sub hl [0, 1, 2, 3, 4] rfl)
    · skip
      refine lv_aload_n hx hb dL_refuses_474 rfl (lv_at hl 0 rfl) ?_
      refine lv_iconst (v := 1) hx hb dL_refuses_475 (by decide) ?_
      have hPs := k_self hP
      have hDs := k_selfD hD
      refine k_behi (X := []) (Y := []) (va_runV (As := [.int 1]) (rest := []) ⟨hx, hb, hml, hown, hts⟩ (c_X4_takeOut l D cI cC cQ H.size d0 n0 na s0 sa h1 h2 mm ma t0 p0 pa tk N S oo zz M0 M1 M2 M3 rs de pc pg sg 0 0 1 (upd (upd lt (0 : Int32).toNatClampNeg (vp_nar .char 109)) (0 : Int32).toNatClampNeg (vp_nar .char 109)) (upd (upd pl (0 : Int32).toNatClampNeg 0) (0 : Int32).toNatClampNeg 0) f1s s2s tms 1 (hoo) (hzz)) (kcwV hts wd_ml_RL_19 wd_im_yX4_takeOut wd_sel_yX4_takeOut wd_ini_RX4 wd_code_yX4_takeOut rfl rfl rfl hd_X4_takeOut ⟨Nat.le_of_ble_eq_true rfl, Nat.le_of_ble_eq_true rfl⟩) ⟨in_blind, va_recv hK (pa_l (pa_r hPs)) (ci := 4) (q0 := 0) rfl rfl, k_pre hK (pa_l (pa_r hPs)) (da_l (da_r hDs)) hN⟩ rfl rfl hl.1 rfl (lv_room (Nat.le_of_ble_eq_true rfl)) dL_refuses_476 ⟨Nat.le_of_ble_eq_true rfl, Nat.le_of_ble_eq_true rfl⟩) hPs hDs hS hA (fun r22 u23 H locs hw24 hP hD hS => ?_)
      have hw24 : (r22, u23) = (sh_X4_takeOut N oo zz M0 M1 M2 M3 1) := hw24
      obtain ⟨hr9, hu9⟩ := Prod.mk.inj (hw24.trans (nf_take2 (k_in (by decide)) c21))
      rw [hr9]
      subst hu9
      have hP := k_unP hP
      have hD := k_unD hD
      have hP : va_P D vwCl (DW cI cC cQ d0 n0 na s0 sa h1 h2 mm ma t0 p0 pa tk N S oo zz M0 M1 M2 M3 rs de pc pg sg 0 0 1 (upd (upd lt (0 : Int32).toNatClampNeg (vp_nar .char 109)) (0 : Int32).toNatClampNeg (vp_nar .char 109)) (upd (upd pl (0 : Int32).toNatClampNeg 0) (0 : Int32).toNatClampNeg 0) f1s s2s tms) H := hP
      have hD : va_D A (DW cI cC cQ d0 n0 na s0 sa h1 h2 mm ma t0 p0 pa tk N S oo zz M0 M1 M2 M3 rs de pc pg sg 0 0 1 (upd (upd lt (0 : Int32).toNatClampNeg (vp_nar .char 109)) (0 : Int32).toNatClampNeg (vp_nar .char 109)) (upd (upd pl (0 : Int32).toNatClampNeg 0) (0 : Int32).toNatClampNeg 0) f1s s2s tms) := hD
      refine lv_bipush (v := (-2)) hx hb dL_refuses_479 (by decide) ?_
      refine lv_icmp_ne (tgt := 488) hx hb dL_refuses_481 (by decide) (fun c9 => absurd c9 (by decide)) (fun _ => ?_)
      exact K _ _ _ hP hD hS (lv_sub hl [0, 1, 2, 3, 4] rfl)
  refine lv_icmp_ne (tgt := 463) hx hb dL_refuses_450 (by decide) (fun c13 => ?_) (fun c13 => ?_)
  · skip
    exact K _ _ _ hP hD hS (lv_sub hl [4, 3, 2, 1, 0] rfl)
  · skip
    refine lv_aload_n hx hb dL_refuses_453 rfl (lv_at hl 4 rfl) ?_
    refine lv_iconst (v := 0) hx hb dL_refuses_454 (by decide) ?_
    have hPs := k_self hP
    have hDs := k_selfD hD
    refine k_behi (X := []) (Y := []) (va_runV (As := [.int 0]) (rest := []) ⟨hx, hb, hml, hown, hts⟩ (c_X4_takeOut l D cI cC cQ H.size d0 n0 na s0 sa h1 h2 mm ma t0 p0 pa tk N S oo zz M0 M1 M2 M3 rs de pc pg sg 0 0 1 (upd (upd lt (0 : Int32).toNatClampNeg (vp_nar .char 109)) (0 : Int32).toNatClampNeg (vp_nar .char 109)) (upd (upd pl (0 : Int32).toNatClampNeg 0) (0 : Int32).toNatClampNeg 0) f1s s2s tms 0 (hoo) (hzz)) (kcwV hts wd_ml_RL_19 wd_im_yX4_takeOut wd_sel_yX4_takeOut wd_ini_RX4 wd_code_yX4_takeOut rfl rfl rfl hd_X4_takeOut ⟨Nat.le_of_ble_eq_true rfl, Nat.le_of_ble_eq_true rfl⟩) ⟨in_blind, va_recv hK (pa_l (pa_r hPs)) (ci := 4) (q0 := 0) rfl rfl, k_pre hK (pa_l (pa_r hPs)) (da_l (da_r hDs)) hN⟩ rfl rfl hl.1 rfl (lv_room (Nat.le_of_ble_eq_true rfl)) dL_refuses_455 ⟨Nat.le_of_ble_eq_true rfl, Nat.le_of_ble_eq_true rfl⟩) hPs hDs hS hA (fun r14 u15 H locs hw16 hP hD hS => ?_)
    have hw16 : (r14, u15) = (sh_X4_takeOut N oo zz M0 M1 M2 M3 0) := hw16
    obtain ⟨hr9, hu9⟩ := Prod.mk.inj (hw16.trans (nf_take2 (k_in (by decide)) c13))
    rw [hr9]
    subst hu9
    have hP := k_unP hP
    have hD := k_unD hD
    have hP : va_P D vwCl (DW cI cC cQ d0 n0 na s0 sa h1 h2 mm ma t0 p0 pa tk N S oo zz M0 M1 M2 M3 rs de pc pg sg 0 0 1 (upd (upd lt (0 : Int32).toNatClampNeg (vp_nar .char 109)) (0 : Int32).toNatClampNeg (vp_nar .char 109)) (upd (upd pl (0 : Int32).toNatClampNeg 0) (0 : Int32).toNatClampNeg 0) f1s s2s tms) H := hP
    have hD : va_D A (DW cI cC cQ d0 n0 na s0 sa h1 h2 mm ma t0 p0 pa tk N S oo zz M0 M1 M2 M3 rs de pc pg sg 0 0 1 (upd (upd lt (0 : Int32).toNatClampNeg (vp_nar .char 109)) (0 : Int32).toNatClampNeg (vp_nar .char 109)) (upd (upd pl (0 : Int32).toNatClampNeg 0) (0 : Int32).toNatClampNeg 0) f1s s2s tms) := hD
    refine lv_bipush (v := (-2)) hx hb dL_refuses_458 (by decide) ?_
    refine lv_icmp_ne (tgt := 488) hx hb dL_refuses_460 (by decide) (fun c9 => absurd c9 (by decide)) (fun _ => ?_)
    exact K _ _ _ hP hD hS (lv_sub hl [4, 3, 2, 1, 0] rfl)
set_option maxHeartbeats 40000000 in
set_option maxRecDepth 100000 in
theorem rf_all {p : Program} {l : Launch} {e : Env} {s : State} {m : MethodId} {args : Array Value} {below : List Frame} {meth : Method} {c : Code} {A : Nat → Prop} {Q : State → Prop} {D : va_G} {cI cC cQ : ClassId} {d0 : Nat} {n0 : Nat} {na : Nat → Nat} {s0 : Nat} {sa : Nat → Nat} {h1 : Nat} {h2 : Nat} {mm : Nat → Nat} {ma : Nat → Nat → Nat} {t0 : Nat} {p0 : Nat} {pa : Nat → Nat} {tk : Int32} {N : TMa} {S : TMa} {oo : Int32} {zz : Int32} {M0 : TMa} {M1 : TMa} {M2 : TMa} {M3 : TMa} {rs : Int32} {de : Int32} {pc : Int32} {pg : Int32} {sg : Nat → Int32} {ln : Int32} {po : Int32} {dd : Int32} {lt : Nat → Int32} {pl : Nat → Int32} {f1s : Nat → Int32} {s2s : Nat → Int32} {tms : Nat → Int32} {y1 : Int32} (F : FxM p s m c args A D cI cC cQ cL_refuses 5) (hZ : stZ A s s.heap) (hoo : vp_in oo 4) (hzz : vp_in zz 5) (hpad : padr sg sg ln) (hy : yR y1) (go : AtL p l e rm_L_refuses s m args below meth c A Q D 0 0 5 (DW cI cC cQ d0 n0 na s0 sa h1 h2 mm ma t0 p0 pa tk N S oo zz M0 M1 M2 M3 rs de pc pg sg 0 0 1 (upd (upd lt (0 : Int32).toNatClampNeg (vp_nar .char 109)) (0 : Int32).toNatClampNeg (vp_nar .char 109)) (upd (upd pl (0 : Int32).toNatClampNeg 0) (0 : Int32).toNatClampNeg 0) f1s s2s tms) [(0, .ref d0)] 489 [.int 1]) : AtL p l e rm_L_refuses s m args below meth c A Q D 0 0 5 (DW cI cC cQ d0 n0 na s0 sa h1 h2 mm ma t0 p0 pa tk N S oo zz M0 M1 M2 M3 rs de pc pg sg ln po dd lt pl f1s s2s tms) [(1, .int y1), (0, .ref d0)] 0 [] := by
  refine rf_0 F hy (fun no ho => ?_)
  refine rf_16 F hZ hoo hzz hpad hy ho ?_
  refine rf_79 F hZ hoo hzz hpad hy ho ?_
  refine rf_142 F hZ hoo hzz hpad hy ho ?_
  refine rf_205 F hZ hoo hzz hpad hy ho ?_
  refine rf_260 F hZ hoo hzz hpad hy ho ?_
  refine rf_320 F hZ hoo hzz hpad hy ho ?_
  exact rf_411 F hZ hoo hzz hpad hy go
set_option maxHeartbeats 40000000 in
set_option maxRecDepth 100000 in
theorem c_L_refuses (l : Launch) (D : va_G) (cI cC cQ : ClassId) (sz : Nat) (d0 : Nat) (n0 : Nat) (na : Nat → Nat) (s0 : Nat) (sa : Nat → Nat) (h1 : Nat) (h2 : Nat) (mm : Nat → Nat) (ma : Nat → Nat → Nat) (t0 : Nat) (p0 : Nat) (pa : Nat → Nat) (tk : Int32) (N : TMa) (S : TMa) (oo : Int32) (zz : Int32) (M0 : TMa) (M1 : TMa) (M2 : TMa) (M3 : TMa) (rs : Int32) (de : Int32) (pc : Int32) (pg : Int32) (sg : Nat → Int32) (ln : Int32) (po : Int32) (dd : Int32) (lt : Nat → Int32) (pl : Nat → Int32) (f1s : Nat → Int32) (s2s : Nat → Int32) (tms : Nat → Int32) (y1 : Int32) (hoo : vp_in oo 4) (hzz : vp_in zz 5) (hpad : padr sg sg ln) (hy : yR y1) : Met l yL_refuses (wsO yL_refuses cL_refuses 5 (some .boolean)) rm_L_refuses (va_Pc [.ref d0, .int y1] (inZ D (TYS cI cC cQ) (DW cI cC cQ d0 n0 na s0 sa h1 h2 mm ma t0 p0 pa tk N S oo zz M0 M1 M2 M3 rs de pc pg sg ln po dd lt pl f1s s2s tms) sz)) (va_Qi (fun (r : Int32) (u : (Nat → Int32) × (Nat → Int32)) => r = 1 ∧ alk lt u.1 ∧ alk pl u.2) (fun (u : (Nat → Int32) × (Nat → Int32)) => atW D (TYS cI cC cQ) (va_A (DW cI cC cQ d0 n0 na s0 sa h1 h2 mm ma t0 p0 pa tk N S oo zz M0 M1 M2 M3 rs de pc pg sg ln po dd lt pl f1s s2s tms) sz) (DW cI cC cQ d0 n0 na s0 sa h1 h2 mm ma t0 p0 pa tk N S oo zz M0 M1 M2 M3 rs de pc pg sg 0 0 1 u.1 u.2 f1s s2s tms)) (va_A (DW cI cC cQ d0 n0 na s0 sa h1 h2 mm ma t0 p0 pa tk N S oo zz M0 M1 M2 M3 rs de pc pg sg ln po dd lt pl f1s s2s tms) sz)) 0 0 (va_A (DW cI cC cQ d0 n0 na s0 sa h1 h2 mm ma t0 p0 pa tk N S oo zz M0 M1 M2 M3 rs de pc pg sg ln po dd lt pl f1s s2s tms) sz) := by
  refine k_metZ .boolean rfl (by decide) (Nat.le_of_ble_eq_true rfl) ?_
  intro p e s m args below meth c A ls Q H locs hargs hZ hret hx hb hts hown hml hname hN hA hS hP hK hD hl
  have hl : lv_has ls 5 [(0, .ref d0), (1, .int y1)] := hl
  exact rf_all (p := p) (e := e) (args := args) (below := below) (meth := meth) (Q := Q) ⟨hx, hb, hml, hown, hts, hN, hA, hK⟩ hZ hoo hzz hpad hy (fun H locs ls hP hD hS hl => hret _ _ _ _ 1 ((upd (upd lt (0 : Int32).toNatClampNeg (vp_nar .char 109)) (0 : Int32).toNatClampNeg (vp_nar .char 109)), (upd (upd pl (0 : Int32).toNatClampNeg 0) (0 : Int32).toNatClampNeg 0)) dL_refuses_489 rfl ⟨rfl, alk_trans alk_u0 alk_u0, alk_trans alk_u0 alk_u0⟩ hP hD hS) H locs ls hP hD hS (lv_sub hl [1, 0] rfl)
