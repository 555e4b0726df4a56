theorem letter_po {pd : Nat → Int32} {ln po wr v k : Int32} (h : poOK po ln) (hv : v = if wr = 0 then sh_X5_next pd ln po else 0) (c : v = k) (hk : ¬ k = 0) : poS po (po + 1) ln := by
  by_cases a : wr = 0
  · rw [if_pos a] at hv
    exact poS_up h (next_in (pd := pd) (fun e => hk (by rw [← c, hv, e])))
  · rw [if_neg a] at hv
    exact absurd (by rw [← c, hv]) hk
theorem poS_number {pd : Nat → Int32} {ln po q wr x1 x2 : Int32} (h : poS po q ln) : poS po (sh_X5_number pd ln q wr x1 x2).2.1 ln := h.trans (number_po h.1)
theorem poS_digit {pd : Nat → Int32} {ln po q wr lo hi : Int32} (h : poS po q ln) (hx : 0 ≤ lo.toInt) : poS po (sh_X5_digit pd ln q wr lo hi).2.1 ln := h.trans (digit_po h.1 hx)
theorem poS_sign {pd : Nat → Int32} {ln po q wr x : Int32} (h : poS po q ln) (hx : ¬ x = 0) : poS po (sh_X5_sign pd ln q wr x).1 ln := h.trans (sign_po h.1 hx)
theorem poS_x {pd : Nat → Int32} {ln po q k : Int32} (h : poS po q ln) (c : sh_X5_next pd ln q = k) (hk : ¬ k = 0) : poS po (q + 1) ln := h.trans (poS_up h.1 (next_in (pd := pd) (lit_ne c hk)))
def sh_X5_deed (pd : Nat → Int32) (ln : Int32) (po : Int32) (wr : Int32) (fr : Int32) (sc : Int32) : (Int32) × (Int32) × (Int32) × (Int32) × (Int32) × (Int32) := (kb (α := (Int32)) (if wr = 0 then (sh_X5_next pd ln po) else 0) (fun z_v6 => (if z_v6 = 112 then (kb (sh_X5_digit pd ln (po + 1) wr 0 1) (fun z_r30 => (kb (sh_X5_sign pd ln z_r30.2.1 z_r30.2.2 58) (fun z_v38 => (kb (sh_X5_number pd ln z_v38.1 z_v38.2 1 999) (fun z_r40 => (if z_r40.2.2 = 0 then (if (sh_X5_next pd ln z_r40.2.1) = 120 then (kb (sh_X5_number pd ln (z_r40.2.1 + 1) z_r40.2.2 2 50) (fun z_r50 => (z_r50.2.1, z_r50.2.2, z_v6, z_r30.1, z_r40.1, z_r50.1))) else (z_r40.2.1, z_r40.2.2, z_v6, z_r30.1, z_r40.1, (1 : Int32))) else (z_r40.2.1, z_r40.2.2, z_v6, z_r30.1, z_r40.1, (1 : Int32))))))))) else (if z_v6 = 115 then (kb (sh_X5_digit pd ln (po + 1) wr 0 3) (fun z_r25 => (z_r25.2.1, z_r25.2.2, z_v6, z_r25.1, sc, (1 : Int32)))) else (if z_v6 = 109 then (kb (sh_X5_digit pd ln (po + 1) wr 0 3) (fun z_r10 => (kb (sh_X5_sign pd ln z_r10.2.1 z_r10.2.2 62) (fun z_v18 => (kb (sh_X5_digit pd ln z_v18.1 z_v18.2 0 1) (fun z_r20 => (z_r20.2.1, z_r20.2.2, z_v6, z_r10.1, z_r20.1, (1 : Int32)))))))) else (po, (1 : Int32), z_v6, fr, sc, (1 : Int32)))))))
set_option maxHeartbeats 400000 in
theorem deed_po {pd : Nat → Int32} {ln : Int32} {po : Int32} {wr : Int32} {fr : Int32} {sc : Int32} (h : poOK po ln) : poS po (sh_X5_deed pd ln po wr fr sc).1 ln := by
  simp only [sh_X5_deed, kb]
  (repeat' split) <;> (try dsimp only) <;> (repeat' first | exact absurd (by with_reducible assumption : (0 : Int32) = 112) (by decide) | exact absurd (by with_reducible assumption : (0 : Int32) = 115) (by decide) | exact absurd (by with_reducible assumption : (0 : Int32) = 109) (by decide) | with_reducible exact letter_po h rfl (by with_reducible assumption) (by decide) | with_reducible exact poS.rfl' h | with_reducible refine poS_number ?_ | with_reducible refine poS_digit ?_ (by decide) | with_reducible refine poS_sign ?_ (by decide) | with_reducible refine poS_x ?_ (by with_reducible assumption) (by decide))
theorem job_mu0 {ln q0 q m v : Int32} {n : Nat} (hs : poS q0 q ln) (hmu : (ln.toInt - q0.toInt).toNat + (if m = 0 then 0 else 1) < n + 1) (hm : ¬ m = 0) (hv : v = 0) : (ln.toInt - q.toInt).toNat + (if v = 0 then 0 else 1) < n := by
  rw [if_neg hm] at hmu
  rw [if_pos hv]
  have := hs.2
  omega
theorem sign_ok {pd : Nat → Int32} {ln po wr x : Int32} (h : (sh_X5_sign pd ln po wr x).2 = 0) : wr = 0 ∧ sh_X5_next pd ln po = x ∧ (sh_X5_sign pd ln po wr x).1 = po + 1 := by
  by_cases a : wr = 0
  · by_cases b : sh_X5_next pd ln po = x
    · refine ⟨a, b, ?_⟩
      simp only [sh_X5_sign, kb, if_pos a, if_pos b]
      rfl
    · simp only [sh_X5_sign, kb, if_pos a, if_neg b] at h
      exact absurd h (by decide)
  · simp only [sh_X5_sign, kb, if_neg a] at h
    exact absurd h (by decide)
theorem job_mu1 {pd : Nat → Int32} {ln q0 q q2 w w2 m v : Int32} {n : Nat} (hs : poS q0 q ln) (hw : (q2, w2) = sh_X5_sign pd ln q w 59) (hmu : (ln.toInt - q0.toInt).toNat + (if m = 0 then 0 else 1) < n + 1) (hm : ¬ m = 0) (hv : v = if w2 = 0 then 1 else 0) : (ln.toInt - q2.toInt).toNat + (if v = 0 then 0 else 1) < n := by
  rw [if_neg hm] at hmu
  have e1 : q2 = (sh_X5_sign pd ln q w 59).1 := by rw [← hw]
  have e2 : w2 = (sh_X5_sign pd ln q w 59).2 := by rw [← hw]
  have h0 := hs.2
  have h1 := sign_po (pd := pd) (wr := w) (x := 59) hs.1 (by decide)
  by_cases c : w2 = 0
  · rw [if_pos c] at hv
    have h2 := sign_ok (e2 ▸ c)
    rw [hv, if_neg (by decide)]
    have q5 : ¬ ln ≤ q := next_in (pd := pd) (lit_ne h2.2.1 (by decide))
    have := k_mu (x := ln) (v := q) (n := (ln.toInt - q.toInt).toNat) (by omega) q5
    rw [e1, h2.2.2]
    omega
  · rw [if_neg c] at hv
    rw [hv, if_pos rfl]
    have := h1.2
    rw [e1]
    omega
def lp_X5_isJob_12 (pd : Nat → Int32) (ln : Int32) : Nat → (Int32) → (Int32) → (Int32) → (Int32) → (Int32) → (Int32) → (Int32) → (Int32 × (Int32) × (Int32) × (Int32) × (Int32) × (Int32) × (Int32))
  | 0, _, _, _, _, _, _, _ => default
  | fu + 1, m1, l_po, l_wr, l_lt, l_fr, l_sc, l_tm => (if m1 = 0 then (if l_wr = 0 then ((1 : Int32), l_po, l_wr, l_lt, l_fr, l_sc, l_tm) else ((0 : Int32), l_po, l_wr, l_lt, l_fr, l_sc, l_tm)) else (kb (sh_X5_deed pd ln l_po l_wr l_fr l_sc) (fun z_v6 => (kb (α := (Int32)) (if z_v6.2.1 = 0 then (if ln ≤ z_v6.1 then 0 else 1) else 0) (fun z_v15 => (if z_v15 = 0 then (lp_X5_isJob_12 pd ln fu z_v15 z_v6.1 z_v6.2.1 z_v6.2.2.1 z_v6.2.2.2.1 z_v6.2.2.2.2.1 z_v6.2.2.2.2.2) else (kb (sh_X5_sign pd ln z_v6.1 z_v6.2.1 59) (fun z_v20 => (kb (α := (Int32)) (if z_v20.2 = 0 then 1 else 0) (fun z_v24 => (lp_X5_isJob_12 pd ln fu z_v24 z_v20.1 z_v20.2 z_v6.2.2.1 z_v6.2.2.2.1 z_v6.2.2.2.2.1 z_v6.2.2.2.2.2)))))))))))
def sh_X5_isJob (pd : Nat → Int32) (ln : Int32) (lt : Int32) (fr : Int32) (sc : Int32) (tm : Int32) : Int32 × (Int32) × (Int32) × (Int32) × (Int32) × (Int32) × (Int32) := (lp_X5_isJob_12 pd ln (((ln.toInt - (0 : Int32).toInt).toNat + (if (1 : Int32) = 0 then 0 else 1)) + 1) 1 0 0 lt fr sc tm)
def sh_X5_fault (pd : Nat → Int32) (ln : Int32) (lt : Int32) (fr : Int32) (sc : Int32) (tm : Int32) : Int32 × (Int32) × (Int32) × (Int32) × (Int32) × (Int32) × (Int32) := (kb (sh_X5_isJob pd ln lt fr sc tm) (fun z_r1 => (if z_r1.1 = 0 then (z_r1.2.1, z_r1.2.1, z_r1.2.2.1, z_r1.2.2.2.1, z_r1.2.2.2.2.1, z_r1.2.2.2.2.2.1, z_r1.2.2.2.2.2.2) else ((-4 : Int32), z_r1.2.1, z_r1.2.2.1, z_r1.2.2.2.1, z_r1.2.2.2.2.1, z_r1.2.2.2.2.2.1, z_r1.2.2.2.2.2.2))))
