theorem k_cl {x : Int32} {n : Nat} (h : vp_in x n) : x.toNatClampNeg < n ∧ (x.toNatClampNeg : Int) = x.toInt := by
  rw [vp_in_iff] at h
  have e : x.toNatClampNeg = x.toInt.toNat := rfl
  omega
theorem k_ix {x k : Int32} {n : Nat} (h : vp_in x n) (h0 : 0 ≤ k.toInt) (h1 : k.toInt + n ≤ 1000000) : (k + x).toNatClampNeg = k.toInt.toNat + x.toNatClampNeg := by
  have h2 := vp_add (N := 1000000) h h0 (by omega) (by omega)
  have a := k_cl h
  have b := k_cl h2
  rw [vp_in_iff] at h h2
  have e : (k + x).toInt = k.toInt + x.toInt := by
    rw [Int32.toInt_add]
    exact Int.bmod_eq_of_le (by omega) (by omega)
  omega
theorem k_ixn {x k : Int32} {n j : Nat} (h : vp_in x n) (h0 : 0 ≤ k.toInt) (h1 : k.toInt + n ≤ 1000000) (hj : k.toInt + n ≤ j ∨ (j : Int) < k.toInt) : j ≠ (k + x).toNatClampNeg := by
  have := k_ix h h0 h1
  have := (k_cl h).1
  omega
theorem k_un0 {f : Nat → Int32} {k j : Nat} {x : Int32} (h : j ≠ k) (h0 : ¬ f j = 0) : ¬ upd f k x j = 0 := by
  rw [pk_un h]; exact h0
/-- what holds of the 35 numbers of a state between calls -/
def iv (sv : Nat → Int32) : Prop :=
  (∀ c, c < 4 → 0 ≤ (sv c).toInt ∧ (sv c).toInt ≤ 2) ∧
  (∀ c, c < 4 → 0 ≤ (sv (4 + c)).toInt ∧ 0 ≤ (sv (8 + c)).toInt ∧ (sv (4 + c)).toInt + (sv (8 + c)).toInt ≤ 6000 ∧ 0 ≤ (sv (12 + c)).toInt ∧ (sv (12 + c)).toInt ≤ 4000) ∧
  (∀ q, q < 2 → -1 ≤ (sv (16 + q)).toInt ∧ (sv (16 + q)).toInt ≤ 3) ∧ (sv 16 = -1 ∨ ¬ sv 16 = sv 17) ∧
  (1 ≤ (sv 31).toInt ∧ (sv 31).toInt ≤ 5) ∧ (2 ≤ (sv 32).toInt ∧ (sv 32).toInt ≤ 50) ∧ (0 ≤ (sv 33).toInt ∧ (sv 33).toInt ≤ 1) ∧ (1 ≤ (sv 34).toInt ∧ (sv 34).toInt ≤ 500)
theorem iv_cup {sv : Nat → Int32} {q : Int32} (h : iv sv) (hq : vp_in q 2) (c : ¬ sv (16 + q).toNatClampNeg = -1) : vp_in (sv (16 + q).toNatClampNeg) 4 := by
  have e := k_ix (k := 16) hq (by decide) (by decide)
  have a := (k_cl hq).1
  have b := h.2.2.1 q.toNatClampNeg a
  rw [vp_in_iff]
  rw [e] at c ⊢
  have c := k_ne c
  simp only [show (16 : Int32).toInt.toNat = 16 from rfl, show (-1 : Int32).toInt = -1 from rfl] at *
  omega
theorem iv_32 {sv : Nat → Int32} (h : iv sv) : ¬ sv (32 : Int32).toNatClampNeg = 0 := fun e => by
  have h1 := h.2.2.2.2.2.1
  rw [show sv 32 = 0 from e] at h1
  exact absurd h1.1 (by decide)
theorem iv_34 {sv : Nat → Int32} (h : iv sv) : ¬ sv (34 : Int32).toNatClampNeg = 0 := fun e => by
  have h1 := h.2.2.2.2.2.2.2
  rw [show sv 34 = 0 from e] at h1
  exact absurd h1.1 (by decide)
theorem iv_hand {sv : Nat → Int32} {x : Int32} (h : iv sv) (hx : vp_in x 4) : ¬ sv (4 + x).toNatClampNeg < 0 := by
  have e := k_ix (k := 4) hx (by decide) (by decide)
  have b := h.2.1 x.toNatClampNeg (k_cl hx).1
  rw [e, Int32.lt_iff_toInt_lt]
  simp only [show (4 : Int32).toInt.toNat = 4 from rfl, show (0 : Int32).toInt = 0 from rfl] at *
  omega
theorem k_used {v h n : Int32} (hv : v = if n ≤ h then n else h) (c : ¬ v = n) (hh : ¬ h < 0) : ¬ n = 0 := fun e => by
  subst e
  by_cases q : (0 : Int32) ≤ h
  · rw [if_pos q] at hv; exact c hv
  · rw [Int32.le_iff_toInt_le] at q
    rw [Int32.lt_iff_toInt_lt] at hh
    omega
theorem k_gl {b t f : Int32} {n : Nat} : narrow .boolean (.int (1 : Int32)) = .int 1 := rfl

def sh_X5_reason (sv : Nat → Int32) (x1 : Int32) : Int32 := (if (sv (16 + x1).toNatClampNeg) = (-1) then (1 : Int32) else (if (sv (12 + (sv (16 + x1).toNatClampNeg)).toNatClampNeg) = 0 then (if (sv (33 : Int32).toNatClampNeg) = 1 then (2 : Int32) else (if (sv (4 + (sv (16 + x1).toNatClampNeg)).toNatClampNeg) = 0 then (3 : Int32) else (0 : Int32))) else (if (sv (4 + (sv (16 + x1).toNatClampNeg)).toNatClampNeg) = 0 then (3 : Int32) else (0 : Int32))))
abbrev rm_X5_reason : Room := { frames := 0, cells := 0, slots := 0, locals := 0 }
theorem hd_X5_reason : hdT yX5_reason 1 := by decide +kernel
set_option maxHeartbeats 40000000 in
set_option maxRecDepth 100000 in
theorem c_X5_reason (l : Launch) (D : va_G) (cI cC cQ : ClassId) (sz : Nat) (h0 : Nat) (a : Nat → Nat) (sv : Nat → Int32) (pa : Nat → Int32) (pn : Int32) (sn : Nat → Int32) (kp : Int32) (pd : Nat → Int32) (ln : Int32) (so : Nat → Int32) (po : Int32) (wr : Int32) (lt : Int32) (fr : Int32) (sc : Int32) (tm : Int32) (hd : Int32) (st : Int32) (x1 : Int32) (hi_x1 : vp_in x1 2) (hiv : iv sv) : Met l yX5_reason (wsO yX5_reason cX5_reason 3 (some .int)) rm_X5_reason (va_Pc [.ref h0, .int x1] (inW D (TYS cI cC cQ) (MO cI h0 a sv pa pn sn kp pd ln so po wr lt fr sc tm hd st) sz)) (va_Qi (fun (r : Int32) (_ : Unit) => r = sh_X5_reason sv x1) (fun (u : Unit) => atW D (TYS cI cC cQ) (va_A (MO cI h0 a sv pa pn sn kp pd ln so po wr lt fr sc tm hd st) sz) (MO cI h0 a sv pa pn sn kp pd ln so po wr lt fr sc tm hd st)) (va_A (MO cI h0 a sv pa pn sn kp pd ln so po wr lt fr sc tm hd st) sz)) 0 0 (va_A (MO cI h0 a sv pa pn sn kp pd ln so po wr lt fr sc tm hd st) sz) := by
  refine k_meti .int rfl (by decide) (Nat.le_of_ble_eq_true rfl) ?_
  intro p e s m args below meth c A ls Q H locs hargs hret hx hb hts hown hml hname hN hA hS hP hK hD hl
  have hl : lv_has ls 3 [(0, .ref h0), (1, .int x1)] := hl
  obtain ⟨Xq, hX⟩ : ∃ Xq, Xq = sh_X5_reason sv x1 := ⟨_, rfl⟩
  have hq : Xq = (if (sv (16 + x1).toNatClampNeg) = (-1) then (1 : Int32) else (if (sv (12 + (sv (16 + x1).toNatClampNeg)).toNatClampNeg) = 0 then (if (sv (33 : Int32).toNatClampNeg) = 1 then (2 : Int32) else (if (sv (4 + (sv (16 + x1).toNatClampNeg)).toNatClampNeg) = 0 then (3 : Int32) else (0 : Int32))) else (if (sv (4 + (sv (16 + x1).toNatClampNeg)).toNatClampNeg) = 0 then (3 : Int32) else (0 : Int32)))) := hX
  refine lv_aload_n hx hb dX5_reason_0 rfl (lv_at hl 0 rfl) ?_
  refine va_get (D := D) (ci := 5) (v := .ref (a 0)) (C := RX5) (T := TX5) (N := 16) hx hb hts inA5 hown hK hP 0 rfl rfl 0 (by decide) (hts _ wd_fl_RX5_7) (fun _ h9 => h9) rfl dX5_reason_1 ?_
  refine lv_bipush (v := 16) hx hb dX5_reason_4 (by decide) ?_
  refine lv_iload_n hx hb dX5_reason_6 rfl (lv_at hl 1 rfl) ?_
  refine lv_iadd hx hb dX5_reason_7 ?_
  refine va_iald hx hb hK hP 1 0 rfl rfl (vp_add hi_x1 (by decide) (by decide) (by decide)) dX5_reason_8 ?_
  refine lv_istore_n (lv' := [(2, .int (sv (16 + x1).toNatClampNeg)), (0, .ref h0), (1, .int x1)]) hx hb dX5_reason_9 rfl hl (by decide) rfl (fun ls hl => ?_)
  refine lv_iload_n hx hb dX5_reason_10 rfl (lv_at hl 0 rfl) ?_
  refine lv_iconst (v := (-1)) hx hb dX5_reason_11 (by decide) ?_
  refine lv_icmp_ne (tgt := 19) hx hb dX5_reason_12 (by decide) (fun c1 => ?_) (fun c1 => ?_)
  · have hq := it_neg hq c1
    refine lv_aload_n hx hb dX5_reason_19 rfl (lv_at hl 1 rfl) ?_
    refine va_get (D := D) (ci := 5) (v := .ref (a 0)) (C := RX5) (T := TX5) (N := 16) hx hb hts inA5 hown hK hP 0 rfl rfl 0 (by decide) (hts _ wd_fl_RX5_7) (fun _ h9 => h9) rfl dX5_reason_20 ?_
    refine lv_bipush (v := 12) hx hb dX5_reason_23 (by decide) ?_
    refine lv_iload_n hx hb dX5_reason_25 rfl (lv_at hl 0 rfl) ?_
    refine lv_iadd hx hb dX5_reason_26 ?_
    refine va_iald hx hb hK hP 1 0 rfl rfl (vp_add (iv_cup hiv hi_x1 c1) (by decide) (by decide) (by decide)) dX5_reason_27 ?_
    refine lv_if_ne (tgt := 46) hx hb dX5_reason_28 (by decide) (fun c2 => ?_) (fun c2 => ?_)
    · have hq := it_neg hq c2
      refine lv_aload_n hx hb dX5_reason_46 rfl (lv_at hl 1 rfl) ?_
      refine va_get (D := D) (ci := 5) (v := .ref (a 0)) (C := RX5) (T := TX5) (N := 16) hx hb hts inA5 hown hK hP 0 rfl rfl 0 (by decide) (hts _ wd_fl_RX5_7) (fun _ h9 => h9) rfl dX5_reason_47 ?_
      refine lv_iconst (v := 4) hx hb dX5_reason_50 (by decide) ?_
      refine lv_iload_n hx hb dX5_reason_51 rfl (lv_at hl 0 rfl) ?_
      refine lv_iadd hx hb dX5_reason_52 ?_
      refine va_iald hx hb hK hP 1 0 rfl rfl (vp_add (iv_cup hiv hi_x1 c1) (by decide) (by decide) (by decide)) dX5_reason_53 ?_
      refine lv_if_ne (tgt := 61) hx hb dX5_reason_54 (by decide) (fun c3 => ?_) (fun c3 => ?_)
      · have hq := it_neg hq c3
        refine lv_iconst (v := 0) hx hb dX5_reason_61 (by decide) ?_
        exact hret _ _ _ _ (0) () dX5_reason_62 rfl (hq.symm.trans hX) hP hD hS
      · have hq := it_pos hq c3
        refine lv_iconst (v := 3) hx hb dX5_reason_57 (by decide) ?_
        refine lv_goto (tgt := 62) hx hb dX5_reason_58 (by decide) ?_
        exact hret _ _ _ _ (3) () dX5_reason_62 rfl (hq.symm.trans hX) hP hD hS
    · have hq := it_pos hq c2
      refine lv_aload_n hx hb dX5_reason_31 rfl (lv_at hl 1 rfl) ?_
      refine va_get (D := D) (ci := 5) (v := .ref (a 0)) (C := RX5) (T := TX5) (N := 16) hx hb hts inA5 hown hK hP 0 rfl rfl 0 (by decide) (hts _ wd_fl_RX5_7) (fun _ h9 => h9) rfl dX5_reason_32 ?_
      refine lv_bipush (v := 33) hx hb dX5_reason_35 (by decide) ?_
      refine va_iald hx hb hK hP 1 0 rfl rfl (k_in (by decide)) dX5_reason_37 ?_
      refine lv_iconst (v := 1) hx hb dX5_reason_38 (by decide) ?_
      refine lv_icmp_ne (tgt := 46) hx hb dX5_reason_39 (by decide) (fun c4 => ?_) (fun c4 => ?_)
      · have hq := it_neg hq c4
        refine lv_aload_n hx hb dX5_reason_46 rfl (lv_at hl 1 rfl) ?_
        refine va_get (D := D) (ci := 5) (v := .ref (a 0)) (C := RX5) (T := TX5) (N := 16) hx hb hts inA5 hown hK hP 0 rfl rfl 0 (by decide) (hts _ wd_fl_RX5_7) (fun _ h9 => h9) rfl dX5_reason_47 ?_
        refine lv_iconst (v := 4) hx hb dX5_reason_50 (by decide) ?_
        refine lv_iload_n hx hb dX5_reason_51 rfl (lv_at hl 0 rfl) ?_
        refine lv_iadd hx hb dX5_reason_52 ?_
        refine va_iald hx hb hK hP 1 0 rfl rfl (vp_add (iv_cup hiv hi_x1 c1) (by decide) (by decide) (by decide)) dX5_reason_53 ?_
        refine lv_if_ne (tgt := 61) hx hb dX5_reason_54 (by decide) (fun c5 => ?_) (fun c5 => ?_)
        · have hq := it_neg hq c5
          refine lv_iconst (v := 0) hx hb dX5_reason_61 (by decide) ?_
          exact hret _ _ _ _ (0) () dX5_reason_62 rfl (hq.symm.trans hX) hP hD hS
        · have hq := it_pos hq c5
          refine lv_iconst (v := 3) hx hb dX5_reason_57 (by decide) ?_
          refine lv_goto (tgt := 62) hx hb dX5_reason_58 (by decide) ?_
          exact hret _ _ _ _ (3) () dX5_reason_62 rfl (hq.symm.trans hX) hP hD hS
      · have hq := it_pos hq c4
        refine lv_iconst (v := 2) hx hb dX5_reason_42 (by decide) ?_
        refine lv_goto (tgt := 62) hx hb dX5_reason_43 (by decide) ?_
        exact hret _ _ _ _ (2) () dX5_reason_62 rfl (hq.symm.trans hX) hP hD hS
  · have hq := it_pos hq c1
    refine lv_iconst (v := 1) hx hb dX5_reason_15 (by decide) ?_
    refine lv_goto (tgt := 62) hx hb dX5_reason_16 (by decide) ?_
    exact hret _ _ _ _ (1) () dX5_reason_62 rfl (hq.symm.trans hX) hP hD hS
theorem reasonIn {sv : Nat → Int32} {q : Int32} (h : iv sv) (hq : vp_in q 2) (c : sh_X5_reason sv q ≤ 0) : vp_in (sv (16 + q).toNatClampNeg) 4 := by
  by_cases e : sv (16 + q).toNatClampNeg = -1
  · unfold sh_X5_reason at c
    rw [if_pos e] at c
    exact absurd c (by decide)
  · exact iv_cup h hq e
def sh_X5_prints (sv : Nat → Int32) (x1 : Int32) (x2 : Int32) : Int32 × (Nat → Int32) := (if (sh_X5_reason sv x1) ≤ 0 then (kb (α := (Int32)) (if (sh_X5_need sv (sv (16 + x1).toNatClampNeg) x2 (sv (31 : Int32).toNatClampNeg)) ≤ (sv (4 + (sv (16 + x1).toNatClampNeg)).toNatClampNeg) then (sh_X5_need sv (sv (16 + x1).toNatClampNeg) x2 (sv (31 : Int32).toNatClampNeg)) else (sv (4 + (sv (16 + x1).toNatClampNeg)).toNatClampNeg)) (fun z_v10 => (kb (α := (Int32)) (if z_v10 = (sh_X5_need sv (sv (16 + x1).toNatClampNeg) x2 (sv (31 : Int32).toNatClampNeg)) then 100 else ((z_v10 * 100) / (sh_X5_need sv (sv (16 + x1).toNatClampNeg) x2 (sv (31 : Int32).toNatClampNeg)))) (fun z_v13 => (kb (α := Nat → Int32) (upd sv (4 + (sv (16 + x1).toNatClampNeg)).toNatClampNeg ((sv (4 + (sv (16 + x1).toNatClampNeg)).toNatClampNeg) - z_v10)) (fun z_f17 => (kb (α := Nat → Int32) (upd z_f17 (28 : Int32).toNatClampNeg ((z_f17 (28 : Int32).toNatClampNeg) + z_v10)) (fun z_f19 => (kb (α := (Int32)) (if (z_f19 (12 + (sv (16 + x1).toNatClampNeg)).toNatClampNeg) ≤ (sh_X5_counted sv (sv (16 + x1).toNatClampNeg) x2) then 0 else ((z_f19 (12 + (sv (16 + x1).toNatClampNeg)).toNatClampNeg) - (sh_X5_counted sv (sv (16 + x1).toNatClampNeg) x2))) (fun z_v23 => (kb (α := Nat → Int32) (upd z_f19 (12 + (sv (16 + x1).toNatClampNeg)).toNatClampNeg z_v23) (fun z_f24 => (kb (α := Nat → Int32) (upd z_f24 (4 + (sv (16 + x1).toNatClampNeg)).toNatClampNeg ((z_f24 (4 + (sv (16 + x1).toNatClampNeg)).toNatClampNeg) - ((z_f24 (4 + (sv (16 + x1).toNatClampNeg)).toNatClampNeg) / (z_f24 (32 : Int32).toNatClampNeg)))) (fun z_f26 => (kb (α := Nat → Int32) (upd z_f26 (8 + (sv (16 + x1).toNatClampNeg)).toNatClampNeg ((z_f26 (8 + (sv (16 + x1).toNatClampNeg)).toNatClampNeg) + ((z_f24 (4 + (sv (16 + x1).toNatClampNeg)).toNatClampNeg) / (z_f24 (32 : Int32).toNatClampNeg)))) (fun z_f28 => (kb (α := (Int32)) (if z_v10 = (sh_X5_need sv (sv (16 + x1).toNatClampNeg) x2 (sv (31 : Int32).toNatClampNeg)) then 1 else 0) (fun z_v32 => (kb (α := Nat → Int32) (upd z_f28 (18 + x1).toNatClampNeg ((z_f28 (18 + x1).toNatClampNeg) + z_v32)) (fun z_f33 => (kb (α := (Int32)) (if z_v10 = (sh_X5_need sv (sv (16 + x1).toNatClampNeg) x2 (sv (31 : Int32).toNatClampNeg)) then 0 else 1) (fun z_v37 => (kb (α := Nat → Int32) (upd z_f33 (20 + x1).toNatClampNeg ((z_f33 (20 + x1).toNatClampNeg) + z_v37)) (fun z_f38 => (kb (α := Nat → Int32) (upd z_f38 (24 + x1).toNatClampNeg ((z_f38 (24 + x1).toNatClampNeg) + x2)) (fun z_f40 => (kb (α := Nat → Int32) (upd z_f40 (26 + x1).toNatClampNeg z_v13) (fun z_f42 => ((10 + z_v13), z_f42))))))))))))))))))))))))))))) else (kb (α := Nat → Int32) (upd sv (22 + x1).toNatClampNeg ((sv (22 + x1).toNatClampNeg) + 1)) (fun z_f44 => ((sh_X5_reason sv x1), z_f44))))
abbrev rm_X5_prints : Room := { frames := 2, cells := 0, slots := 0, locals := 46 }
theorem hd_X5_prints : hdT yX5_prints 2 := by decide +kernel
set_option maxHeartbeats 40000000 in
set_option maxRecDepth 100000 in
theorem c_X5_prints (l : Launch) (D : va_G) (cI cC cQ : ClassId) (sz : Nat) (h0 : Nat) (a : Nat → Nat) (sv : Nat → Int32) (pa : Nat → Int32) (pn : Int32) (sn : Nat → Int32) (kp : Int32) (pd : Nat → Int32) (ln : Int32) (so : Nat → Int32) (po : Int32) (wr : Int32) (lt : Int32) (fr : Int32) (sc : Int32) (tm : Int32) (hd : Int32) (st : Int32) (x1 : Int32) (x2 : Int32) (hi_x1 : vp_in x1 2) (hiv : iv sv) : Met l yX5_prints (wsO yX5_prints cX5_prints 10 (some .int)) rm_X5_prints (va_Pc [.ref h0, .int x1, .int x2] (inW D (TYS cI cC cQ) (MO cI h0 a sv pa pn sn kp pd ln so po wr lt fr sc tm hd st) sz)) (va_Qi (fun (r : Int32) (u : (Nat → Int32)) => (r, u) = sh_X5_prints sv x1 x2) (fun (u : (Nat → Int32)) => atW D (TYS cI cC cQ) (va_A (MO cI h0 a sv pa pn sn kp pd ln so po wr lt fr sc tm hd st) sz) (MO cI h0 a u pa pn sn kp pd ln so po wr lt fr sc tm hd st)) (va_A (MO cI h0 a sv pa pn sn kp pd ln so po wr lt fr sc tm hd st) sz)) 0 0 (va_A (MO cI h0 a sv pa pn sn kp pd ln so po wr lt fr sc tm hd st) sz) := by
  refine k_meti .int rfl (by decide) (Nat.le_of_ble_eq_true rfl) ?_
  intro p e s m args below meth c A ls Q H locs hargs hret hx hb hts hown hml hname hN hA hS hP hK hD hl
  have hl : lv_has ls 10 [(0, .ref h0), (1, .int x1), (2, .int x2)] := hl
  obtain ⟨Xq, hX⟩ : ∃ Xq, Xq = sh_X5_prints sv x1 x2 := ⟨_, rfl⟩
  have hq : Xq = (if (sh_X5_reason sv x1) ≤ 0 then (kb (α := (Int32)) (if (sh_X5_need sv (sv (16 + x1).toNatClampNeg) x2 (sv (31 : Int32).toNatClampNeg)) ≤ (sv (4 + (sv (16 + x1).toNatClampNeg)).toNatClampNeg) then (sh_X5_need sv (sv (16 + x1).toNatClampNeg) x2 (sv (31 : Int32).toNatClampNeg)) else (sv (4 + (sv (16 + x1).toNatClampNeg)).toNatClampNeg)) (fun z_v10 => (kb (α := (Int32)) (if z_v10 = (sh_X5_need sv (sv (16 + x1).toNatClampNeg) x2 (sv (31 : Int32).toNatClampNeg)) then 100 else ((z_v10 * 100) / (sh_X5_need sv (sv (16 + x1).toNatClampNeg) x2 (sv (31 : Int32).toNatClampNeg)))) (fun z_v13 => (kb (α := Nat → Int32) (upd sv (4 + (sv (16 + x1).toNatClampNeg)).toNatClampNeg ((sv (4 + (sv (16 + x1).toNatClampNeg)).toNatClampNeg) - z_v10)) (fun z_f17 => (kb (α := Nat → Int32) (upd z_f17 (28 : Int32).toNatClampNeg ((z_f17 (28 : Int32).toNatClampNeg) + z_v10)) (fun z_f19 => (kb (α := (Int32)) (if (z_f19 (12 + (sv (16 + x1).toNatClampNeg)).toNatClampNeg) ≤ (sh_X5_counted sv (sv (16 + x1).toNatClampNeg) x2) then 0 else ((z_f19 (12 + (sv (16 + x1).toNatClampNeg)).toNatClampNeg) - (sh_X5_counted sv (sv (16 + x1).toNatClampNeg) x2))) (fun z_v23 => (kb (α := Nat → Int32) (upd z_f19 (12 + (sv (16 + x1).toNatClampNeg)).toNatClampNeg z_v23) (fun z_f24 => (kb (α := Nat → Int32) (upd z_f24 (4 + (sv (16 + x1).toNatClampNeg)).toNatClampNeg ((z_f24 (4 + (sv (16 + x1).toNatClampNeg)).toNatClampNeg) - ((z_f24 (4 + (sv (16 + x1).toNatClampNeg)).toNatClampNeg) / (z_f24 (32 : Int32).toNatClampNeg)))) (fun z_f26 => (kb (α := Nat → Int32) (upd z_f26 (8 + (sv (16 + x1).toNatClampNeg)).toNatClampNeg ((z_f26 (8 + (sv (16 + x1).toNatClampNeg)).toNatClampNeg) + ((z_f24 (4 + (sv (16 + x1).toNatClampNeg)).toNatClampNeg) / (z_f24 (32 : Int32).toNatClampNeg)))) (fun z_f28 => (kb (α := (Int32)) (if z_v10 = (sh_X5_need sv (sv (16 + x1).toNatClampNeg) x2 (sv (31 : Int32).toNatClampNeg)) then 1 else 0) (fun z_v32 => (kb (α := Nat → Int32) (upd z_f28 (18 + x1).toNatClampNeg ((z_f28 (18 + x1).toNatClampNeg) + z_v32)) (fun z_f33 => (kb (α := (Int32)) (if z_v10 = (sh_X5_need sv (sv (16 + x1).toNatClampNeg) x2 (sv (31 : Int32).toNatClampNeg)) then 0 else 1) (fun z_v37 => (kb (α := Nat → Int32) (upd z_f33 (20 + x1).toNatClampNeg ((z_f33 (20 + x1).toNatClampNeg) + z_v37)) (fun z_f38 => (kb (α := Nat → Int32) (upd z_f38 (24 + x1).toNatClampNeg ((z_f38 (24 + x1).toNatClampNeg) + x2)) (fun z_f40 => (kb (α := Nat → Int32) (upd z_f40 (26 + x1).toNatClampNeg z_v13) (fun z_f42 => ((10 + z_v13), z_f42))))))))))))))))))))))))))))) else (kb (α := Nat → Int32) (upd sv (22 + x1).toNatClampNeg ((sv (22 + x1).toNatClampNeg) + 1)) (fun z_f44 => ((sh_X5_reason sv x1), z_f44)))) := hX
  refine lv_aload_n hx hb dX5_prints_0 rfl (lv_at hl 0 rfl) ?_
  refine lv_iload_n hx hb dX5_prints_1 rfl (lv_at hl 1 rfl) ?_
  have hPs := k_self hP
  have hDs := k_selfD hD
  refine k_behi (X := []) (Y := []) (va_runV (As := [.int x1]) (rest := []) ⟨hx, hb, hml, hown, hts⟩ (c_X5_reason l D cI cC cQ H.size h0 a sv pa pn sn kp pd ln so po wr lt fr sc tm hd st x1 (hi_x1) (hiv)) (kcwV hts wd_ml_RX5_41 wd_im_yX5_reason wd_sel_yX5_reason wd_ini_RX5 wd_code_yX5_reason rfl rfl rfl hd_X5_reason ⟨Nat.le_of_ble_eq_true rfl, Nat.le_of_ble_eq_true rfl⟩) ⟨in_blind, va_recv hK (pa_l (pa_r hPs)) (ci := 5) (q0 := 0) rfl rfl, k_pre hK (pa_l (pa_r hPs)) (da_l (da_r hDs)) hN⟩ rfl rfl hl.1 rfl (lv_room (Nat.le_of_ble_eq_true rfl)) dX5_prints_2 ⟨Nat.le_of_ble_eq_true rfl, Nat.le_of_ble_eq_true rfl⟩) hPs hDs hS hA (fun r1 u2 H locs hw3 hP hD hS => ?_)
  have hP := k_unP hP
  have hD := k_unD hD
  have hP : va_P D vwCl (MO cI h0 a sv pa pn sn kp pd ln so po wr lt fr sc tm hd st) H := hP
  have hD : va_D A (MO cI h0 a sv pa pn sn kp pd ln so po wr lt fr sc tm hd st) := hD
  have hw3 : r1 = (sh_X5_reason sv x1) := hw3
  subst hw3
  refine lv_istore_n (lv' := [(3, .int (sh_X5_reason sv x1)), (0, .ref h0), (1, .int x1), (2, .int x2)]) hx hb dX5_prints_5 rfl hl (by decide) rfl (fun ls hl => ?_)
  refine lv_iload_n hx hb dX5_prints_6 rfl (lv_at hl 0 rfl) ?_
  refine lv_if_le (tgt := 25) hx hb dX5_prints_7 (by decide) (fun c4 => ?_) (fun c4 => ?_)
  · have hq := it_pos hq c4
    refine lv_aload_n hx hb dX5_prints_25 rfl (lv_at hl 1 rfl) ?_
    refine va_get (D := D) (ci := 5) (v := .ref (a 0)) (C := RX5) (T := TX5) (N := 16) hx hb hts inA5 hown hK hP 0 rfl rfl 0 (by decide) (hts _ wd_fl_RX5_7) (fun _ h9 => h9) rfl dX5_prints_26 ?_
    refine lv_bipush (v := 16) hx hb dX5_prints_29 (by decide) ?_
    refine lv_iload_n hx hb dX5_prints_31 rfl (lv_at hl 2 rfl) ?_
    refine lv_iadd hx hb dX5_prints_32 ?_
    refine va_iald hx hb hK hP 1 0 rfl rfl (vp_add hi_x1 (by decide) (by decide) (by decide)) dX5_prints_33 ?_
    refine lv_istore (lv' := [(4, .int (sv (16 + x1).toNatClampNeg)), (3, .int (sh_X5_reason sv x1)), (0, .ref h0), (1, .int x1), (2, .int x2)]) hx hb dX5_prints_34 hl (by decide) rfl (fun ls hl => ?_)
    refine lv_aload_n hx hb dX5_prints_36 rfl (lv_at hl 2 rfl) ?_
    refine lv_iload hx hb dX5_prints_37 (lv_at hl 0 rfl) ?_
    refine lv_iload_n hx hb dX5_prints_39 rfl (lv_at hl 4 rfl) ?_
    refine lv_aload_n hx hb dX5_prints_40 rfl (lv_at hl 2 rfl) ?_
    refine va_get (D := D) (ci := 5) (v := .ref (a 0)) (C := RX5) (T := TX5) (N := 16) hx hb hts inA5 hown hK hP 0 rfl rfl 0 (by decide) (hts _ wd_fl_RX5_7) (fun _ h9 => h9) rfl dX5_prints_41 ?_
    refine lv_bipush (v := 31) hx hb dX5_prints_44 (by decide) ?_
    refine va_iald hx hb hK hP 1 0 rfl rfl (k_in (by decide)) dX5_prints_46 ?_
    have hPs := k_self hP
    have hDs := k_selfD hD
    refine k_behi (X := []) (Y := []) (va_runV (As := [.int (sv (16 + x1).toNatClampNeg), .int x2, .int (sv (31 : Int32).toNatClampNeg)]) (rest := []) ⟨hx, hb, hml, hown, hts⟩ (c_X5_need l D cI cC cQ H.size h0 a sv pa pn sn kp pd ln so po wr lt fr sc tm hd st (sv (16 + x1).toNatClampNeg) x2 (sv (31 : Int32).toNatClampNeg) ((reasonIn hiv hi_x1 c4))) (kcwV hts wd_ml_RX5_33 wd_im_yX5_need wd_sel_yX5_need wd_ini_RX5 wd_code_yX5_need rfl rfl rfl hd_X5_need ⟨Nat.le_of_ble_eq_true rfl, Nat.le_of_ble_eq_true rfl⟩) ⟨in_blind, va_recv hK (pa_l (pa_r hPs)) (ci := 5) (q0 := 0) rfl rfl, k_pre hK (pa_l (pa_r hPs)) (da_l (da_r hDs)) hN⟩ rfl rfl hl.1 rfl (lv_room (Nat.le_of_ble_eq_true rfl)) dX5_prints_47 ⟨Nat.le_of_ble_eq_true rfl, Nat.le_of_ble_eq_true rfl⟩) hPs hDs hS hA (fun r5 u6 H locs hw7 hP hD hS => ?_)
    have hP := k_unP hP
    have hD := k_unD hD
    have hP : va_P D vwCl (MO cI h0 a sv pa pn sn kp pd ln so po wr lt fr sc tm hd st) H := hP
    have hD : va_D A (MO cI h0 a sv pa pn sn kp pd ln so po wr lt fr sc tm hd st) := hD
    have hw7 : r5 = (sh_X5_need sv (sv (16 + x1).toNatClampNeg) x2 (sv (31 : Int32).toNatClampNeg)) := hw7
    subst hw7
    refine lv_istore (lv' := [(5, .int (sh_X5_need sv (sv (16 + x1).toNatClampNeg) x2 (sv (31 : Int32).toNatClampNeg))), (4, .int (sv (16 + x1).toNatClampNeg)), (3, .int (sh_X5_reason sv x1)), (0, .ref h0), (1, .int x1), (2, .int x2)]) hx hb dX5_prints_50 hl (by decide) rfl (fun ls hl => ?_)
    refine lv_aload_n hx hb dX5_prints_52 rfl (lv_at hl 3 rfl) ?_
    refine va_get (D := D) (ci := 5) (v := .ref (a 0)) (C := RX5) (T := TX5) (N := 16) hx hb hts inA5 hown hK hP 0 rfl rfl 0 (by decide) (hts _ wd_fl_RX5_7) (fun _ h9 => h9) rfl dX5_prints_53 ?_
    refine lv_iconst (v := 4) hx hb dX5_prints_56 (by decide) ?_
    refine lv_iload hx hb dX5_prints_57 (lv_at hl 1 rfl) ?_
    refine lv_iadd hx hb dX5_prints_59 ?_
    refine va_iald hx hb hK hP 1 0 rfl rfl (vp_add (reasonIn hiv hi_x1 c4) (by decide) (by decide) (by decide)) dX5_prints_60 ?_
    refine lv_iload hx hb dX5_prints_61 (lv_at hl 0 rfl) ?_
    have K : ∀ (v10 : Int32) (H : Heap) (locs : List Loc) (ls : Array Slot), v10 = (if (sh_X5_need sv (sv (16 + x1).toNatClampNeg) x2 (sv (31 : Int32).toNatClampNeg)) ≤ (sv (4 + (sv (16 + x1).toNatClampNeg)).toNatClampNeg) then (sh_X5_need sv (sv (16 + x1).toNatClampNeg) x2 (sv (31 : Int32).toNatClampNeg)) else (sv (4 + (sv (16 + x1).toNatClampNeg)).toNatClampNeg)) → va_P D vwCl (MO cI h0 a sv pa pn sn kp pd ln so po wr lt fr sc tm hd st) H → va_D A (MO cI h0 a sv pa pn sn kp pd ln so po wr lt fr sc tm hd st) → va_S A s.heap H locs → lv_has ls 10 [(0, .ref h0), (1, .int x1), (2, .int x2), (3, .int (sh_X5_reason sv x1)), (4, .int (sv (16 + x1).toNatClampNeg)), (5, .int (sh_X5_need sv (sv (16 + x1).toNatClampNeg) x2 (sv (31 : Int32).toNatClampNeg)))] → W p l e rm_X5_prints s m args below meth c H locs 0 0 Q (F0 m 80 ls [.int v10]) := by
      intro v10 H locs ls hv9 hP hD hS hl
      have hq := kb_to hq hv9
      refine lv_istore (lv' := [(6, .int v10), (0, .ref h0), (1, .int x1), (2, .int x2), (3, .int (sh_X5_reason sv x1)), (4, .int (sv (16 + x1).toNatClampNeg)), (5, .int (sh_X5_need sv (sv (16 + x1).toNatClampNeg) x2 (sv (31 : Int32).toNatClampNeg)))]) hx hb dX5_prints_80 hl (by decide) rfl (fun ls hl => ?_)
      refine lv_iload hx hb dX5_prints_82 (lv_at hl 0 rfl) ?_
      refine lv_iload hx hb dX5_prints_84 (lv_at hl 6 rfl) ?_
      have K : ∀ (v13 : Int32) (H : Heap) (locs : List Loc) (ls : Array Slot), v13 = (if v10 = (sh_X5_need sv (sv (16 + x1).toNatClampNeg) x2 (sv (31 : Int32).toNatClampNeg)) then 100 else ((v10 * 100) / (sh_X5_need sv (sv (16 + x1).toNatClampNeg) x2 (sv (31 : Int32).toNatClampNeg)))) → va_P D vwCl (MO cI h0 a sv pa pn sn kp pd ln so po wr lt fr sc tm hd st) H → va_D A (MO cI h0 a sv pa pn sn kp pd ln so po wr lt fr sc tm hd st) → va_S A s.heap H locs → lv_has ls 10 [(0, .ref h0), (1, .int x1), (2, .int x2), (3, .int (sh_X5_reason sv x1)), (4, .int (sv (16 + x1).toNatClampNeg)), (5, .int (sh_X5_need sv (sv (16 + x1).toNatClampNeg) x2 (sv (31 : Int32).toNatClampNeg))), (6, .int v10)] → W p l e rm_X5_prints s m args below meth c H locs 0 0 Q (F0 m 102 ls [.int v13]) := by
        intro v13 H locs ls hv12 hP hD hS hl
        have hq := kb_to hq hv12
        refine lv_istore (lv' := [(7, .int v13), (0, .ref h0), (1, .int x1), (2, .int x2), (3, .int (sh_X5_reason sv x1)), (4, .int (sv (16 + x1).toNatClampNeg)), (5, .int (sh_X5_need sv (sv (16 + x1).toNatClampNeg) x2 (sv (31 : Int32).toNatClampNeg))), (6, .int v10)]) hx hb dX5_prints_102 hl (by decide) rfl (fun ls hl => ?_)
        refine lv_aload_n hx hb dX5_prints_104 rfl (lv_at hl 1 rfl) ?_
        refine lv_iload hx hb dX5_prints_105 (lv_at hl 5 rfl) ?_
        refine lv_iload_n hx hb dX5_prints_107 rfl (lv_at hl 3 rfl) ?_
        have hPs := k_self hP
        have hDs := k_selfD hD
        refine k_behi (X := []) (Y := []) (va_runV (As := [.int (sv (16 + x1).toNatClampNeg), .int x2]) (rest := []) ⟨hx, hb, hml, hown, hts⟩ (c_X5_counted l D cI cC cQ H.size h0 a sv pa pn sn kp pd ln so po wr lt fr sc tm hd st (sv (16 + x1).toNatClampNeg) x2 ((reasonIn hiv hi_x1 c4))) (kcwV hts wd_ml_RX5_44 wd_im_yX5_counted wd_sel_yX5_counted wd_ini_RX5 wd_code_yX5_counted rfl rfl rfl hd_X5_counted ⟨Nat.le_of_ble_eq_true rfl, Nat.le_of_ble_eq_true rfl⟩) ⟨in_blind, va_recv hK (pa_l (pa_r hPs)) (ci := 5) (q0 := 0) rfl rfl, k_pre hK (pa_l (pa_r hPs)) (da_l (da_r hDs)) hN⟩ rfl rfl hl.1 rfl (lv_room (Nat.le_of_ble_eq_true rfl)) dX5_prints_108 ⟨Nat.le_of_ble_eq_true rfl, Nat.le_of_ble_eq_true rfl⟩) hPs hDs hS hA (fun r14 u15 H locs hw16 hP hD hS => ?_)
        have hP := k_unP hP
        have hD := k_unD hD
        have hP : va_P D vwCl (MO cI h0 a sv pa pn sn kp pd ln so po wr lt fr sc tm hd st) H := hP
        have hD : va_D A (MO cI h0 a sv pa pn sn kp pd ln so po wr lt fr sc tm hd st) := hD
        have hw16 : r14 = (sh_X5_counted sv (sv (16 + x1).toNatClampNeg) x2) := hw16
        subst hw16
        refine lv_istore (lv' := [(8, .int (sh_X5_counted sv (sv (16 + x1).toNatClampNeg) x2)), (7, .int v13), (0, .ref h0), (1, .int x1), (2, .int x2), (3, .int (sh_X5_reason sv x1)), (4, .int (sv (16 + x1).toNatClampNeg)), (5, .int (sh_X5_need sv (sv (16 + x1).toNatClampNeg) x2 (sv (31 : Int32).toNatClampNeg))), (6, .int v10)]) hx hb dX5_prints_111 hl (by decide) rfl (fun ls hl => ?_)
        refine lv_aload_n hx hb dX5_prints_113 rfl (lv_at hl 2 rfl) ?_
        refine va_get (D := D) (ci := 5) (v := .ref (a 0)) (C := RX5) (T := TX5) (N := 16) hx hb hts inA5 hown hK hP 0 rfl rfl 0 (by decide) (hts _ wd_fl_RX5_7) (fun _ h9 => h9) rfl dX5_prints_114 ?_
        refine lv_iconst (v := 4) hx hb dX5_prints_117 (by decide) ?_
        refine lv_iload hx hb dX5_prints_118 (lv_at hl 6 rfl) ?_
        refine lv_iadd hx hb dX5_prints_120 ?_
        refine lv_dup2_11 hx hb dX5_prints_121 rfl rfl ?_
        refine va_iald hx hb hK hP 1 0 rfl rfl (vp_add (reasonIn hiv hi_x1 c4) (by decide) (by decide) (by decide)) dX5_prints_122 ?_
        refine lv_iload hx hb dX5_prints_123 (lv_at hl 8 rfl) ?_
        refine lv_isub hx hb dX5_prints_125 ?_
        refine va_iast hx hb hK hP hD hS 1 0 rfl rfl (vp_add (reasonIn hiv hi_x1 c4) (by decide) (by decide) (by decide)) dX5_prints_126 (fun H locs hP hD hS => ?_)
        have hP : va_P D vwCl (MO cI h0 a (upd sv (4 + (sv (16 + x1).toNatClampNeg)).toNatClampNeg ((sv (4 + (sv (16 + x1).toNatClampNeg)).toNatClampNeg) - v10)) pa pn sn kp pd ln so po wr lt fr sc tm hd st) H := hP
        have hD : va_D A (MO cI h0 a (upd sv (4 + (sv (16 + x1).toNatClampNeg)).toNatClampNeg ((sv (4 + (sv (16 + x1).toNatClampNeg)).toNatClampNeg) - v10)) pa pn sn kp pd ln so po wr lt fr sc tm hd st) := hD
        obtain ⟨f17, hf18⟩ : ∃ z : Nat → Int32, z = (upd sv (4 + (sv (16 + x1).toNatClampNeg)).toNatClampNeg ((sv (4 + (sv (16 + x1).toNatClampNeg)).toNatClampNeg) - v10)) := ⟨_, rfl⟩
        have hP : va_P D vwCl (MO cI h0 a f17 pa pn sn kp pd ln so po wr lt fr sc tm hd st) H := by rw [hf18]; exact hP
        have hD : va_D A (MO cI h0 a f17 pa pn sn kp pd ln so po wr lt fr sc tm hd st) := by rw [hf18]; exact hD
        have hq := kb_to hq hf18
        refine lv_aload_n hx hb dX5_prints_127 rfl (lv_at hl 2 rfl) ?_
        refine va_get (D := D) (ci := 5) (v := .ref (a 0)) (C := RX5) (T := TX5) (N := 16) hx hb hts inA5 hown hK hP 0 rfl rfl 0 (by decide) (hts _ wd_fl_RX5_7) (fun _ h9 => h9) rfl dX5_prints_128 ?_
        refine lv_bipush (v := 28) hx hb dX5_prints_131 (by decide) ?_
        refine lv_dup2_11 hx hb dX5_prints_133 rfl rfl ?_
        refine va_iald hx hb hK hP 1 0 rfl rfl (k_in (by decide)) dX5_prints_134 ?_
        refine lv_iload hx hb dX5_prints_135 (lv_at hl 8 rfl) ?_
        refine lv_iadd hx hb dX5_prints_137 ?_
        refine va_iast hx hb hK hP hD hS 1 0 rfl rfl (k_in (by decide)) dX5_prints_138 (fun H locs hP hD hS => ?_)
        have hP : va_P D vwCl (MO cI h0 a (upd f17 (28 : Int32).toNatClampNeg ((f17 (28 : Int32).toNatClampNeg) + v10)) pa pn sn kp pd ln so po wr lt fr sc tm hd st) H := hP
        have hD : va_D A (MO cI h0 a (upd f17 (28 : Int32).toNatClampNeg ((f17 (28 : Int32).toNatClampNeg) + v10)) pa pn sn kp pd ln so po wr lt fr sc tm hd st) := hD
        obtain ⟨f19, hf20⟩ : ∃ z : Nat → Int32, z = (upd f17 (28 : Int32).toNatClampNeg ((f17 (28 : Int32).toNatClampNeg) + v10)) := ⟨_, rfl⟩
        have hP : va_P D vwCl (MO cI h0 a f19 pa pn sn kp pd ln so po wr lt fr sc tm hd st) H := by rw [hf20]; exact hP
        have hD : va_D A (MO cI h0 a f19 pa pn sn kp pd ln so po wr lt fr sc tm hd st) := by rw [hf20]; exact hD
        have hq := kb_to hq hf20
        refine lv_aload_n hx hb dX5_prints_139 rfl (lv_at hl 2 rfl) ?_
        refine va_get (D := D) (ci := 5) (v := .ref (a 0)) (C := RX5) (T := TX5) (N := 16) hx hb hts inA5 hown hK hP 0 rfl rfl 0 (by decide) (hts _ wd_fl_RX5_7) (fun _ h9 => h9) rfl dX5_prints_140 ?_
        refine lv_bipush (v := 12) hx hb dX5_prints_143 (by decide) ?_
        refine lv_iload hx hb dX5_prints_145 (lv_at hl 6 rfl) ?_
        refine lv_iadd hx hb dX5_prints_147 ?_
        refine lv_aload_n hx hb dX5_prints_148 rfl (lv_at hl 2 rfl) ?_
        refine va_get (D := D) (ci := 5) (v := .ref (a 0)) (C := RX5) (T := TX5) (N := 16) hx hb hts inA5 hown hK hP 0 rfl rfl 0 (by decide) (hts _ wd_fl_RX5_7) (fun _ h9 => h9) rfl dX5_prints_149 ?_
        refine lv_bipush (v := 12) hx hb dX5_prints_152 (by decide) ?_
        refine lv_iload hx hb dX5_prints_154 (lv_at hl 6 rfl) ?_
        refine lv_iadd hx hb dX5_prints_156 ?_
        refine va_iald hx hb hK hP 1 0 rfl rfl (vp_add (reasonIn hiv hi_x1 c4) (by decide) (by decide) (by decide)) dX5_prints_157 ?_
        refine lv_iload hx hb dX5_prints_158 (lv_at hl 0 rfl) ?_
        have K : ∀ (v23 : Int32) (H : Heap) (locs : List Loc) (ls : Array Slot), v23 = (if (f19 (12 + (sv (16 + x1).toNatClampNeg)).toNatClampNeg) ≤ (sh_X5_counted sv (sv (16 + x1).toNatClampNeg) x2) then 0 else ((f19 (12 + (sv (16 + x1).toNatClampNeg)).toNatClampNeg) - (sh_X5_counted sv (sv (16 + x1).toNatClampNeg) x2))) → va_P D vwCl (MO cI h0 a f19 pa pn sn kp pd ln so po wr lt fr sc tm hd st) H → va_D A (MO cI h0 a f19 pa pn sn kp pd ln so po wr lt fr sc tm hd st) → va_S A s.heap H locs → lv_has ls 10 [(0, .ref h0), (1, .int x1), (2, .int x2), (3, .int (sh_X5_reason sv x1)), (4, .int (sv (16 + x1).toNatClampNeg)), (5, .int (sh_X5_need sv (sv (16 + x1).toNatClampNeg) x2 (sv (31 : Int32).toNatClampNeg))), (6, .int v10), (7, .int v13), (8, .int (sh_X5_counted sv (sv (16 + x1).toNatClampNeg) x2))] → W p l e rm_X5_prints s m args below meth c H locs 0 0 Q (F0 m 180 ls [.int v23, .int (12 + (sv (16 + x1).toNatClampNeg)), .ref (a 0)]) := by
          intro v23 H locs ls hv22 hP hD hS hl
          have hq := kb_to hq hv22
          refine va_iast hx hb hK hP hD hS 1 0 rfl rfl (vp_add (reasonIn hiv hi_x1 c4) (by decide) (by decide) (by decide)) dX5_prints_180 (fun H locs hP hD hS => ?_)
          have hP : va_P D vwCl (MO cI h0 a (upd f19 (12 + (sv (16 + x1).toNatClampNeg)).toNatClampNeg v23) pa pn sn kp pd ln so po wr lt fr sc tm hd st) H := hP
          have hD : va_D A (MO cI h0 a (upd f19 (12 + (sv (16 + x1).toNatClampNeg)).toNatClampNeg v23) pa pn sn kp pd ln so po wr lt fr sc tm hd st) := hD
          obtain ⟨f24, hf25⟩ : ∃ z : Nat → Int32, z = (upd f19 (12 + (sv (16 + x1).toNatClampNeg)).toNatClampNeg v23) := ⟨_, rfl⟩
          have hP : va_P D vwCl (MO cI h0 a f24 pa pn sn kp pd ln so po wr lt fr sc tm hd st) H := by rw [hf25]; exact hP
          have hD : va_D A (MO cI h0 a f24 pa pn sn kp pd ln so po wr lt fr sc tm hd st) := by rw [hf25]; exact hD
          have hq := kb_to hq hf25
          refine lv_aload_n hx hb dX5_prints_181 rfl (lv_at hl 0 rfl) ?_
          refine va_get (D := D) (ci := 5) (v := .ref (a 0)) (C := RX5) (T := TX5) (N := 16) hx hb hts inA5 hown hK hP 0 rfl rfl 0 (by decide) (hts _ wd_fl_RX5_7) (fun _ h9 => h9) rfl dX5_prints_182 ?_
          refine lv_iconst (v := 4) hx hb dX5_prints_185 (by decide) ?_
          refine lv_iload hx hb dX5_prints_186 (lv_at hl 4 rfl) ?_
          refine lv_iadd hx hb dX5_prints_188 ?_
          refine va_iald hx hb hK hP 1 0 rfl rfl (vp_add (reasonIn hiv hi_x1 c4) (by decide) (by decide) (by decide)) dX5_prints_189 ?_
          refine lv_aload_n hx hb dX5_prints_190 rfl (lv_at hl 0 rfl) ?_
          refine va_get (D := D) (ci := 5) (v := .ref (a 0)) (C := RX5) (T := TX5) (N := 16) hx hb hts inA5 hown hK hP 0 rfl rfl 0 (by decide) (hts _ wd_fl_RX5_7) (fun _ h9 => h9) rfl dX5_prints_191 ?_
          refine lv_bipush (v := 32) hx hb dX5_prints_194 (by decide) ?_
          refine va_iald hx hb hK hP 1 0 rfl rfl (k_in (by decide)) dX5_prints_196 ?_
          refine lv_idiv hx hb dX5_prints_197 (by rw [hf25]; exact k_un0 (k_ixn (k := 12) (j := 32) (reasonIn hiv hi_x1 c4) (by decide) (by decide) (by decide)) (by rw [hf20]; exact k_un0 (by decide) (by rw [hf18]; exact k_un0 (k_ixn (k := 4) (j := 32) (reasonIn hiv hi_x1 c4) (by decide) (by decide) (by decide)) (iv_32 hiv)))) ?_
          refine lv_istore (lv' := [(9, .int ((f24 (4 + (sv (16 + x1).toNatClampNeg)).toNatClampNeg) / (f24 (32 : Int32).toNatClampNeg))), (0, .ref h0), (1, .int x1), (2, .int x2), (3, .int (sh_X5_reason sv x1)), (4, .int (sv (16 + x1).toNatClampNeg)), (5, .int (sh_X5_need sv (sv (16 + x1).toNatClampNeg) x2 (sv (31 : Int32).toNatClampNeg))), (6, .int v10), (7, .int v13), (8, .int (sh_X5_counted sv (sv (16 + x1).toNatClampNeg) x2))]) hx hb dX5_prints_198 hl (by decide) rfl (fun ls hl => ?_)
          refine lv_aload_n hx hb dX5_prints_200 rfl (lv_at hl 1 rfl) ?_
          refine va_get (D := D) (ci := 5) (v := .ref (a 0)) (C := RX5) (T := TX5) (N := 16) hx hb hts inA5 hown hK hP 0 rfl rfl 0 (by decide) (hts _ wd_fl_RX5_7) (fun _ h9 => h9) rfl dX5_prints_201 ?_
          refine lv_iconst (v := 4) hx hb dX5_prints_204 (by decide) ?_
          refine lv_iload hx hb dX5_prints_205 (lv_at hl 5 rfl) ?_
          refine lv_iadd hx hb dX5_prints_207 ?_
          refine lv_dup2_11 hx hb dX5_prints_208 rfl rfl ?_
          refine va_iald hx hb hK hP 1 0 rfl rfl (vp_add (reasonIn hiv hi_x1 c4) (by decide) (by decide) (by decide)) dX5_prints_209 ?_
          refine lv_iload hx hb dX5_prints_210 (lv_at hl 0 rfl) ?_
          refine lv_isub hx hb dX5_prints_212 ?_
          refine va_iast hx hb hK hP hD hS 1 0 rfl rfl (vp_add (reasonIn hiv hi_x1 c4) (by decide) (by decide) (by decide)) dX5_prints_213 (fun H locs hP hD hS => ?_)
          have hP : va_P D vwCl (MO cI h0 a (upd f24 (4 + (sv (16 + x1).toNatClampNeg)).toNatClampNeg ((f24 (4 + (sv (16 + x1).toNatClampNeg)).toNatClampNeg) - ((f24 (4 + (sv (16 + x1).toNatClampNeg)).toNatClampNeg) / (f24 (32 : Int32).toNatClampNeg)))) pa pn sn kp pd ln so po wr lt fr sc tm hd st) H := hP
          have hD : va_D A (MO cI h0 a (upd f24 (4 + (sv (16 + x1).toNatClampNeg)).toNatClampNeg ((f24 (4 + (sv (16 + x1).toNatClampNeg)).toNatClampNeg) - ((f24 (4 + (sv (16 + x1).toNatClampNeg)).toNatClampNeg) / (f24 (32 : Int32).toNatClampNeg)))) pa pn sn kp pd ln so po wr lt fr sc tm hd st) := hD
          obtain ⟨f26, hf27⟩ : ∃ z : Nat → Int32, z = (upd f24 (4 + (sv (16 + x1).toNatClampNeg)).toNatClampNeg ((f24 (4 + (sv (16 + x1).toNatClampNeg)).toNatClampNeg) - ((f24 (4 + (sv (16 + x1).toNatClampNeg)).toNatClampNeg) / (f24 (32 : Int32).toNatClampNeg)))) := ⟨_, rfl⟩
          have hP : va_P D vwCl (MO cI h0 a f26 pa pn sn kp pd ln so po wr lt fr sc tm hd st) H := by rw [hf27]; exact hP
          have hD : va_D A (MO cI h0 a f26 pa pn sn kp pd ln so po wr lt fr sc tm hd st) := by rw [hf27]; exact hD
          have hq := kb_to hq hf27
          refine lv_aload_n hx hb dX5_prints_214 rfl (lv_at hl 1 rfl) ?_
          refine va_get (D := D) (ci := 5) (v := .ref (a 0)) (C := RX5) (T := TX5) (N := 16) hx hb hts inA5 hown hK hP 0 rfl rfl 0 (by decide) (hts _ wd_fl_RX5_7) (fun _ h9 => h9) rfl dX5_prints_215 ?_
          refine lv_bipush (v := 8) hx hb dX5_prints_218 (by decide) ?_
          refine lv_iload hx hb dX5_prints_220 (lv_at hl 5 rfl) ?_
          refine lv_iadd hx hb dX5_prints_222 ?_
          refine lv_dup2_11 hx hb dX5_prints_223 rfl rfl ?_
          refine va_iald hx hb hK hP 1 0 rfl rfl (vp_add (reasonIn hiv hi_x1 c4) (by decide) (by decide) (by decide)) dX5_prints_224 ?_
          refine lv_iload hx hb dX5_prints_225 (lv_at hl 0 rfl) ?_
          refine lv_iadd hx hb dX5_prints_227 ?_
          refine va_iast hx hb hK hP hD hS 1 0 rfl rfl (vp_add (reasonIn hiv hi_x1 c4) (by decide) (by decide) (by decide)) dX5_prints_228 (fun H locs hP hD hS => ?_)
          have hP : va_P D vwCl (MO cI h0 a (upd f26 (8 + (sv (16 + x1).toNatClampNeg)).toNatClampNeg ((f26 (8 + (sv (16 + x1).toNatClampNeg)).toNatClampNeg) + ((f24 (4 + (sv (16 + x1).toNatClampNeg)).toNatClampNeg) / (f24 (32 : Int32).toNatClampNeg)))) pa pn sn kp pd ln so po wr lt fr sc tm hd st) H := hP
          have hD : va_D A (MO cI h0 a (upd f26 (8 + (sv (16 + x1).toNatClampNeg)).toNatClampNeg ((f26 (8 + (sv (16 + x1).toNatClampNeg)).toNatClampNeg) + ((f24 (4 + (sv (16 + x1).toNatClampNeg)).toNatClampNeg) / (f24 (32 : Int32).toNatClampNeg)))) pa pn sn kp pd ln so po wr lt fr sc tm hd st) := hD
          obtain ⟨f28, hf29⟩ : ∃ z : Nat → Int32, z = (upd f26 (8 + (sv (16 + x1).toNatClampNeg)).toNatClampNeg ((f26 (8 + (sv (16 + x1).toNatClampNeg)).toNatClampNeg) + ((f24 (4 + (sv (16 + x1).toNatClampNeg)).toNatClampNeg) / (f24 (32 : Int32).toNatClampNeg)))) := ⟨_, rfl⟩
          have hP : va_P D vwCl (MO cI h0 a f28 pa pn sn kp pd ln so po wr lt fr sc tm hd st) H := by rw [hf29]; exact hP
          have hD : va_D A (MO cI h0 a f28 pa pn sn kp pd ln so po wr lt fr sc tm hd st) := by rw [hf29]; exact hD
          have hq := kb_to hq hf29
          refine lv_aload_n hx hb dX5_prints_229 rfl (lv_at hl 1 rfl) ?_
          refine va_get (D := D) (ci := 5) (v := .ref (a 0)) (C := RX5) (T := TX5) (N := 16) hx hb hts inA5 hown hK hP 0 rfl rfl 0 (by decide) (hts _ wd_fl_RX5_7) (fun _ h9 => h9) rfl dX5_prints_230 ?_
          refine lv_bipush (v := 18) hx hb dX5_prints_233 (by decide) ?_
          refine lv_iload_n hx hb dX5_prints_235 rfl (lv_at hl 2 rfl) ?_
          refine lv_iadd hx hb dX5_prints_236 ?_
          refine lv_dup2_11 hx hb dX5_prints_237 rfl rfl ?_
          refine va_iald hx hb hK hP 1 0 rfl rfl (vp_add hi_x1 (by decide) (by decide) (by decide)) dX5_prints_238 ?_
          refine lv_iload hx hb dX5_prints_239 (lv_at hl 7 rfl) ?_
          refine lv_iload hx hb dX5_prints_241 (lv_at hl 6 rfl) ?_
          have K : ∀ (v32 : Int32) (H : Heap) (locs : List Loc) (ls : Array Slot), v32 = (if v10 = (sh_X5_need sv (sv (16 + x1).toNatClampNeg) x2 (sv (31 : Int32).toNatClampNeg)) then 1 else 0) → va_P D vwCl (MO cI h0 a f28 pa pn sn kp pd ln so po wr lt fr sc tm hd st) H → va_D A (MO cI h0 a f28 pa pn sn kp pd ln so po wr lt fr sc tm hd st) → va_S A s.heap H locs → lv_has ls 10 [(0, .ref h0), (1, .int x1), (2, .int x2), (3, .int (sh_X5_reason sv x1)), (4, .int (sv (16 + x1).toNatClampNeg)), (5, .int (sh_X5_need sv (sv (16 + x1).toNatClampNeg) x2 (sv (31 : Int32).toNatClampNeg))), (6, .int v10), (7, .int v13), (8, .int (sh_X5_counted sv (sv (16 + x1).toNatClampNeg) x2)), (9, .int ((f24 (4 + (sv (16 + x1).toNatClampNeg)).toNatClampNeg) / (f24 (32 : Int32).toNatClampNeg)))] → W p l e rm_X5_prints s m args below meth c H locs 0 0 Q (F0 m 251 ls [.int v32, .int (f28 (18 + x1).toNatClampNeg), .int (18 + x1), .ref (a 0)]) := by
            intro v32 H locs ls hv31 hP hD hS hl
            have hq := kb_to hq hv31
            refine lv_iadd hx hb dX5_prints_251 ?_
            refine va_iast hx hb hK hP hD hS 1 0 rfl rfl (vp_add hi_x1 (by decide) (by decide) (by decide)) dX5_prints_252 (fun H locs hP hD hS => ?_)
            have hP : va_P D vwCl (MO cI h0 a (upd f28 (18 + x1).toNatClampNeg ((f28 (18 + x1).toNatClampNeg) + v32)) pa pn sn kp pd ln so po wr lt fr sc tm hd st) H := hP
            have hD : va_D A (MO cI h0 a (upd f28 (18 + x1).toNatClampNeg ((f28 (18 + x1).toNatClampNeg) + v32)) pa pn sn kp pd ln so po wr lt fr sc tm hd st) := hD
            obtain ⟨f33, hf34⟩ : ∃ z : Nat → Int32, z = (upd f28 (18 + x1).toNatClampNeg ((f28 (18 + x1).toNatClampNeg) + v32)) := ⟨_, rfl⟩
            have hP : va_P D vwCl (MO cI h0 a f33 pa pn sn kp pd ln so po wr lt fr sc tm hd st) H := by rw [hf34]; exact hP
            have hD : va_D A (MO cI h0 a f33 pa pn sn kp pd ln so po wr lt fr sc tm hd st) := by rw [hf34]; exact hD
            have hq := kb_to hq hf34
            refine lv_aload_n hx hb dX5_prints_253 rfl (lv_at hl 0 rfl) ?_
            refine va_get (D := D) (ci := 5) (v := .ref (a 0)) (C := RX5) (T := TX5) (N := 16) hx hb hts inA5 hown hK hP 0 rfl rfl 0 (by decide) (hts _ wd_fl_RX5_7) (fun _ h9 => h9) rfl dX5_prints_254 ?_
            refine lv_bipush (v := 20) hx hb dX5_prints_257 (by decide) ?_
            refine lv_iload_n hx hb dX5_prints_259 rfl (lv_at hl 1 rfl) ?_
            refine lv_iadd hx hb dX5_prints_260 ?_
            refine lv_dup2_11 hx hb dX5_prints_261 rfl rfl ?_
            refine va_iald hx hb hK hP 1 0 rfl rfl (vp_add hi_x1 (by decide) (by decide) (by decide)) dX5_prints_262 ?_
            refine lv_iload hx hb dX5_prints_263 (lv_at hl 6 rfl) ?_
            refine lv_iload hx hb dX5_prints_265 (lv_at hl 5 rfl) ?_
            have K : ∀ (v37 : Int32) (H : Heap) (locs : List Loc) (ls : Array Slot), v37 = (if v10 = (sh_X5_need sv (sv (16 + x1).toNatClampNeg) x2 (sv (31 : Int32).toNatClampNeg)) then 0 else 1) → va_P D vwCl (MO cI h0 a f33 pa pn sn kp pd ln so po wr lt fr sc tm hd st) H → va_D A (MO cI h0 a f33 pa pn sn kp pd ln so po wr lt fr sc tm hd st) → va_S A s.heap H locs → lv_has ls 10 [(0, .ref h0), (1, .int x1), (2, .int x2), (3, .int (sh_X5_reason sv x1)), (4, .int (sv (16 + x1).toNatClampNeg)), (5, .int (sh_X5_need sv (sv (16 + x1).toNatClampNeg) x2 (sv (31 : Int32).toNatClampNeg))), (6, .int v10), (7, .int v13), (8, .int (sh_X5_counted sv (sv (16 + x1).toNatClampNeg) x2)), (9, .int ((f24 (4 + (sv (16 + x1).toNatClampNeg)).toNatClampNeg) / (f24 (32 : Int32).toNatClampNeg)))] → W p l e rm_X5_prints s m args below meth c H locs 0 0 Q (F0 m 275 ls [.int v37, .int (f33 (20 + x1).toNatClampNeg), .int (20 + x1), .ref (a 0)]) := by
              intro v37 H locs ls hv36 hP hD hS hl
              have hq := kb_to hq hv36
              refine lv_iadd hx hb dX5_prints_275 ?_
              refine va_iast hx hb hK hP hD hS 1 0 rfl rfl (vp_add hi_x1 (by decide) (by decide) (by decide)) dX5_prints_276 (fun H locs hP hD hS => ?_)
              have hP : va_P D vwCl (MO cI h0 a (upd f33 (20 + x1).toNatClampNeg ((f33 (20 + x1).toNatClampNeg) + v37)) pa pn sn kp pd ln so po wr lt fr sc tm hd st) H := hP
              have hD : va_D A (MO cI h0 a (upd f33 (20 + x1).toNatClampNeg ((f33 (20 + x1).toNatClampNeg) + v37)) pa pn sn kp pd ln so po wr lt fr sc tm hd st) := hD
              obtain ⟨f38, hf39⟩ : ∃ z : Nat → Int32, z = (upd f33 (20 + x1).toNatClampNeg ((f33 (20 + x1).toNatClampNeg) + v37)) := ⟨_, rfl⟩
              have hP : va_P D vwCl (MO cI h0 a f38 pa pn sn kp pd ln so po wr lt fr sc tm hd st) H := by rw [hf39]; exact hP
              have hD : va_D A (MO cI h0 a f38 pa pn sn kp pd ln so po wr lt fr sc tm hd st) := by rw [hf39]; exact hD
              have hq := kb_to hq hf39
              refine lv_aload_n hx hb dX5_prints_277 rfl (lv_at hl 0 rfl) ?_
              refine va_get (D := D) (ci := 5) (v := .ref (a 0)) (C := RX5) (T := TX5) (N := 16) hx hb hts inA5 hown hK hP 0 rfl rfl 0 (by decide) (hts _ wd_fl_RX5_7) (fun _ h9 => h9) rfl dX5_prints_278 ?_
              refine lv_bipush (v := 24) hx hb dX5_prints_281 (by decide) ?_
              refine lv_iload_n hx hb dX5_prints_283 rfl (lv_at hl 1 rfl) ?_
              refine lv_iadd hx hb dX5_prints_284 ?_
              refine lv_dup2_11 hx hb dX5_prints_285 rfl rfl ?_
              refine va_iald hx hb hK hP 1 0 rfl rfl (vp_add hi_x1 (by decide) (by decide) (by decide)) dX5_prints_286 ?_
              refine lv_iload_n hx hb dX5_prints_287 rfl (lv_at hl 2 rfl) ?_
              refine lv_iadd hx hb dX5_prints_288 ?_
              refine va_iast hx hb hK hP hD hS 1 0 rfl rfl (vp_add hi_x1 (by decide) (by decide) (by decide)) dX5_prints_289 (fun H locs hP hD hS => ?_)
              have hP : va_P D vwCl (MO cI h0 a (upd f38 (24 + x1).toNatClampNeg ((f38 (24 + x1).toNatClampNeg) + x2)) pa pn sn kp pd ln so po wr lt fr sc tm hd st) H := hP
              have hD : va_D A (MO cI h0 a (upd f38 (24 + x1).toNatClampNeg ((f38 (24 + x1).toNatClampNeg) + x2)) pa pn sn kp pd ln so po wr lt fr sc tm hd st) := hD
              obtain ⟨f40, hf41⟩ : ∃ z : Nat → Int32, z = (upd f38 (24 + x1).toNatClampNeg ((f38 (24 + x1).toNatClampNeg) + x2)) := ⟨_, rfl⟩
              have hP : va_P D vwCl (MO cI h0 a f40 pa pn sn kp pd ln so po wr lt fr sc tm hd st) H := by rw [hf41]; exact hP
              have hD : va_D A (MO cI h0 a f40 pa pn sn kp pd ln so po wr lt fr sc tm hd st) := by rw [hf41]; exact hD
              have hq := kb_to hq hf41
              refine lv_aload_n hx hb dX5_prints_290 rfl (lv_at hl 0 rfl) ?_
              refine va_get (D := D) (ci := 5) (v := .ref (a 0)) (C := RX5) (T := TX5) (N := 16) hx hb hts inA5 hown hK hP 0 rfl rfl 0 (by decide) (hts _ wd_fl_RX5_7) (fun _ h9 => h9) rfl dX5_prints_291 ?_
              refine lv_bipush (v := 26) hx hb dX5_prints_294 (by decide) ?_
              refine lv_iload_n hx hb dX5_prints_296 rfl (lv_at hl 1 rfl) ?_
              refine lv_iadd hx hb dX5_prints_297 ?_
              refine lv_iload hx hb dX5_prints_298 (lv_at hl 7 rfl) ?_
              refine va_iast hx hb hK hP hD hS 1 0 rfl rfl (vp_add hi_x1 (by decide) (by decide) (by decide)) dX5_prints_300 (fun H locs hP hD hS => ?_)
              have hP : va_P D vwCl (MO cI h0 a (upd f40 (26 + x1).toNatClampNeg v13) pa pn sn kp pd ln so po wr lt fr sc tm hd st) H := hP
              have hD : va_D A (MO cI h0 a (upd f40 (26 + x1).toNatClampNeg v13) pa pn sn kp pd ln so po wr lt fr sc tm hd st) := hD
              obtain ⟨f42, hf43⟩ : ∃ z : Nat → Int32, z = (upd f40 (26 + x1).toNatClampNeg v13) := ⟨_, rfl⟩
              have hP : va_P D vwCl (MO cI h0 a f42 pa pn sn kp pd ln so po wr lt fr sc tm hd st) H := by rw [hf43]; exact hP
              have hD : va_D A (MO cI h0 a f42 pa pn sn kp pd ln so po wr lt fr sc tm hd st) := by rw [hf43]; exact hD
              have hq := kb_to hq hf43
              refine lv_bipush (v := 10) hx hb dX5_prints_301 (by decide) ?_
              refine lv_iload hx hb dX5_prints_303 (lv_at hl 7 rfl) ?_
              refine lv_iadd hx hb dX5_prints_305 ?_
              exact hret _ _ _ _ ((10 + v13)) f42 dX5_prints_306 rfl (hq.symm.trans hX) hP hD hS
            refine lv_icmp_ne (tgt := 274) hx hb dX5_prints_267 (by decide) (fun c35 => ?_) (fun c35 => ?_)
            · skip
              refine lv_iconst (v := 1) hx hb dX5_prints_274 (by decide) ?_
              exact K (1) _ _ _ (by rw [if_neg c35]) hP hD hS (lv_sub hl [0, 1, 2, 3, 4, 5, 6, 7, 8, 9] rfl)
            · skip
              refine lv_iconst (v := 0) hx hb dX5_prints_270 (by decide) ?_
              refine lv_goto (tgt := 275) hx hb dX5_prints_271 (by decide) ?_
              exact K (0) _ _ _ (by rw [if_pos c35]) hP hD hS (lv_sub hl [0, 1, 2, 3, 4, 5, 6, 7, 8, 9] rfl)
          refine lv_icmp_ne (tgt := 250) hx hb dX5_prints_243 (by decide) (fun c30 => ?_) (fun c30 => ?_)
          · skip
            refine lv_iconst (v := 0) hx hb dX5_prints_250 (by decide) ?_
            exact K (0) _ _ _ (by rw [if_neg c30]) hP hD hS (lv_sub hl [1, 2, 3, 4, 5, 6, 7, 8, 9, 0] rfl)
          · skip
            refine lv_iconst (v := 1) hx hb dX5_prints_246 (by decide) ?_
            refine lv_goto (tgt := 251) hx hb dX5_prints_247 (by decide) ?_
            exact K (1) _ _ _ (by rw [if_pos c30]) hP hD hS (lv_sub hl [1, 2, 3, 4, 5, 6, 7, 8, 9, 0] rfl)
        refine lv_icmp_le (tgt := 179) hx hb dX5_prints_160 (by decide) (fun c21 => ?_) (fun c21 => ?_)
        · skip
          refine lv_iconst (v := 0) hx hb dX5_prints_179 (by decide) ?_
          exact K (0) _ _ _ (by rw [if_pos c21]) hP hD hS (lv_sub hl [2, 3, 4, 5, 6, 7, 8, 1, 0] rfl)
        · skip
          refine lv_aload_n hx hb dX5_prints_163 rfl (lv_at hl 2 rfl) ?_
          refine va_get (D := D) (ci := 5) (v := .ref (a 0)) (C := RX5) (T := TX5) (N := 16) hx hb hts inA5 hown hK hP 0 rfl rfl 0 (by decide) (hts _ wd_fl_RX5_7) (fun _ h9 => h9) rfl dX5_prints_164 ?_
          refine lv_bipush (v := 12) hx hb dX5_prints_167 (by decide) ?_
          refine lv_iload hx hb dX5_prints_169 (lv_at hl 6 rfl) ?_
          refine lv_iadd hx hb dX5_prints_171 ?_
          refine va_iald hx hb hK hP 1 0 rfl rfl (vp_add (reasonIn hiv hi_x1 c4) (by decide) (by decide) (by decide)) dX5_prints_172 ?_
          refine lv_iload hx hb dX5_prints_173 (lv_at hl 0 rfl) ?_
          refine lv_isub hx hb dX5_prints_175 ?_
          refine lv_goto (tgt := 180) hx hb dX5_prints_176 (by decide) ?_
          exact K (((f19 (12 + (sv (16 + x1).toNatClampNeg)).toNatClampNeg) - (sh_X5_counted sv (sv (16 + x1).toNatClampNeg) x2))) _ _ _ (by rw [if_neg c21]) hP hD hS (lv_sub hl [2, 3, 4, 5, 6, 7, 8, 1, 0] rfl)
      refine lv_icmp_ne (tgt := 94) hx hb dX5_prints_86 (by decide) (fun c11 => ?_) (fun c11 => ?_)
      · skip
        refine lv_iload hx hb dX5_prints_94 (lv_at hl 0 rfl) ?_
        refine lv_bipush (v := 100) hx hb dX5_prints_96 (by decide) ?_
        refine lv_imul hx hb dX5_prints_98 ?_
        refine lv_iload hx hb dX5_prints_99 (lv_at hl 6 rfl) ?_
        refine lv_idiv hx hb dX5_prints_101 (k_used hv9 c11 (iv_hand hiv (reasonIn hiv hi_x1 c4))) ?_
        exact K (((v10 * 100) / (sh_X5_need sv (sv (16 + x1).toNatClampNeg) x2 (sv (31 : Int32).toNatClampNeg)))) _ _ _ (by rw [if_neg c11]) hP hD hS (lv_sub hl [1, 2, 3, 4, 5, 6, 0] rfl)
      · skip
        refine lv_bipush (v := 100) hx hb dX5_prints_89 (by decide) ?_
        refine lv_goto (tgt := 102) hx hb dX5_prints_91 (by decide) ?_
        exact K (100) _ _ _ (by rw [if_pos c11]) hP hD hS (lv_sub hl [1, 2, 3, 4, 5, 6, 0] rfl)
    refine lv_icmp_ge (tgt := 78) hx hb dX5_prints_63 (by decide) (fun c8 => ?_) (fun c8 => ?_)
    · skip
      refine lv_iload hx hb dX5_prints_78 (lv_at hl 0 rfl) ?_
      exact K ((sh_X5_need sv (sv (16 + x1).toNatClampNeg) x2 (sv (31 : Int32).toNatClampNeg))) _ _ _ (by rw [if_pos c8]) hP hD hS (lv_sub hl [3, 4, 5, 2, 1, 0] rfl)
    · skip
      refine lv_aload_n hx hb dX5_prints_66 rfl (lv_at hl 3 rfl) ?_
      refine va_get (D := D) (ci := 5) (v := .ref (a 0)) (C := RX5) (T := TX5) (N := 16) hx hb hts inA5 hown hK hP 0 rfl rfl 0 (by decide) (hts _ wd_fl_RX5_7) (fun _ h9 => h9) rfl dX5_prints_67 ?_
      refine lv_iconst (v := 4) hx hb dX5_prints_70 (by decide) ?_
      refine lv_iload hx hb dX5_prints_71 (lv_at hl 1 rfl) ?_
      refine lv_iadd hx hb dX5_prints_73 ?_
      refine va_iald hx hb hK hP 1 0 rfl rfl (vp_add (reasonIn hiv hi_x1 c4) (by decide) (by decide) (by decide)) dX5_prints_74 ?_
      refine lv_goto (tgt := 80) hx hb dX5_prints_75 (by decide) ?_
      exact K ((sv (4 + (sv (16 + x1).toNatClampNeg)).toNatClampNeg)) _ _ _ (by rw [if_neg c8]) hP hD hS (lv_sub hl [3, 4, 5, 2, 1, 0] rfl)
  · have hq := it_neg hq c4
    refine lv_aload_n hx hb dX5_prints_10 rfl (lv_at hl 1 rfl) ?_
    refine va_get (D := D) (ci := 5) (v := .ref (a 0)) (C := RX5) (T := TX5) (N := 16) hx hb hts inA5 hown hK hP 0 rfl rfl 0 (by decide) (hts _ wd_fl_RX5_7) (fun _ h9 => h9) rfl dX5_prints_11 ?_
    refine lv_bipush (v := 22) hx hb dX5_prints_14 (by decide) ?_
    refine lv_iload_n hx hb dX5_prints_16 rfl (lv_at hl 2 rfl) ?_
    refine lv_iadd hx hb dX5_prints_17 ?_
    refine lv_dup2_11 hx hb dX5_prints_18 rfl rfl ?_
    refine va_iald hx hb hK hP 1 0 rfl rfl (vp_add hi_x1 (by decide) (by decide) (by decide)) dX5_prints_19 ?_
    refine lv_iconst (v := 1) hx hb dX5_prints_20 (by decide) ?_
    refine lv_iadd hx hb dX5_prints_21 ?_
    refine va_iast hx hb hK hP hD hS 1 0 rfl rfl (vp_add hi_x1 (by decide) (by decide) (by decide)) dX5_prints_22 (fun H locs hP hD hS => ?_)
    have hP : va_P D vwCl (MO cI h0 a (upd sv (22 + x1).toNatClampNeg ((sv (22 + x1).toNatClampNeg) + 1)) pa pn sn kp pd ln so po wr lt fr sc tm hd st) H := hP
    have hD : va_D A (MO cI h0 a (upd sv (22 + x1).toNatClampNeg ((sv (22 + x1).toNatClampNeg) + 1)) pa pn sn kp pd ln so po wr lt fr sc tm hd st) := hD
    obtain ⟨f44, hf45⟩ : ∃ z : Nat → Int32, z = (upd sv (22 + x1).toNatClampNeg ((sv (22 + x1).toNatClampNeg) + 1)) := ⟨_, rfl⟩
    have hP : va_P D vwCl (MO cI h0 a f44 pa pn sn kp pd ln so po wr lt fr sc tm hd st) H := by rw [hf45]; exact hP
    have hD : va_D A (MO cI h0 a f44 pa pn sn kp pd ln so po wr lt fr sc tm hd st) := by rw [hf45]; exact hD
    have hq := kb_to hq hf45
    refine lv_iload_n hx hb dX5_prints_23 rfl (lv_at hl 0 rfl) ?_
    exact hret _ _ _ _ ((sh_X5_reason sv x1)) f44 dX5_prints_24 rfl (hq.symm.trans hX) hP hD hS
def sh_X5_takes (sv : Nat → Int32) (x1 : Int32) : Int32 × (Nat → Int32) := (if (sv (16 + x1).toNatClampNeg) = (-1) then ((0 : Int32), sv) else (kb (α := Nat → Int32) (upd sv (4 + (sv (16 + x1).toNatClampNeg)).toNatClampNeg ((sv (4 + (sv (16 + x1).toNatClampNeg)).toNatClampNeg) - ((sv (4 + (sv (16 + x1).toNatClampNeg)).toNatClampNeg) / 50))) (fun z_f2 => (kb (α := Nat → Int32) (upd z_f2 (29 : Int32).toNatClampNeg ((z_f2 (29 : Int32).toNatClampNeg) + ((sv (4 + (sv (16 + x1).toNatClampNeg)).toNatClampNeg) / 50))) (fun z_f4 => (kb (α := Nat → Int32) (upd z_f4 (16 + x1).toNatClampNeg (-1)) (fun z_f6 => (((sv (4 + (sv (16 + x1).toNatClampNeg)).toNatClampNeg) / 50), z_f6))))))))
abbrev rm_X5_takes : Room := { frames := 0, cells := 0, slots := 0, locals := 0 }
theorem hd_X5_takes : hdT yX5_takes 1 := by decide +kernel
set_option maxHeartbeats 40000000 in
set_option maxRecDepth 100000 in
theorem c_X5_takes (l : Launch) (D : va_G) (cI cC cQ : ClassId) (sz : Nat) (h0 : Nat) (a : Nat → Nat) (sv : Nat → Int32) (pa : Nat → Int32) (pn : Int32) (sn : Nat → Int32) (kp : Int32) (pd : Nat → Int32) (ln : Int32) (so : Nat → Int32) (po : Int32) (wr : Int32) (lt : Int32) (fr : Int32) (sc : Int32) (tm : Int32) (hd : Int32) (st : Int32) (x1 : Int32) (hi_x1 : vp_in x1 2) (hiv : iv sv) : Met l yX5_takes (wsO yX5_takes cX5_takes 4 (some .int)) rm_X5_takes (va_Pc [.ref h0, .int x1] (inW D (TYS cI cC cQ) (MO cI h0 a sv pa pn sn kp pd ln so po wr lt fr sc tm hd st) sz)) (va_Qi (fun (r : Int32) (u : (Nat → Int32)) => (r, u) = sh_X5_takes sv x1) (fun (u : (Nat → Int32)) => atW D (TYS cI cC cQ) (va_A (MO cI h0 a sv pa pn sn kp pd ln so po wr lt fr sc tm hd st) sz) (MO cI h0 a u pa pn sn kp pd ln so po wr lt fr sc tm hd st)) (va_A (MO cI h0 a sv pa pn sn kp pd ln so po wr lt fr sc tm hd st) sz)) 0 0 (va_A (MO cI h0 a sv pa pn sn kp pd ln so po wr lt fr sc tm hd st) sz) := by
  refine k_meti .int rfl (by decide) (Nat.le_of_ble_eq_true rfl) ?_
  intro p e s m args below meth c A ls Q H locs hargs hret hx hb hts hown hml hname hN hA hS hP hK hD hl
  have hl : lv_has ls 4 [(0, .ref h0), (1, .int x1)] := hl
  obtain ⟨Xq, hX⟩ : ∃ Xq, Xq = sh_X5_takes sv x1 := ⟨_, rfl⟩
  have hq : Xq = (if (sv (16 + x1).toNatClampNeg) = (-1) then ((0 : Int32), sv) else (kb (α := Nat → Int32) (upd sv (4 + (sv (16 + x1).toNatClampNeg)).toNatClampNeg ((sv (4 + (sv (16 + x1).toNatClampNeg)).toNatClampNeg) - ((sv (4 + (sv (16 + x1).toNatClampNeg)).toNatClampNeg) / 50))) (fun z_f2 => (kb (α := Nat → Int32) (upd z_f2 (29 : Int32).toNatClampNeg ((z_f2 (29 : Int32).toNatClampNeg) + ((sv (4 + (sv (16 + x1).toNatClampNeg)).toNatClampNeg) / 50))) (fun z_f4 => (kb (α := Nat → Int32) (upd z_f4 (16 + x1).toNatClampNeg (-1)) (fun z_f6 => (((sv (4 + (sv (16 + x1).toNatClampNeg)).toNatClampNeg) / 50), z_f6)))))))) := hX
  refine lv_aload_n hx hb dX5_takes_0 rfl (lv_at hl 0 rfl) ?_
  refine va_get (D := D) (ci := 5) (v := .ref (a 0)) (C := RX5) (T := TX5) (N := 16) hx hb hts inA5 hown hK hP 0 rfl rfl 0 (by decide) (hts _ wd_fl_RX5_7) (fun _ h9 => h9) rfl dX5_takes_1 ?_
  refine lv_bipush (v := 16) hx hb dX5_takes_4 (by decide) ?_
  refine lv_iload_n hx hb dX5_takes_6 rfl (lv_at hl 1 rfl) ?_
  refine lv_iadd hx hb dX5_takes_7 ?_
  refine va_iald hx hb hK hP 1 0 rfl rfl (vp_add hi_x1 (by decide) (by decide) (by decide)) dX5_takes_8 ?_
  refine lv_istore_n (lv' := [(2, .int (sv (16 + x1).toNatClampNeg)), (0, .ref h0), (1, .int x1)]) hx hb dX5_takes_9 rfl hl (by decide) rfl (fun ls hl => ?_)
  refine lv_iload_n hx hb dX5_takes_10 rfl (lv_at hl 0 rfl) ?_
  refine lv_iconst (v := (-1)) hx hb dX5_takes_11 (by decide) ?_
  refine lv_icmp_ne (tgt := 17) hx hb dX5_takes_12 (by decide) (fun c1 => ?_) (fun c1 => ?_)
  · have hq := it_neg hq c1
    refine lv_aload_n hx hb dX5_takes_17 rfl (lv_at hl 1 rfl) ?_
    refine va_get (D := D) (ci := 5) (v := .ref (a 0)) (C := RX5) (T := TX5) (N := 16) hx hb hts inA5 hown hK hP 0 rfl rfl 0 (by decide) (hts _ wd_fl_RX5_7) (fun _ h9 => h9) rfl dX5_takes_18 ?_
    refine lv_iconst (v := 4) hx hb dX5_takes_21 (by decide) ?_
    refine lv_iload_n hx hb dX5_takes_22 rfl (lv_at hl 0 rfl) ?_
    refine lv_iadd hx hb dX5_takes_23 ?_
    refine va_iald hx hb hK hP 1 0 rfl rfl (vp_add (iv_cup hiv hi_x1 c1) (by decide) (by decide) (by decide)) dX5_takes_24 ?_
    refine lv_bipush (v := 50) hx hb dX5_takes_25 (by decide) ?_
    refine lv_idiv hx hb dX5_takes_27 (by decide) ?_
    refine lv_istore_n (lv' := [(3, .int ((sv (4 + (sv (16 + x1).toNatClampNeg)).toNatClampNeg) / 50)), (2, .int (sv (16 + x1).toNatClampNeg)), (0, .ref h0), (1, .int x1)]) hx hb dX5_takes_28 rfl hl (by decide) rfl (fun ls hl => ?_)
    refine lv_aload_n hx hb dX5_takes_29 rfl (lv_at hl 2 rfl) ?_
    refine va_get (D := D) (ci := 5) (v := .ref (a 0)) (C := RX5) (T := TX5) (N := 16) hx hb hts inA5 hown hK hP 0 rfl rfl 0 (by decide) (hts _ wd_fl_RX5_7) (fun _ h9 => h9) rfl dX5_takes_30 ?_
    refine lv_iconst (v := 4) hx hb dX5_takes_33 (by decide) ?_
    refine lv_iload_n hx hb dX5_takes_34 rfl (lv_at hl 1 rfl) ?_
    refine lv_iadd hx hb dX5_takes_35 ?_
    refine lv_dup2_11 hx hb dX5_takes_36 rfl rfl ?_
    refine va_iald hx hb hK hP 1 0 rfl rfl (vp_add (iv_cup hiv hi_x1 c1) (by decide) (by decide) (by decide)) dX5_takes_37 ?_
    refine lv_iload_n hx hb dX5_takes_38 rfl (lv_at hl 0 rfl) ?_
    refine lv_isub hx hb dX5_takes_39 ?_
    refine va_iast hx hb hK hP hD hS 1 0 rfl rfl (vp_add (iv_cup hiv hi_x1 c1) (by decide) (by decide) (by decide)) dX5_takes_40 (fun H locs hP hD hS => ?_)
    have hP : va_P D vwCl (MO cI h0 a (upd sv (4 + (sv (16 + x1).toNatClampNeg)).toNatClampNeg ((sv (4 + (sv (16 + x1).toNatClampNeg)).toNatClampNeg) - ((sv (4 + (sv (16 + x1).toNatClampNeg)).toNatClampNeg) / 50))) pa pn sn kp pd ln so po wr lt fr sc tm hd st) H := hP
    have hD : va_D A (MO cI h0 a (upd sv (4 + (sv (16 + x1).toNatClampNeg)).toNatClampNeg ((sv (4 + (sv (16 + x1).toNatClampNeg)).toNatClampNeg) - ((sv (4 + (sv (16 + x1).toNatClampNeg)).toNatClampNeg) / 50))) pa pn sn kp pd ln so po wr lt fr sc tm hd st) := hD
    obtain ⟨f2, hf3⟩ : ∃ z : Nat → Int32, z = (upd sv (4 + (sv (16 + x1).toNatClampNeg)).toNatClampNeg ((sv (4 + (sv (16 + x1).toNatClampNeg)).toNatClampNeg) - ((sv (4 + (sv (16 + x1).toNatClampNeg)).toNatClampNeg) / 50))) := ⟨_, rfl⟩
    have hP : va_P D vwCl (MO cI h0 a f2 pa pn sn kp pd ln so po wr lt fr sc tm hd st) H := by rw [hf3]; exact hP
    have hD : va_D A (MO cI h0 a f2 pa pn sn kp pd ln so po wr lt fr sc tm hd st) := by rw [hf3]; exact hD
    have hq := kb_to hq hf3
    refine lv_aload_n hx hb dX5_takes_41 rfl (lv_at hl 2 rfl) ?_
    refine va_get (D := D) (ci := 5) (v := .ref (a 0)) (C := RX5) (T := TX5) (N := 16) hx hb hts inA5 hown hK hP 0 rfl rfl 0 (by decide) (hts _ wd_fl_RX5_7) (fun _ h9 => h9) rfl dX5_takes_42 ?_
    refine lv_bipush (v := 29) hx hb dX5_takes_45 (by decide) ?_
    refine lv_dup2_11 hx hb dX5_takes_47 rfl rfl ?_
    refine va_iald hx hb hK hP 1 0 rfl rfl (k_in (by decide)) dX5_takes_48 ?_
    refine lv_iload_n hx hb dX5_takes_49 rfl (lv_at hl 0 rfl) ?_
    refine lv_iadd hx hb dX5_takes_50 ?_
    refine va_iast hx hb hK hP hD hS 1 0 rfl rfl (k_in (by decide)) dX5_takes_51 (fun H locs hP hD hS => ?_)
    have hP : va_P D vwCl (MO cI h0 a (upd f2 (29 : Int32).toNatClampNeg ((f2 (29 : Int32).toNatClampNeg) + ((sv (4 + (sv (16 + x1).toNatClampNeg)).toNatClampNeg) / 50))) pa pn sn kp pd ln so po wr lt fr sc tm hd st) H := hP
    have hD : va_D A (MO cI h0 a (upd f2 (29 : Int32).toNatClampNeg ((f2 (29 : Int32).toNatClampNeg) + ((sv (4 + (sv (16 + x1).toNatClampNeg)).toNatClampNeg) / 50))) pa pn sn kp pd ln so po wr lt fr sc tm hd st) := hD
    obtain ⟨f4, hf5⟩ : ∃ z : Nat → Int32, z = (upd f2 (29 : Int32).toNatClampNeg ((f2 (29 : Int32).toNatClampNeg) + ((sv (4 + (sv (16 + x1).toNatClampNeg)).toNatClampNeg) / 50))) := ⟨_, rfl⟩
    have hP : va_P D vwCl (MO cI h0 a f4 pa pn sn kp pd ln so po wr lt fr sc tm hd st) H := by rw [hf5]; exact hP
    have hD : va_D A (MO cI h0 a f4 pa pn sn kp pd ln so po wr lt fr sc tm hd st) := by rw [hf5]; exact hD
    have hq := kb_to hq hf5
    refine lv_aload_n hx hb dX5_takes_52 rfl (lv_at hl 2 rfl) ?_
    refine va_get (D := D) (ci := 5) (v := .ref (a 0)) (C := RX5) (T := TX5) (N := 16) hx hb hts inA5 hown hK hP 0 rfl rfl 0 (by decide) (hts _ wd_fl_RX5_7) (fun _ h9 => h9) rfl dX5_takes_53 ?_
    refine lv_bipush (v := 16) hx hb dX5_takes_56 (by decide) ?_
    refine lv_iload_n hx hb dX5_takes_58 rfl (lv_at hl 3 rfl) ?_
    refine lv_iadd hx hb dX5_takes_59 ?_
    refine lv_iconst (v := (-1)) hx hb dX5_takes_60 (by decide) ?_
    refine va_iast hx hb hK hP hD hS 1 0 rfl rfl (vp_add hi_x1 (by decide) (by decide) (by decide)) dX5_takes_61 (fun H locs hP hD hS => ?_)
    have hP : va_P D vwCl (MO cI h0 a (upd f4 (16 + x1).toNatClampNeg (-1)) pa pn sn kp pd ln so po wr lt fr sc tm hd st) H := hP
    have hD : va_D A (MO cI h0 a (upd f4 (16 + x1).toNatClampNeg (-1)) pa pn sn kp pd ln so po wr lt fr sc tm hd st) := hD
    obtain ⟨f6, hf7⟩ : ∃ z : Nat → Int32, z = (upd f4 (16 + x1).toNatClampNeg (-1)) := ⟨_, rfl⟩
    have hP : va_P D vwCl (MO cI h0 a f6 pa pn sn kp pd ln so po wr lt fr sc tm hd st) H := by rw [hf7]; exact hP
    have hD : va_D A (MO cI h0 a f6 pa pn sn kp pd ln so po wr lt fr sc tm hd st) := by rw [hf7]; exact hD
    have hq := kb_to hq hf7
    refine lv_iload_n hx hb dX5_takes_62 rfl (lv_at hl 0 rfl) ?_
    exact hret _ _ _ _ (((sv (4 + (sv (16 + x1).toNatClampNeg)).toNatClampNeg) / 50)) f6 dX5_takes_63 rfl (hq.symm.trans hX) hP hD hS
  · have hq := it_pos hq c1
    refine lv_iconst (v := 0) hx hb dX5_takes_15 (by decide) ?_
    exact hret _ _ _ _ (0) sv dX5_takes_16 rfl (hq.symm.trans hX) hP hD hS
def sh_X5_scale (sv : Nat → Int32) (x1 : Int32) : Int32 := (((sh_X5_tonerOf sv x1) / (sv (34 : Int32).toNatClampNeg)) * (sv (34 : Int32).toNatClampNeg))
abbrev rm_X5_scale : Room := { frames := 1, cells := 0, slots := 0, locals := 21 }
theorem hd_X5_scale : hdT yX5_scale 1 := by decide +kernel
set_option maxHeartbeats 40000000 in
set_option maxRecDepth 100000 in
theorem c_X5_scale (l : Launch) (D : va_G) (cI cC cQ : ClassId) (sz : Nat) (h0 : Nat) (a : Nat → Nat) (sv : Nat → Int32) (pa : Nat → Int32) (pn : Int32) (sn : Nat → Int32) (kp : Int32) (pd : Nat → Int32) (ln : Int32) (so : Nat → Int32) (po : Int32) (wr : Int32) (lt : Int32) (fr : Int32) (sc : Int32) (tm : Int32) (hd : Int32) (st : Int32) (x1 : Int32) (hi_x1 : vp_in x1 4) (hiv : iv sv) : Met l yX5_scale (wsO yX5_scale cX5_scale 2 (some .int)) rm_X5_scale (va_Pc [.ref h0, .int x1] (inW D (TYS cI cC cQ) (MO cI h0 a sv pa pn sn kp pd ln so po wr lt fr sc tm hd st) sz)) (va_Qi (fun (r : Int32) (_ : Unit) => r = sh_X5_scale sv x1) (fun (u : Unit) => atW D (TYS cI cC cQ) (va_A (MO cI h0 a sv pa pn sn kp pd ln so po wr lt fr sc tm hd st) sz) (MO cI h0 a sv pa pn sn kp pd ln so po wr lt fr sc tm hd st)) (va_A (MO cI h0 a sv pa pn sn kp pd ln so po wr lt fr sc tm hd st) sz)) 0 0 (va_A (MO cI h0 a sv pa pn sn kp pd ln so po wr lt fr sc tm hd st) sz) := by
  refine k_meti .int rfl (by decide) (Nat.le_of_ble_eq_true rfl) ?_
  intro p e s m args below meth c A ls Q H locs hargs hret hx hb hts hown hml hname hN hA hS hP hK hD hl
  have hl : lv_has ls 2 [(0, .ref h0), (1, .int x1)] := hl
  obtain ⟨Xq, hX⟩ : ∃ Xq, Xq = sh_X5_scale sv x1 := ⟨_, rfl⟩
  have hq : Xq = (((sh_X5_tonerOf sv x1) / (sv (34 : Int32).toNatClampNeg)) * (sv (34 : Int32).toNatClampNeg)) := hX
  refine lv_aload_n hx hb dX5_scale_0 rfl (lv_at hl 0 rfl) ?_
  refine lv_iload_n hx hb dX5_scale_1 rfl (lv_at hl 1 rfl) ?_
  have hPs := k_self hP
  have hDs := k_selfD hD
  refine k_behi (X := []) (Y := []) (va_runV (As := [.int x1]) (rest := []) ⟨hx, hb, hml, hown, hts⟩ (c_X5_tonerOf l D cI cC cQ H.size h0 a sv pa pn sn kp pd ln so po wr lt fr sc tm hd st x1 (hi_x1)) (kcwV hts wd_ml_RX5_37 wd_im_yX5_tonerOf wd_sel_yX5_tonerOf wd_ini_RX5 wd_code_yX5_tonerOf rfl rfl rfl hd_X5_tonerOf ⟨Nat.le_of_ble_eq_true rfl, Nat.le_of_ble_eq_true rfl⟩) ⟨in_blind, va_recv hK (pa_l (pa_r hPs)) (ci := 5) (q0 := 0) rfl rfl, k_pre hK (pa_l (pa_r hPs)) (da_l (da_r hDs)) hN⟩ rfl rfl hl.1 rfl (lv_room (Nat.le_of_ble_eq_true rfl)) dX5_scale_2 ⟨Nat.le_of_ble_eq_true rfl, Nat.le_of_ble_eq_true rfl⟩) hPs hDs hS hA (fun r1 u2 H locs hw3 hP hD hS => ?_)
  have hP := k_unP hP
  have hD := k_unD hD
  have hP : va_P D vwCl (MO cI h0 a sv pa pn sn kp pd ln so po wr lt fr sc tm hd st) H := hP
  have hD : va_D A (MO cI h0 a sv pa pn sn kp pd ln so po wr lt fr sc tm hd st) := hD
  have hw3 : r1 = (sh_X5_tonerOf sv x1) := hw3
  subst hw3
  refine lv_aload_n hx hb dX5_scale_5 rfl (lv_at hl 0 rfl) ?_
  refine va_get (D := D) (ci := 5) (v := .ref (a 0)) (C := RX5) (T := TX5) (N := 16) hx hb hts inA5 hown hK hP 0 rfl rfl 0 (by decide) (hts _ wd_fl_RX5_7) (fun _ h9 => h9) rfl dX5_scale_6 ?_
  refine lv_bipush (v := 34) hx hb dX5_scale_9 (by decide) ?_
  refine va_iald hx hb hK hP 1 0 rfl rfl (k_in (by decide)) dX5_scale_11 ?_
  refine lv_idiv hx hb dX5_scale_12 (iv_34 hiv) ?_
  refine lv_aload_n hx hb dX5_scale_13 rfl (lv_at hl 0 rfl) ?_
  refine va_get (D := D) (ci := 5) (v := .ref (a 0)) (C := RX5) (T := TX5) (N := 16) hx hb hts inA5 hown hK hP 0 rfl rfl 0 (by decide) (hts _ wd_fl_RX5_7) (fun _ h9 => h9) rfl dX5_scale_14 ?_
  refine lv_bipush (v := 34) hx hb dX5_scale_17 (by decide) ?_
  refine va_iald hx hb hK hP 1 0 rfl rfl (k_in (by decide)) dX5_scale_19 ?_
  refine lv_imul hx hb dX5_scale_20 ?_
  exact hret _ _ _ _ ((((sh_X5_tonerOf sv x1) / (sv (34 : Int32).toNatClampNeg)) * (sv (34 : Int32).toNatClampNeg))) () dX5_scale_21 rfl (hq.symm.trans hX) hP hD hS
def sh_X5_left (sv : Nat → Int32) (x1 : Int32) : Int32 := (((sh_X5_scale sv x1) + (sv (12 + x1).toNatClampNeg)) / 2)
abbrev rm_X5_left : Room := { frames := 2, cells := 0, slots := 0, locals := 42 }
theorem hd_X5_left : hdT yX5_left 1 := by decide +kernel
set_option maxHeartbeats 40000000 in
set_option maxRecDepth 100000 in
theorem c_X5_left (l : Launch) (D : va_G) (cI cC cQ : ClassId) (sz : Nat) (h0 : Nat) (a : Nat → Nat) (sv : Nat → Int32) (pa : Nat → Int32) (pn : Int32) (sn : Nat → Int32) (kp : Int32) (pd : Nat → Int32) (ln : Int32) (so : Nat → Int32) (po : Int32) (wr : Int32) (lt : Int32) (fr : Int32) (sc : Int32) (tm : Int32) (hd : Int32) (st : Int32) (x1 : Int32) (hi_x1 : vp_in x1 4) (hiv : iv sv) : Met l yX5_left (wsO yX5_left cX5_left 2 (some .int)) rm_X5_left (va_Pc [.ref h0, .int x1] (inW D (TYS cI cC cQ) (MO cI h0 a sv pa pn sn kp pd ln so po wr lt fr sc tm hd st) sz)) (va_Qi (fun (r : Int32) (_ : Unit) => r = sh_X5_left sv x1) (fun (u : Unit) => atW D (TYS cI cC cQ) (va_A (MO cI h0 a sv pa pn sn kp pd ln so po wr lt fr sc tm hd st) sz) (MO cI h0 a sv pa pn sn kp pd ln so po wr lt fr sc tm hd st)) (va_A (MO cI h0 a sv pa pn sn kp pd ln so po wr lt fr sc tm hd st) sz)) 0 0 (va_A (MO cI h0 a sv pa pn sn kp pd ln so po wr lt fr sc tm hd st) sz) := by
  refine k_meti .int rfl (by decide) (Nat.le_of_ble_eq_true rfl) ?_
  intro p e s m args below meth c A ls Q H locs hargs hret hx hb hts hown hml hname hN hA hS hP hK hD hl
  have hl : lv_has ls 2 [(0, .ref h0), (1, .int x1)] := hl
  obtain ⟨Xq, hX⟩ : ∃ Xq, Xq = sh_X5_left sv x1 := ⟨_, rfl⟩
  have hq : Xq = (((sh_X5_scale sv x1) + (sv (12 + x1).toNatClampNeg)) / 2) := hX
  refine lv_aload_n hx hb dX5_left_0 rfl (lv_at hl 0 rfl) ?_
  refine lv_iload_n hx hb dX5_left_1 rfl (lv_at hl 1 rfl) ?_
  have hPs := k_self hP
  have hDs := k_selfD hD
  refine k_behi (X := []) (Y := []) (va_runV (As := [.int x1]) (rest := []) ⟨hx, hb, hml, hown, hts⟩ (c_X5_scale l D cI cC cQ H.size h0 a sv pa pn sn kp pd ln so po wr lt fr sc tm hd st x1 (hi_x1) (hiv)) (kcwV hts wd_ml_RX5_128 wd_im_yX5_scale wd_sel_yX5_scale wd_ini_RX5 wd_code_yX5_scale rfl rfl rfl hd_X5_scale ⟨Nat.le_of_ble_eq_true rfl, Nat.le_of_ble_eq_true rfl⟩) ⟨in_blind, va_recv hK (pa_l (pa_r hPs)) (ci := 5) (q0 := 0) rfl rfl, k_pre hK (pa_l (pa_r hPs)) (da_l (da_r hDs)) hN⟩ rfl rfl hl.1 rfl (lv_room (Nat.le_of_ble_eq_true rfl)) dX5_left_2 ⟨Nat.le_of_ble_eq_true rfl, Nat.le_of_ble_eq_true rfl⟩) hPs hDs hS hA (fun r1 u2 H locs hw3 hP hD hS => ?_)
  have hP := k_unP hP
  have hD := k_unD hD
  have hP : va_P D vwCl (MO cI h0 a sv pa pn sn kp pd ln so po wr lt fr sc tm hd st) H := hP
  have hD : va_D A (MO cI h0 a sv pa pn sn kp pd ln so po wr lt fr sc tm hd st) := hD
  have hw3 : r1 = (sh_X5_scale sv x1) := hw3
  subst hw3
  refine lv_aload_n hx hb dX5_left_5 rfl (lv_at hl 0 rfl) ?_
  refine va_get (D := D) (ci := 5) (v := .ref (a 0)) (C := RX5) (T := TX5) (N := 16) hx hb hts inA5 hown hK hP 0 rfl rfl 0 (by decide) (hts _ wd_fl_RX5_7) (fun _ h9 => h9) rfl dX5_left_6 ?_
  refine lv_bipush (v := 12) hx hb dX5_left_9 (by decide) ?_
  refine lv_iload_n hx hb dX5_left_11 rfl (lv_at hl 1 rfl) ?_
  refine lv_iadd hx hb dX5_left_12 ?_
  refine va_iald hx hb hK hP 1 0 rfl rfl (vp_add hi_x1 (by decide) (by decide) (by decide)) dX5_left_13 ?_
  refine lv_iadd hx hb dX5_left_14 ?_
  refine lv_iconst (v := 2) hx hb dX5_left_15 (by decide) ?_
  refine lv_idiv hx hb dX5_left_16 (by decide) ?_
  exact hret _ _ _ _ ((((sh_X5_scale sv x1) + (sv (12 + x1).toNatClampNeg)) / 2)) () dX5_left_17 rfl (hq.symm.trans hX) hP hD hS
def sh_X5_allLeft (sv : Nat → Int32) : Int32 := ((((0 + (sh_X5_left sv 0)) + (sh_X5_left sv 1)) + (sh_X5_left sv 2)) + (sh_X5_left sv 3))
abbrev rm_X5_allLeft : Room := { frames := 3, cells := 0, slots := 0, locals := 63 }
theorem hd_X5_allLeft : hdT yX5_allLeft 0 := by decide +kernel
set_option maxHeartbeats 40000000 in
set_option maxRecDepth 100000 in
theorem c_X5_allLeft (l : Launch) (D : va_G) (cI cC cQ : ClassId) (sz : Nat) (h0 : Nat) (a : Nat → Nat) (sv : Nat → Int32) (pa : Nat → Int32) (pn : Int32) (sn : Nat → Int32) (kp : Int32) (pd : Nat → Int32) (ln : Int32) (so : Nat → Int32) (po : Int32) (wr : Int32) (lt : Int32) (fr : Int32) (sc : Int32) (tm : Int32) (hd : Int32) (st : Int32)  (hiv : iv sv) : Met l yX5_allLeft (wsO yX5_allLeft cX5_allLeft 3 (some .int)) rm_X5_allLeft (va_Pc [.ref h0] (inW D (TYS cI cC cQ) (MO cI h0 a sv pa pn sn kp pd ln so po wr lt fr sc tm hd st) sz)) (va_Qi (fun (r : Int32) (_ : Unit) => r = sh_X5_allLeft sv) (fun (u : Unit) => atW D (TYS cI cC cQ) (va_A (MO cI h0 a sv pa pn sn kp pd ln so po wr lt fr sc tm hd st) sz) (MO cI h0 a sv pa pn sn kp pd ln so po wr lt fr sc tm hd st)) (va_A (MO cI h0 a sv pa pn sn kp pd ln so po wr lt fr sc tm hd st) sz)) 0 0 (va_A (MO cI h0 a sv pa pn sn kp pd ln so po wr lt fr sc tm hd st) sz) := by
  refine k_meti .int rfl (by decide) (Nat.le_of_ble_eq_true rfl) ?_
  intro p e s m args below meth c A ls Q H locs hargs hret hx hb hts hown hml hname hN hA hS hP hK hD hl
  have hl : lv_has ls 3 [(0, .ref h0)] := hl
  obtain ⟨Xq, hX⟩ : ∃ Xq, Xq = sh_X5_allLeft sv := ⟨_, rfl⟩
  have hq : Xq = ((((0 + (sh_X5_left sv 0)) + (sh_X5_left sv 1)) + (sh_X5_left sv 2)) + (sh_X5_left sv 3)) := hX
  refine lv_iconst (v := 0) hx hb dX5_allLeft_0 (by decide) ?_
  refine lv_istore_n (lv' := [(1, .int 0), (0, .ref h0)]) hx hb dX5_allLeft_1 rfl hl (by decide) rfl (fun ls hl => ?_)
  refine lv_iconst (v := 0) hx hb dX5_allLeft_2 (by decide) ?_
  refine lv_istore_n (lv' := [(2, .int 0), (1, .int 0), (0, .ref h0)]) hx hb dX5_allLeft_3 rfl hl (by decide) rfl (fun ls hl => ?_)
  refine lv_iload_n hx hb dX5_allLeft_4 rfl (lv_at hl 0 rfl) ?_
  refine lv_iconst (v := 4) hx hb dX5_allLeft_5 (by decide) ?_
  refine lv_icmp_ge (tgt := 23) hx hb dX5_allLeft_6 (by decide) (fun c9 => absurd c9 (by decide)) (fun _ => ?_)
  refine lv_iload_n hx hb dX5_allLeft_9 rfl (lv_at hl 1 rfl) ?_
  refine lv_aload_n hx hb dX5_allLeft_10 rfl (lv_at hl 2 rfl) ?_
  refine lv_iload_n hx hb dX5_allLeft_11 rfl (lv_at hl 0 rfl) ?_
  have hPs := k_self hP
  have hDs := k_selfD hD
  refine k_behi (X := []) (Y := []) (va_runV (As := [.int 0]) (rest := [.int 0]) ⟨hx, hb, hml, hown, hts⟩ (c_X5_left l D cI cC cQ H.size h0 a sv pa pn sn kp pd ln so po wr lt fr sc tm hd st 0 ((k_in (by decide))) (hiv)) (kcwV hts wd_ml_RX5_131 wd_im_yX5_left wd_sel_yX5_left wd_ini_RX5 wd_code_yX5_left rfl rfl rfl hd_X5_left ⟨Nat.le_of_ble_eq_true rfl, Nat.le_of_ble_eq_true rfl⟩) ⟨in_blind, va_recv hK (pa_l (pa_r hPs)) (ci := 5) (q0 := 0) rfl rfl, k_pre hK (pa_l (pa_r hPs)) (da_l (da_r hDs)) hN⟩ rfl rfl hl.1 rfl (lv_room (Nat.le_of_ble_eq_true rfl)) dX5_allLeft_12 ⟨Nat.le_of_ble_eq_true rfl, Nat.le_of_ble_eq_true rfl⟩) hPs hDs hS hA (fun r1 u2 H locs hw3 hP hD hS => ?_)
  have hP := k_unP hP
  have hD := k_unD hD
  have hP : va_P D vwCl (MO cI h0 a sv pa pn sn kp pd ln so po wr lt fr sc tm hd st) H := hP
  have hD : va_D A (MO cI h0 a sv pa pn sn kp pd ln so po wr lt fr sc tm hd st) := hD
  have hw3 : r1 = (sh_X5_left sv 0) := hw3
  subst hw3
  refine lv_iadd hx hb dX5_allLeft_15 ?_
  refine lv_istore_n (lv' := [(1, .int (0 + (sh_X5_left sv 0))), (2, .int 0), (0, .ref h0)]) hx hb dX5_allLeft_16 rfl hl (by decide) rfl (fun ls hl => ?_)
  refine lv_iinc (v := 1) (lv' := [(2, .int 1), (1, .int (0 + (sh_X5_left sv 0))), (0, .ref h0)]) hx hb dX5_allLeft_17 hl (k := 1) rfl (by decide) (by decide) rfl (fun ls hl => ?_)
  refine lv_goto (tgt := 4) hx hb dX5_allLeft_20 (by decide) ?_
  refine lv_iload_n hx hb dX5_allLeft_4 rfl (lv_at hl 0 rfl) ?_
  refine lv_iconst (v := 4) hx hb dX5_allLeft_5 (by decide) ?_
  refine lv_icmp_ge (tgt := 23) hx hb dX5_allLeft_6 (by decide) (fun c9 => absurd c9 (by decide)) (fun _ => ?_)
  refine lv_iload_n hx hb dX5_allLeft_9 rfl (lv_at hl 1 rfl) ?_
  refine lv_aload_n hx hb dX5_allLeft_10 rfl (lv_at hl 2 rfl) ?_
  refine lv_iload_n hx hb dX5_allLeft_11 rfl (lv_at hl 0 rfl) ?_
  have hPs := k_self hP
  have hDs := k_selfD hD
  refine k_behi (X := []) (Y := []) (va_runV (As := [.int 1]) (rest := [.int (0 + (sh_X5_left sv 0))]) ⟨hx, hb, hml, hown, hts⟩ (c_X5_left l D cI cC cQ H.size h0 a sv pa pn sn kp pd ln so po wr lt fr sc tm hd st 1 ((k_in (by decide))) (hiv)) (kcwV hts wd_ml_RX5_131 wd_im_yX5_left wd_sel_yX5_left wd_ini_RX5 wd_code_yX5_left rfl rfl rfl hd_X5_left ⟨Nat.le_of_ble_eq_true rfl, Nat.le_of_ble_eq_true rfl⟩) ⟨in_blind, va_recv hK (pa_l (pa_r hPs)) (ci := 5) (q0 := 0) rfl rfl, k_pre hK (pa_l (pa_r hPs)) (da_l (da_r hDs)) hN⟩ rfl rfl hl.1 rfl (lv_room (Nat.le_of_ble_eq_true rfl)) dX5_allLeft_12 ⟨Nat.le_of_ble_eq_true rfl, Nat.le_of_ble_eq_true rfl⟩) hPs hDs hS hA (fun r4 u5 H locs hw6 hP hD hS => ?_)
  have hP := k_unP hP
  have hD := k_unD hD
  have hP : va_P D vwCl (MO cI h0 a sv pa pn sn kp pd ln so po wr lt fr sc tm hd st) H := hP
  have hD : va_D A (MO cI h0 a sv pa pn sn kp pd ln so po wr lt fr sc tm hd st) := hD
  have hw6 : r4 = (sh_X5_left sv 1) := hw6
  subst hw6
  refine lv_iadd hx hb dX5_allLeft_15 ?_
  refine lv_istore_n (lv' := [(1, .int ((0 + (sh_X5_left sv 0)) + (sh_X5_left sv 1))), (2, .int 1), (0, .ref h0)]) hx hb dX5_allLeft_16 rfl hl (by decide) rfl (fun ls hl => ?_)
  refine lv_iinc (v := 2) (lv' := [(2, .int 2), (1, .int ((0 + (sh_X5_left sv 0)) + (sh_X5_left sv 1))), (0, .ref h0)]) hx hb dX5_allLeft_17 hl (k := 1) rfl (by decide) (by decide) rfl (fun ls hl => ?_)
  refine lv_goto (tgt := 4) hx hb dX5_allLeft_20 (by decide) ?_
  refine lv_iload_n hx hb dX5_allLeft_4 rfl (lv_at hl 0 rfl) ?_
  refine lv_iconst (v := 4) hx hb dX5_allLeft_5 (by decide) ?_
  refine lv_icmp_ge (tgt := 23) hx hb dX5_allLeft_6 (by decide) (fun c9 => absurd c9 (by decide)) (fun _ => ?_)
  refine lv_iload_n hx hb dX5_allLeft_9 rfl (lv_at hl 1 rfl) ?_
  refine lv_aload_n hx hb dX5_allLeft_10 rfl (lv_at hl 2 rfl) ?_
  refine lv_iload_n hx hb dX5_allLeft_11 rfl (lv_at hl 0 rfl) ?_
  have hPs := k_self hP
  have hDs := k_selfD hD
  refine k_behi (X := []) (Y := []) (va_runV (As := [.int 2]) (rest := [.int ((0 + (sh_X5_left sv 0)) + (sh_X5_left sv 1))]) ⟨hx, hb, hml, hown, hts⟩ (c_X5_left l D cI cC cQ H.size h0 a sv pa pn sn kp pd ln so po wr lt fr sc tm hd st 2 ((k_in (by decide))) (hiv)) (kcwV hts wd_ml_RX5_131 wd_im_yX5_left wd_sel_yX5_left wd_ini_RX5 wd_code_yX5_left rfl rfl rfl hd_X5_left ⟨Nat.le_of_ble_eq_true rfl, Nat.le_of_ble_eq_true rfl⟩) ⟨in_blind, va_recv hK (pa_l (pa_r hPs)) (ci := 5) (q0 := 0) rfl rfl, k_pre hK (pa_l (pa_r hPs)) (da_l (da_r hDs)) hN⟩ rfl rfl hl.1 rfl (lv_room (Nat.le_of_ble_eq_true rfl)) dX5_allLeft_12 ⟨Nat.le_of_ble_eq_true rfl, Nat.le_of_ble_eq_true rfl⟩) hPs hDs hS hA (fun r7 u8 H locs hw9 hP hD hS => ?_)
  have hP := k_unP hP
  have hD := k_unD hD
  have hP : va_P D vwCl (MO cI h0 a sv pa pn sn kp pd ln so po wr lt fr sc tm hd st) H := hP
  have hD : va_D A (MO cI h0 a sv pa pn sn kp pd ln so po wr lt fr sc tm hd st) := hD
  have hw9 : r7 = (sh_X5_left sv 2) := hw9
  subst hw9
  refine lv_iadd hx hb dX5_allLeft_15 ?_
  refine lv_istore_n (lv' := [(1, .int (((0 + (sh_X5_left sv 0)) + (sh_X5_left sv 1)) + (sh_X5_left sv 2))), (2, .int 2), (0, .ref h0)]) hx hb dX5_allLeft_16 rfl hl (by decide) rfl (fun ls hl => ?_)
  refine lv_iinc (v := 3) (lv' := [(2, .int 3), (1, .int (((0 + (sh_X5_left sv 0)) + (sh_X5_left sv 1)) + (sh_X5_left sv 2))), (0, .ref h0)]) hx hb dX5_allLeft_17 hl (k := 1) rfl (by decide) (by decide) rfl (fun ls hl => ?_)
  refine lv_goto (tgt := 4) hx hb dX5_allLeft_20 (by decide) ?_
  refine lv_iload_n hx hb dX5_allLeft_4 rfl (lv_at hl 0 rfl) ?_
  refine lv_iconst (v := 4) hx hb dX5_allLeft_5 (by decide) ?_
  refine lv_icmp_ge (tgt := 23) hx hb dX5_allLeft_6 (by decide) (fun c9 => absurd c9 (by decide)) (fun _ => ?_)
  refine lv_iload_n hx hb dX5_allLeft_9 rfl (lv_at hl 1 rfl) ?_
  refine lv_aload_n hx hb dX5_allLeft_10 rfl (lv_at hl 2 rfl) ?_
  refine lv_iload_n hx hb dX5_allLeft_11 rfl (lv_at hl 0 rfl) ?_
  have hPs := k_self hP
  have hDs := k_selfD hD
  refine k_behi (X := []) (Y := []) (va_runV (As := [.int 3]) (rest := [.int (((0 + (sh_X5_left sv 0)) + (sh_X5_left sv 1)) + (sh_X5_left sv 2))]) ⟨hx, hb, hml, hown, hts⟩ (c_X5_left l D cI cC cQ H.size h0 a sv pa pn sn kp pd ln so po wr lt fr sc tm hd st 3 ((k_in (by decide))) (hiv)) (kcwV hts wd_ml_RX5_131 wd_im_yX5_left wd_sel_yX5_left wd_ini_RX5 wd_code_yX5_left rfl rfl rfl hd_X5_left ⟨Nat.le_of_ble_eq_true rfl, Nat.le_of_ble_eq_true rfl⟩) ⟨in_blind, va_recv hK (pa_l (pa_r hPs)) (ci := 5) (q0 := 0) rfl rfl, k_pre hK (pa_l (pa_r hPs)) (da_l (da_r hDs)) hN⟩ rfl rfl hl.1 rfl (lv_room (Nat.le_of_ble_eq_true rfl)) dX5_allLeft_12 ⟨Nat.le_of_ble_eq_true rfl, Nat.le_of_ble_eq_true rfl⟩) hPs hDs hS hA (fun r10 u11 H locs hw12 hP hD hS => ?_)
  have hP := k_unP hP
  have hD := k_unD hD
  have hP : va_P D vwCl (MO cI h0 a sv pa pn sn kp pd ln so po wr lt fr sc tm hd st) H := hP
  have hD : va_D A (MO cI h0 a sv pa pn sn kp pd ln so po wr lt fr sc tm hd st) := hD
  have hw12 : r10 = (sh_X5_left sv 3) := hw12
  subst hw12
  refine lv_iadd hx hb dX5_allLeft_15 ?_
  refine lv_istore_n (lv' := [(1, .int ((((0 + (sh_X5_left sv 0)) + (sh_X5_left sv 1)) + (sh_X5_left sv 2)) + (sh_X5_left sv 3))), (2, .int 3), (0, .ref h0)]) hx hb dX5_allLeft_16 rfl hl (by decide) rfl (fun ls hl => ?_)
  refine lv_iinc (v := 4) (lv' := [(2, .int 4), (1, .int ((((0 + (sh_X5_left sv 0)) + (sh_X5_left sv 1)) + (sh_X5_left sv 2)) + (sh_X5_left sv 3))), (0, .ref h0)]) hx hb dX5_allLeft_17 hl (k := 1) rfl (by decide) (by decide) rfl (fun ls hl => ?_)
  refine lv_goto (tgt := 4) hx hb dX5_allLeft_20 (by decide) ?_
  refine lv_iload_n hx hb dX5_allLeft_4 rfl (lv_at hl 0 rfl) ?_
  refine lv_iconst (v := 4) hx hb dX5_allLeft_5 (by decide) ?_
  refine lv_icmp_ge (tgt := 23) hx hb dX5_allLeft_6 (by decide) (fun _ => ?_) (fun c9 => absurd c9 (by decide))
  refine lv_iload_n hx hb dX5_allLeft_23 rfl (lv_at hl 1 rfl) ?_
  exact hret _ _ _ _ (((((0 + (sh_X5_left sv 0)) + (sh_X5_left sv 1)) + (sh_X5_left sv 2)) + (sh_X5_left sv 3))) () dX5_allLeft_24 rfl (hq.symm.trans hX) hP hD hS
def sh_X5_boasts (sv : Nat → Int32) : Int32 := (kb (α := (Int32)) (if (sh_X5_left sv 0) ≤ (sh_X5_tonerOf sv 0) then 0 else 1) (fun z_v9 => (kb (α := (Int32)) (if (sh_X5_left sv 1) ≤ (sh_X5_tonerOf sv 1) then 0 else 1) (fun z_v18 => (kb (α := (Int32)) (if (sh_X5_left sv 2) ≤ (sh_X5_tonerOf sv 2) then 0 else 1) (fun z_v27 => (kb (α := (Int32)) (if (sh_X5_left sv 3) ≤ (sh_X5_tonerOf sv 3) then 0 else 1) (fun z_v36 => ((((0 + z_v9) + z_v18) + z_v27) + z_v36)))))))))
abbrev rm_X5_boasts : Room := { frames := 3, cells := 0, slots := 0, locals := 63 }
theorem hd_X5_boasts : hdT yX5_boasts 0 := by decide +kernel
set_option maxHeartbeats 40000000 in
set_option maxRecDepth 100000 in
theorem c_X5_boasts (l : Launch) (D : va_G) (cI cC cQ : ClassId) (sz : Nat) (h0 : Nat) (a : Nat → Nat) (sv : Nat → Int32) (pa : Nat → Int32) (pn : Int32) (sn : Nat → Int32) (kp : Int32) (pd : Nat → Int32) (ln : Int32) (so : Nat → Int32) (po : Int32) (wr : Int32) (lt : Int32) (fr : Int32) (sc : Int32) (tm : Int32) (hd : Int32) (st : Int32)  (hiv : iv sv) : Met l yX5_boasts (wsO yX5_boasts cX5_boasts 3 (some .int)) rm_X5_boasts (va_Pc [.ref h0] (inW D (TYS cI cC cQ) (MO cI h0 a sv pa pn sn kp pd ln so po wr lt fr sc tm hd st) sz)) (va_Qi (fun (r : Int32) (_ : Unit) => r = sh_X5_boasts sv) (fun (u : Unit) => atW D (TYS cI cC cQ) (va_A (MO cI h0 a sv pa pn sn kp pd ln so po wr lt fr sc tm hd st) sz) (MO cI h0 a sv pa pn sn kp pd ln so po wr lt fr sc tm hd st)) (va_A (MO cI h0 a sv pa pn sn kp pd ln so po wr lt fr sc tm hd st) sz)) 0 0 (va_A (MO cI h0 a sv pa pn sn kp pd ln so po wr lt fr sc tm hd st) sz) := by
  refine k_meti .int rfl (by decide) (Nat.le_of_ble_eq_true rfl) ?_
  intro p e s m args below meth c A ls Q H locs hargs hret hx hb hts hown hml hname hN hA hS hP hK hD hl
  have hl : lv_has ls 3 [(0, .ref h0)] := hl
  obtain ⟨Xq, hX⟩ : ∃ Xq, Xq = sh_X5_boasts sv := ⟨_, rfl⟩
  have hq : Xq = (kb (α := (Int32)) (if (sh_X5_left sv 0) ≤ (sh_X5_tonerOf sv 0) then 0 else 1) (fun z_v9 => (kb (α := (Int32)) (if (sh_X5_left sv 1) ≤ (sh_X5_tonerOf sv 1) then 0 else 1) (fun z_v18 => (kb (α := (Int32)) (if (sh_X5_left sv 2) ≤ (sh_X5_tonerOf sv 2) then 0 else 1) (fun z_v27 => (kb (α := (Int32)) (if (sh_X5_left sv 3) ≤ (sh_X5_tonerOf sv 3) then 0 else 1) (fun z_v36 => ((((0 + z_v9) + z_v18) + z_v27) + z_v36))))))))) := hX
  refine lv_iconst (v := 0) hx hb dX5_boasts_0 (by decide) ?_
  refine lv_istore_n (lv' := [(1, .int 0), (0, .ref h0)]) hx hb dX5_boasts_1 rfl hl (by decide) rfl (fun ls hl => ?_)
  refine lv_iconst (v := 0) hx hb dX5_boasts_2 (by decide) ?_
  refine lv_istore_n (lv' := [(2, .int 0), (1, .int 0), (0, .ref h0)]) hx hb dX5_boasts_3 rfl hl (by decide) rfl (fun ls hl => ?_)
  refine lv_iload_n hx hb dX5_boasts_4 rfl (lv_at hl 0 rfl) ?_
  refine lv_iconst (v := 4) hx hb dX5_boasts_5 (by decide) ?_
  refine lv_icmp_ge (tgt := 36) hx hb dX5_boasts_6 (by decide) (fun c9 => absurd c9 (by decide)) (fun _ => ?_)
  refine lv_iload_n hx hb dX5_boasts_9 rfl (lv_at hl 1 rfl) ?_
  refine lv_aload_n hx hb dX5_boasts_10 rfl (lv_at hl 2 rfl) ?_
  refine lv_iload_n hx hb dX5_boasts_11 rfl (lv_at hl 0 rfl) ?_
  have hPs := k_self hP
  have hDs := k_selfD hD
  refine k_behi (X := []) (Y := []) (va_runV (As := [.int 0]) (rest := [.int 0]) ⟨hx, hb, hml, hown, hts⟩ (c_X5_left l D cI cC cQ H.size h0 a sv pa pn sn kp pd ln so po wr lt fr sc tm hd st 0 ((k_in (by decide))) (hiv)) (kcwV hts wd_ml_RX5_131 wd_im_yX5_left wd_sel_yX5_left wd_ini_RX5 wd_code_yX5_left rfl rfl rfl hd_X5_left ⟨Nat.le_of_ble_eq_true rfl, Nat.le_of_ble_eq_true rfl⟩) ⟨in_blind, va_recv hK (pa_l (pa_r hPs)) (ci := 5) (q0 := 0) rfl rfl, k_pre hK (pa_l (pa_r hPs)) (da_l (da_r hDs)) hN⟩ rfl rfl hl.1 rfl (lv_room (Nat.le_of_ble_eq_true rfl)) dX5_boasts_12 ⟨Nat.le_of_ble_eq_true rfl, Nat.le_of_ble_eq_true rfl⟩) hPs hDs hS hA (fun r1 u2 H locs hw3 hP hD hS => ?_)
  have hP := k_unP hP
  have hD := k_unD hD
  have hP : va_P D vwCl (MO cI h0 a sv pa pn sn kp pd ln so po wr lt fr sc tm hd st) H := hP
  have hD : va_D A (MO cI h0 a sv pa pn sn kp pd ln so po wr lt fr sc tm hd st) := hD
  have hw3 : r1 = (sh_X5_left sv 0) := hw3
  subst hw3
  refine lv_aload_n hx hb dX5_boasts_15 rfl (lv_at hl 2 rfl) ?_
  refine lv_iload_n hx hb dX5_boasts_16 rfl (lv_at hl 0 rfl) ?_
  have hPs := k_self hP
  have hDs := k_selfD hD
  refine k_behi (X := []) (Y := []) (va_runV (As := [.int 0]) (rest := [.int (sh_X5_left sv 0), .int 0]) ⟨hx, hb, hml, hown, hts⟩ (c_X5_tonerOf l D cI cC cQ H.size h0 a sv pa pn sn kp pd ln so po wr lt fr sc tm hd st 0 ((k_in (by decide)))) (kcwV hts wd_ml_RX5_37 wd_im_yX5_tonerOf wd_sel_yX5_tonerOf wd_ini_RX5 wd_code_yX5_tonerOf rfl rfl rfl hd_X5_tonerOf ⟨Nat.le_of_ble_eq_true rfl, Nat.le_of_ble_eq_true rfl⟩) ⟨in_blind, va_recv hK (pa_l (pa_r hPs)) (ci := 5) (q0 := 0) rfl rfl, k_pre hK (pa_l (pa_r hPs)) (da_l (da_r hDs)) hN⟩ rfl rfl hl.1 rfl (lv_room (Nat.le_of_ble_eq_true rfl)) dX5_boasts_17 ⟨Nat.le_of_ble_eq_true rfl, Nat.le_of_ble_eq_true rfl⟩) hPs hDs hS hA (fun r4 u5 H locs hw6 hP hD hS => ?_)
  have hP := k_unP hP
  have hD := k_unD hD
  have hP : va_P D vwCl (MO cI h0 a sv pa pn sn kp pd ln so po wr lt fr sc tm hd st) H := hP
  have hD : va_D A (MO cI h0 a sv pa pn sn kp pd ln so po wr lt fr sc tm hd st) := hD
  have hw6 : r4 = (sh_X5_tonerOf sv 0) := hw6
  subst hw6
  have K : ∀ (v9 : Int32) (H : Heap) (locs : List Loc) (ls : Array Slot), v9 = (if (sh_X5_left sv 0) ≤ (sh_X5_tonerOf sv 0) then 0 else 1) → va_P D vwCl (MO cI h0 a sv pa pn sn kp pd ln so po wr lt fr sc tm hd st) H → va_D A (MO cI h0 a sv pa pn sn kp pd ln so po wr lt fr sc tm hd st) → va_S A s.heap H locs → lv_has ls 3 [(0, .ref h0), (1, .int 0), (2, .int 0)] → W p l e rm_X5_boasts s m args below meth c H locs 0 0 Q (F0 m 28 ls [.int v9, .int 0]) := by
    intro v9 H locs ls hv8 hP hD hS hl
    have hq := kb_to hq hv8
    refine lv_iadd hx hb dX5_boasts_28 ?_
    refine lv_istore_n (lv' := [(1, .int (0 + v9)), (0, .ref h0), (2, .int 0)]) hx hb dX5_boasts_29 rfl hl (by decide) rfl (fun ls hl => ?_)
    refine lv_iinc (v := 1) (lv' := [(2, .int 1), (1, .int (0 + v9)), (0, .ref h0)]) hx hb dX5_boasts_30 hl (k := 2) rfl (by decide) (by decide) rfl (fun ls hl => ?_)
    refine lv_goto (tgt := 4) hx hb dX5_boasts_33 (by decide) ?_
    refine lv_iload_n hx hb dX5_boasts_4 rfl (lv_at hl 0 rfl) ?_
    refine lv_iconst (v := 4) hx hb dX5_boasts_5 (by decide) ?_
    refine lv_icmp_ge (tgt := 36) hx hb dX5_boasts_6 (by decide) (fun c9 => absurd c9 (by decide)) (fun _ => ?_)
    refine lv_iload_n hx hb dX5_boasts_9 rfl (lv_at hl 1 rfl) ?_
    refine lv_aload_n hx hb dX5_boasts_10 rfl (lv_at hl 2 rfl) ?_
    refine lv_iload_n hx hb dX5_boasts_11 rfl (lv_at hl 0 rfl) ?_
    have hPs := k_self hP
    have hDs := k_selfD hD
    refine k_behi (X := []) (Y := []) (va_runV (As := [.int 1]) (rest := [.int (0 + v9)]) ⟨hx, hb, hml, hown, hts⟩ (c_X5_left l D cI cC cQ H.size h0 a sv pa pn sn kp pd ln so po wr lt fr sc tm hd st 1 ((k_in (by decide))) (hiv)) (kcwV hts wd_ml_RX5_131 wd_im_yX5_left wd_sel_yX5_left wd_ini_RX5 wd_code_yX5_left rfl rfl rfl hd_X5_left ⟨Nat.le_of_ble_eq_true rfl, Nat.le_of_ble_eq_true rfl⟩) ⟨in_blind, va_recv hK (pa_l (pa_r hPs)) (ci := 5) (q0 := 0) rfl rfl, k_pre hK (pa_l (pa_r hPs)) (da_l (da_r hDs)) hN⟩ rfl rfl hl.1 rfl (lv_room (Nat.le_of_ble_eq_true rfl)) dX5_boasts_12 ⟨Nat.le_of_ble_eq_true rfl, Nat.le_of_ble_eq_true rfl⟩) hPs hDs hS hA (fun r10 u11 H locs hw12 hP hD hS => ?_)
    have hP := k_unP hP
    have hD := k_unD hD
    have hP : va_P D vwCl (MO cI h0 a sv pa pn sn kp pd ln so po wr lt fr sc tm hd st) H := hP
    have hD : va_D A (MO cI h0 a sv pa pn sn kp pd ln so po wr lt fr sc tm hd st) := hD
    have hw12 : r10 = (sh_X5_left sv 1) := hw12
    subst hw12
    refine lv_aload_n hx hb dX5_boasts_15 rfl (lv_at hl 2 rfl) ?_
    refine lv_iload_n hx hb dX5_boasts_16 rfl (lv_at hl 0 rfl) ?_
    have hPs := k_self hP
    have hDs := k_selfD hD
    refine k_behi (X := []) (Y := []) (va_runV (As := [.int 1]) (rest := [.int (sh_X5_left sv 1), .int (0 + v9)]) ⟨hx, hb, hml, hown, hts⟩ (c_X5_tonerOf l D cI cC cQ H.size h0 a sv pa pn sn kp pd ln so po wr lt fr sc tm hd st 1 ((k_in (by decide)))) (kcwV hts wd_ml_RX5_37 wd_im_yX5_tonerOf wd_sel_yX5_tonerOf wd_ini_RX5 wd_code_yX5_tonerOf rfl rfl rfl hd_X5_tonerOf ⟨Nat.le_of_ble_eq_true rfl, Nat.le_of_ble_eq_true rfl⟩) ⟨in_blind, va_recv hK (pa_l (pa_r hPs)) (ci := 5) (q0 := 0) rfl rfl, k_pre hK (pa_l (pa_r hPs)) (da_l (da_r hDs)) hN⟩ rfl rfl hl.1 rfl (lv_room (Nat.le_of_ble_eq_true rfl)) dX5_boasts_17 ⟨Nat.le_of_ble_eq_true rfl, Nat.le_of_ble_eq_true rfl⟩) hPs hDs hS hA (fun r13 u14 H locs hw15 hP hD hS => ?_)
    have hP := k_unP hP
    have hD := k_unD hD
    have hP : va_P D vwCl (MO cI h0 a sv pa pn sn kp pd ln so po wr lt fr sc tm hd st) H := hP
    have hD : va_D A (MO cI h0 a sv pa pn sn kp pd ln so po wr lt fr sc tm hd st) := hD
    have hw15 : r13 = (sh_X5_tonerOf sv 1) := hw15
    subst hw15
    have K : ∀ (v18 : Int32) (H : Heap) (locs : List Loc) (ls : Array Slot), v18 = (if (sh_X5_left sv 1) ≤ (sh_X5_tonerOf sv 1) then 0 else 1) → va_P D vwCl (MO cI h0 a sv pa pn sn kp pd ln so po wr lt fr sc tm hd st) H → va_D A (MO cI h0 a sv pa pn sn kp pd ln so po wr lt fr sc tm hd st) → va_S A s.heap H locs → lv_has ls 3 [(0, .ref h0), (1, .int (0 + v9)), (2, .int 1)] → W p l e rm_X5_boasts s m args below meth c H locs 0 0 Q (F0 m 28 ls [.int v18, .int (0 + v9)]) := by
      intro v18 H locs ls hv17 hP hD hS hl
      have hq := kb_to hq hv17
      refine lv_iadd hx hb dX5_boasts_28 ?_
      refine lv_istore_n (lv' := [(1, .int ((0 + v9) + v18)), (0, .ref h0), (2, .int 1)]) hx hb dX5_boasts_29 rfl hl (by decide) rfl (fun ls hl => ?_)
      refine lv_iinc (v := 2) (lv' := [(2, .int 2), (1, .int ((0 + v9) + v18)), (0, .ref h0)]) hx hb dX5_boasts_30 hl (k := 2) rfl (by decide) (by decide) rfl (fun ls hl => ?_)
      refine lv_goto (tgt := 4) hx hb dX5_boasts_33 (by decide) ?_
      refine lv_iload_n hx hb dX5_boasts_4 rfl (lv_at hl 0 rfl) ?_
      refine lv_iconst (v := 4) hx hb dX5_boasts_5 (by decide) ?_
      refine lv_icmp_ge (tgt := 36) hx hb dX5_boasts_6 (by decide) (fun c9 => absurd c9 (by decide)) (fun _ => ?_)
      refine lv_iload_n hx hb dX5_boasts_9 rfl (lv_at hl 1 rfl) ?_
      refine lv_aload_n hx hb dX5_boasts_10 rfl (lv_at hl 2 rfl) ?_
      refine lv_iload_n hx hb dX5_boasts_11 rfl (lv_at hl 0 rfl) ?_
      have hPs := k_self hP
      have hDs := k_selfD hD
      refine k_behi (X := []) (Y := []) (va_runV (As := [.int 2]) (rest := [.int ((0 + v9) + v18)]) ⟨hx, hb, hml, hown, hts⟩ (c_X5_left l D cI cC cQ H.size h0 a sv pa pn sn kp pd ln so po wr lt fr sc tm hd st 2 ((k_in (by decide))) (hiv)) (kcwV hts wd_ml_RX5_131 wd_im_yX5_left wd_sel_yX5_left wd_ini_RX5 wd_code_yX5_left rfl rfl rfl hd_X5_left ⟨Nat.le_of_ble_eq_true rfl, Nat.le_of_ble_eq_true rfl⟩) ⟨in_blind, va_recv hK (pa_l (pa_r hPs)) (ci := 5) (q0 := 0) rfl rfl, k_pre hK (pa_l (pa_r hPs)) (da_l (da_r hDs)) hN⟩ rfl rfl hl.1 rfl (lv_room (Nat.le_of_ble_eq_true rfl)) dX5_boasts_12 ⟨Nat.le_of_ble_eq_true rfl, Nat.le_of_ble_eq_true rfl⟩) hPs hDs hS hA (fun r19 u20 H locs hw21 hP hD hS => ?_)
      have hP := k_unP hP
      have hD := k_unD hD
      have hP : va_P D vwCl (MO cI h0 a sv pa pn sn kp pd ln so po wr lt fr sc tm hd st) H := hP
      have hD : va_D A (MO cI h0 a sv pa pn sn kp pd ln so po wr lt fr sc tm hd st) := hD
      have hw21 : r19 = (sh_X5_left sv 2) := hw21
      subst hw21
      refine lv_aload_n hx hb dX5_boasts_15 rfl (lv_at hl 2 rfl) ?_
      refine lv_iload_n hx hb dX5_boasts_16 rfl (lv_at hl 0 rfl) ?_
      have hPs := k_self hP
      have hDs := k_selfD hD
      refine k_behi (X := []) (Y := []) (va_runV (As := [.int 2]) (rest := [.int (sh_X5_left sv 2), .int ((0 + v9) + v18)]) ⟨hx, hb, hml, hown, hts⟩ (c_X5_tonerOf l D cI cC cQ H.size h0 a sv pa pn sn kp pd ln so po wr lt fr sc tm hd st 2 ((k_in (by decide)))) (kcwV hts wd_ml_RX5_37 wd_im_yX5_tonerOf wd_sel_yX5_tonerOf wd_ini_RX5 wd_code_yX5_tonerOf rfl rfl rfl hd_X5_tonerOf ⟨Nat.le_of_ble_eq_true rfl, Nat.le_of_ble_eq_true rfl⟩) ⟨in_blind, va_recv hK (pa_l (pa_r hPs)) (ci := 5) (q0 := 0) rfl rfl, k_pre hK (pa_l (pa_r hPs)) (da_l (da_r hDs)) hN⟩ rfl rfl hl.1 rfl (lv_room (Nat.le_of_ble_eq_true rfl)) dX5_boasts_17 ⟨Nat.le_of_ble_eq_true rfl, Nat.le_of_ble_eq_true rfl⟩) hPs hDs hS hA (fun r22 u23 H locs hw24 hP hD hS => ?_)
      have hP := k_unP hP
      have hD := k_unD hD
      have hP : va_P D vwCl (MO cI h0 a sv pa pn sn kp pd ln so po wr lt fr sc tm hd st) H := hP
      have hD : va_D A (MO cI h0 a sv pa pn sn kp pd ln so po wr lt fr sc tm hd st) := hD
      have hw24 : r22 = (sh_X5_tonerOf sv 2) := hw24
      subst hw24
      have K : ∀ (v27 : Int32) (H : Heap) (locs : List Loc) (ls : Array Slot), v27 = (if (sh_X5_left sv 2) ≤ (sh_X5_tonerOf sv 2) then 0 else 1) → va_P D vwCl (MO cI h0 a sv pa pn sn kp pd ln so po wr lt fr sc tm hd st) H → va_D A (MO cI h0 a sv pa pn sn kp pd ln so po wr lt fr sc tm hd st) → va_S A s.heap H locs → lv_has ls 3 [(0, .ref h0), (1, .int ((0 + v9) + v18)), (2, .int 2)] → W p l e rm_X5_boasts s m args below meth c H locs 0 0 Q (F0 m 28 ls [.int v27, .int ((0 + v9) + v18)]) := by
        intro v27 H locs ls hv26 hP hD hS hl
        have hq := kb_to hq hv26
        refine lv_iadd hx hb dX5_boasts_28 ?_
        refine lv_istore_n (lv' := [(1, .int (((0 + v9) + v18) + v27)), (0, .ref h0), (2, .int 2)]) hx hb dX5_boasts_29 rfl hl (by decide) rfl (fun ls hl => ?_)
        refine lv_iinc (v := 3) (lv' := [(2, .int 3), (1, .int (((0 + v9) + v18) + v27)), (0, .ref h0)]) hx hb dX5_boasts_30 hl (k := 2) rfl (by decide) (by decide) rfl (fun ls hl => ?_)
        refine lv_goto (tgt := 4) hx hb dX5_boasts_33 (by decide) ?_
        refine lv_iload_n hx hb dX5_boasts_4 rfl (lv_at hl 0 rfl) ?_
        refine lv_iconst (v := 4) hx hb dX5_boasts_5 (by decide) ?_
        refine lv_icmp_ge (tgt := 36) hx hb dX5_boasts_6 (by decide) (fun c9 => absurd c9 (by decide)) (fun _ => ?_)
        refine lv_iload_n hx hb dX5_boasts_9 rfl (lv_at hl 1 rfl) ?_
        refine lv_aload_n hx hb dX5_boasts_10 rfl (lv_at hl 2 rfl) ?_
        refine lv_iload_n hx hb dX5_boasts_11 rfl (lv_at hl 0 rfl) ?_
        have hPs := k_self hP
        have hDs := k_selfD hD
        refine k_behi (X := []) (Y := []) (va_runV (As := [.int 3]) (rest := [.int (((0 + v9) + v18) + v27)]) ⟨hx, hb, hml, hown, hts⟩ (c_X5_left l D cI cC cQ H.size h0 a sv pa pn sn kp pd ln so po wr lt fr sc tm hd st 3 ((k_in (by decide))) (hiv)) (kcwV hts wd_ml_RX5_131 wd_im_yX5_left wd_sel_yX5_left wd_ini_RX5 wd_code_yX5_left rfl rfl rfl hd_X5_left ⟨Nat.le_of_ble_eq_true rfl, Nat.le_of_ble_eq_true rfl⟩) ⟨in_blind, va_recv hK (pa_l (pa_r hPs)) (ci := 5) (q0 := 0) rfl rfl, k_pre hK (pa_l (pa_r hPs)) (da_l (da_r hDs)) hN⟩ rfl rfl hl.1 rfl (lv_room (Nat.le_of_ble_eq_true rfl)) dX5_boasts_12 ⟨Nat.le_of_ble_eq_true rfl, Nat.le_of_ble_eq_true rfl⟩) hPs hDs hS hA (fun r28 u29 H locs hw30 hP hD hS => ?_)
        have hP := k_unP hP
        have hD := k_unD hD
        have hP : va_P D vwCl (MO cI h0 a sv pa pn sn kp pd ln so po wr lt fr sc tm hd st) H := hP
        have hD : va_D A (MO cI h0 a sv pa pn sn kp pd ln so po wr lt fr sc tm hd st) := hD
        have hw30 : r28 = (sh_X5_left sv 3) := hw30
        subst hw30
        refine lv_aload_n hx hb dX5_boasts_15 rfl (lv_at hl 2 rfl) ?_
        refine lv_iload_n hx hb dX5_boasts_16 rfl (lv_at hl 0 rfl) ?_
        have hPs := k_self hP
        have hDs := k_selfD hD
        refine k_behi (X := []) (Y := []) (va_runV (As := [.int 3]) (rest := [.int (sh_X5_left sv 3), .int (((0 + v9) + v18) + v27)]) ⟨hx, hb, hml, hown, hts⟩ (c_X5_tonerOf l D cI cC cQ H.size h0 a sv pa pn sn kp pd ln so po wr lt fr sc tm hd st 3 ((k_in (by decide)))) (kcwV hts wd_ml_RX5_37 wd_im_yX5_tonerOf wd_sel_yX5_tonerOf wd_ini_RX5 wd_code_yX5_tonerOf rfl rfl rfl hd_X5_tonerOf ⟨Nat.le_of_ble_eq_true rfl, Nat.le_of_ble_eq_true rfl⟩) ⟨in_blind, va_recv hK (pa_l (pa_r hPs)) (ci := 5) (q0 := 0) rfl rfl, k_pre hK (pa_l (pa_r hPs)) (da_l (da_r hDs)) hN⟩ rfl rfl hl.1 rfl (lv_room (Nat.le_of_ble_eq_true rfl)) dX5_boasts_17 ⟨Nat.le_of_ble_eq_true rfl, Nat.le_of_ble_eq_true rfl⟩) hPs hDs hS hA (fun r31 u32 H locs hw33 hP hD hS => ?_)
        have hP := k_unP hP
        have hD := k_unD hD
        have hP : va_P D vwCl (MO cI h0 a sv pa pn sn kp pd ln so po wr lt fr sc tm hd st) H := hP
        have hD : va_D A (MO cI h0 a sv pa pn sn kp pd ln so po wr lt fr sc tm hd st) := hD
        have hw33 : r31 = (sh_X5_tonerOf sv 3) := hw33
        subst hw33
        have K : ∀ (v36 : Int32) (H : Heap) (locs : List Loc) (ls : Array Slot), v36 = (if (sh_X5_left sv 3) ≤ (sh_X5_tonerOf sv 3) then 0 else 1) → va_P D vwCl (MO cI h0 a sv pa pn sn kp pd ln so po wr lt fr sc tm hd st) H → va_D A (MO cI h0 a sv pa pn sn kp pd ln so po wr lt fr sc tm hd st) → va_S A s.heap H locs → lv_has ls 3 [(0, .ref h0), (1, .int (((0 + v9) + v18) + v27)), (2, .int 3)] → W p l e rm_X5_boasts s m args below meth c H locs 0 0 Q (F0 m 28 ls [.int v36, .int (((0 + v9) + v18) + v27)]) := by
          intro v36 H locs ls hv35 hP hD hS hl
          have hq := kb_to hq hv35
          refine lv_iadd hx hb dX5_boasts_28 ?_
          refine lv_istore_n (lv' := [(1, .int ((((0 + v9) + v18) + v27) + v36)), (0, .ref h0), (2, .int 3)]) hx hb dX5_boasts_29 rfl hl (by decide) rfl (fun ls hl => ?_)
          refine lv_iinc (v := 4) (lv' := [(2, .int 4), (1, .int ((((0 + v9) + v18) + v27) + v36)), (0, .ref h0)]) hx hb dX5_boasts_30 hl (k := 2) rfl (by decide) (by decide) rfl (fun ls hl => ?_)
          refine lv_goto (tgt := 4) hx hb dX5_boasts_33 (by decide) ?_
          refine lv_iload_n hx hb dX5_boasts_4 rfl (lv_at hl 0 rfl) ?_
          refine lv_iconst (v := 4) hx hb dX5_boasts_5 (by decide) ?_
          refine lv_icmp_ge (tgt := 36) hx hb dX5_boasts_6 (by decide) (fun _ => ?_) (fun c9 => absurd c9 (by decide))
          refine lv_iload_n hx hb dX5_boasts_36 rfl (lv_at hl 1 rfl) ?_
          exact hret _ _ _ _ (((((0 + v9) + v18) + v27) + v36)) () dX5_boasts_37 rfl (hq.symm.trans hX) hP hD hS
        refine lv_icmp_le (tgt := 27) hx hb dX5_boasts_20 (by decide) (fun c34 => ?_) (fun c34 => ?_)
        · skip
          refine lv_iconst (v := 0) hx hb dX5_boasts_27 (by decide) ?_
          exact K (0) _ _ _ (by rw [if_pos c34]) hP hD hS (lv_sub hl [2, 1, 0] rfl)
        · skip
          refine lv_iconst (v := 1) hx hb dX5_boasts_23 (by decide) ?_
          refine lv_goto (tgt := 28) hx hb dX5_boasts_24 (by decide) ?_
          exact K (1) _ _ _ (by rw [if_neg c34]) hP hD hS (lv_sub hl [2, 1, 0] rfl)
      refine lv_icmp_le (tgt := 27) hx hb dX5_boasts_20 (by decide) (fun c25 => ?_) (fun c25 => ?_)
      · skip
        refine lv_iconst (v := 0) hx hb dX5_boasts_27 (by decide) ?_
        exact K (0) _ _ _ (by rw [if_pos c25]) hP hD hS (lv_sub hl [2, 1, 0] rfl)
      · skip
        refine lv_iconst (v := 1) hx hb dX5_boasts_23 (by decide) ?_
        refine lv_goto (tgt := 28) hx hb dX5_boasts_24 (by decide) ?_
        exact K (1) _ _ _ (by rw [if_neg c25]) hP hD hS (lv_sub hl [2, 1, 0] rfl)
    refine lv_icmp_le (tgt := 27) hx hb dX5_boasts_20 (by decide) (fun c16 => ?_) (fun c16 => ?_)
    · skip
      refine lv_iconst (v := 0) hx hb dX5_boasts_27 (by decide) ?_
      exact K (0) _ _ _ (by rw [if_pos c16]) hP hD hS (lv_sub hl [2, 1, 0] rfl)
    · skip
      refine lv_iconst (v := 1) hx hb dX5_boasts_23 (by decide) ?_
      refine lv_goto (tgt := 28) hx hb dX5_boasts_24 (by decide) ?_
      exact K (1) _ _ _ (by rw [if_neg c16]) hP hD hS (lv_sub hl [2, 1, 0] rfl)
  refine lv_icmp_le (tgt := 27) hx hb dX5_boasts_20 (by decide) (fun c7 => ?_) (fun c7 => ?_)
  · skip
    refine lv_iconst (v := 0) hx hb dX5_boasts_27 (by decide) ?_
    exact K (0) _ _ _ (by rw [if_pos c7]) hP hD hS (lv_sub hl [2, 1, 0] rfl)
  · skip
    refine lv_iconst (v := 1) hx hb dX5_boasts_23 (by decide) ?_
    refine lv_goto (tgt := 28) hx hb dX5_boasts_24 (by decide) ?_
    exact K (1) _ _ _ (by rw [if_neg c7]) hP hD hS (lv_sub hl [2, 1, 0] rfl)
def sh_X5_refill (sv : Nat → Int32) (pa : Nat → Int32) (pn : Int32) (x1 : Int32) (x2 : Int32) : Int32 × (Nat → Int32) × (Nat → Int32) × (Int32) := (if (sh_X5_isCup x1) = 0 then ((-1 : Int32), sv, pa, pn) else (if (sh_X5_in x2 1 6000) = 0 then ((-1 : Int32), sv, pa, pn) else (if (sh_X5_where sv x1) = (-1) then (if 0 < (6000 - (sh_X5_tonerOf sv x1)) then (kb (sh_X5_records sv pa pn) (fun z_f20 => (if (6000 - (sh_X5_tonerOf sv x1)) ≤ x2 then (kb (α := Nat → Int32) (upd sv (8 + x1).toNatClampNeg ((sv (8 + x1).toNatClampNeg) + (6000 - (sh_X5_tonerOf sv x1)))) (fun z_f23 => (kb (α := Nat → Int32) (upd z_f23 (0 + x1).toNatClampNeg 2) (fun z_f25 => (kb (α := Nat → Int32) (upd z_f25 (30 : Int32).toNatClampNeg ((z_f25 (30 : Int32).toNatClampNeg) + (6000 - (sh_X5_tonerOf sv x1)))) (fun z_f27 => ((6000 - (sh_X5_tonerOf sv x1)), z_f27, z_f20.1, z_f20.2))))))) else (kb (α := Nat → Int32) (upd sv (8 + x1).toNatClampNeg ((sv (8 + x1).toNatClampNeg) + x2)) (fun z_f29 => (kb (α := Nat → Int32) (upd z_f29 (0 + x1).toNatClampNeg 2) (fun z_f31 => (kb (α := Nat → Int32) (upd z_f31 (30 : Int32).toNatClampNeg ((z_f31 (30 : Int32).toNatClampNeg) + x2)) (fun z_f33 => (x2, z_f33, z_f20.1, z_f20.2)))))))))) else ((-3 : Int32), sv, pa, pn)) else ((-2 : Int32), sv, pa, pn))))
abbrev rm_X5_refill : Room := { frames := 2, cells := 0, slots := 0, locals := 42 }
theorem hd_X5_refill : hdT yX5_refill 2 := by decide +kernel
set_option maxHeartbeats 40000000 in
set_option maxRecDepth 100000 in
theorem c_X5_refill (l : Launch) (D : va_G) (cI cC cQ : ClassId) (sz : Nat) (h0 : Nat) (a : Nat → Nat) (sv : Nat → Int32) (pa : Nat → Int32) (pn : Int32) (sn : Nat → Int32) (kp : Int32) (pd : Nat → Int32) (ln : Int32) (so : Nat → Int32) (po : Int32) (wr : Int32) (lt : Int32) (fr : Int32) (sc : Int32) (tm : Int32) (hd : Int32) (st : Int32) (x1 : Int32) (x2 : Int32) (hpn0 : vp_in pn 5) : Met l yX5_refill (wsO yX5_refill cX5_refill 5 (some .int)) rm_X5_refill (va_Pc [.ref h0, .int x1, .int x2] (inW D (TYS cI cC cQ) (MO cI h0 a sv pa pn sn kp pd ln so po wr lt fr sc tm hd st) sz)) (va_Qi (fun (r : Int32) (u : (Nat → Int32) × (Nat → Int32) × (Int32)) => (r, u) = sh_X5_refill sv pa pn x1 x2) (fun (u : (Nat → Int32) × (Nat → Int32) × (Int32)) => atW D (TYS cI cC cQ) (va_A (MO cI h0 a sv pa pn sn kp pd ln so po wr lt fr sc tm hd st) sz) (MO cI h0 a u.1 u.2.1 u.2.2 sn kp pd ln so po wr lt fr sc tm hd st)) (va_A (MO cI h0 a sv pa pn sn kp pd ln so po wr lt fr sc tm hd st) sz)) 0 0 (va_A (MO cI h0 a sv pa pn sn kp pd ln so po wr lt fr sc tm hd st) sz) := by
  refine k_meti .int rfl (by decide) (Nat.le_of_ble_eq_true rfl) ?_
  intro p e s m args below meth c A ls Q H locs hargs hret hx hb hts hown hml hname hN hA hS hP hK hD hl
  have hl : lv_has ls 5 [(0, .ref h0), (1, .int x1), (2, .int x2)] := hl
  obtain ⟨Xq, hX⟩ : ∃ Xq, Xq = sh_X5_refill sv pa pn x1 x2 := ⟨_, rfl⟩
  have hq : Xq = (if (sh_X5_isCup x1) = 0 then ((-1 : Int32), sv, pa, pn) else (if (sh_X5_in x2 1 6000) = 0 then ((-1 : Int32), sv, pa, pn) else (if (sh_X5_where sv x1) = (-1) then (if 0 < (6000 - (sh_X5_tonerOf sv x1)) then (kb (sh_X5_records sv pa pn) (fun z_f20 => (if (6000 - (sh_X5_tonerOf sv x1)) ≤ x2 then (kb (α := Nat → Int32) (upd sv (8 + x1).toNatClampNeg ((sv (8 + x1).toNatClampNeg) + (6000 - (sh_X5_tonerOf sv x1)))) (fun z_f23 => (kb (α := Nat → Int32) (upd z_f23 (0 + x1).toNatClampNeg 2) (fun z_f25 => (kb (α := Nat → Int32) (upd z_f25 (30 : Int32).toNatClampNeg ((z_f25 (30 : Int32).toNatClampNeg) + (6000 - (sh_X5_tonerOf sv x1)))) (fun z_f27 => ((6000 - (sh_X5_tonerOf sv x1)), z_f27, z_f20.1, z_f20.2))))))) else (kb (α := Nat → Int32) (upd sv (8 + x1).toNatClampNeg ((sv (8 + x1).toNatClampNeg) + x2)) (fun z_f29 => (kb (α := Nat → Int32) (upd z_f29 (0 + x1).toNatClampNeg 2) (fun z_f31 => (kb (α := Nat → Int32) (upd z_f31 (30 : Int32).toNatClampNeg ((z_f31 (30 : Int32).toNatClampNeg) + x2)) (fun z_f33 => (x2, z_f33, z_f20.1, z_f20.2)))))))))) else ((-3 : Int32), sv, pa, pn)) else ((-2 : Int32), sv, pa, pn)))) := hX
  refine lv_iload_n hx hb dX5_refill_0 rfl (lv_at hl 1 rfl) ?_
  have hPs : va_P D vwCl ([] ++ ([] ++ (MO cI h0 a sv pa pn sn kp pd ln so po wr lt fr sc tm hd st))) H := hP
  have hDs : va_D A ([] ++ ([] ++ (MO cI h0 a sv pa pn sn kp pd ln so po wr lt fr sc tm hd st))) := hD
  refine k_behi (X := []) (Y := (MO cI h0 a sv pa pn sn kp pd ln so po wr lt fr sc tm hd st)) (va_runS (As := [.int x1]) (rest := []) ⟨hx, hb, hml, hown, hts⟩ (c_X5_isCup l D cI cC cQ H.size x1) (kcwS hts wd_ml_RX5_61 wd_st_yX5_isCup wd_ini_RX5 wd_code_yX5_isCup rfl rfl hd_X5_isCup ⟨Nat.le_of_ble_eq_true rfl, Nat.le_of_ble_eq_true rfl⟩) ⟨in_blind, k_pre hK (pa_l (pa_r hPs)) (da_l (da_r hDs)) hN⟩ rfl rfl hl.1 rfl (lv_room (Nat.le_of_ble_eq_true rfl)) dX5_refill_1 ⟨Nat.le_of_ble_eq_true rfl, Nat.le_of_ble_eq_true rfl⟩) hPs hDs hS hA (fun r1 u2 H locs hw3 hP hD hS => ?_)
  have hP : va_P D vwCl (MO cI h0 a sv pa pn sn kp pd ln so po wr lt fr sc tm hd st) H := hP
  have hD : va_D A (MO cI h0 a sv pa pn sn kp pd ln so po wr lt fr sc tm hd st) := hD
  have hw3 : r1 = (sh_X5_isCup x1) := hw3
  subst hw3
  refine lv_if_eq (tgt := 18) hx hb dX5_refill_4 (by decide) (fun c4 => ?_) (fun c4 => ?_)
  · have hq := it_pos hq c4
    refine lv_iconst (v := (-1)) hx hb dX5_refill_18 (by decide) ?_
    exact hret _ _ _ _ ((-1)) (sv, pa, pn) dX5_refill_19 rfl (hq.symm.trans hX) hP hD hS
  · have hq := it_neg hq c4
    refine lv_iload_n hx hb dX5_refill_7 rfl (lv_at hl 2 rfl) ?_
    refine lv_iconst (v := 1) hx hb dX5_refill_8 (by decide) ?_
    refine lv_sipush (v := 6000) hx hb dX5_refill_9 (by decide) ?_
    have hPs : va_P D vwCl ([] ++ ([] ++ (MO cI h0 a sv pa pn sn kp pd ln so po wr lt fr sc tm hd st))) H := hP
    have hDs : va_D A ([] ++ ([] ++ (MO cI h0 a sv pa pn sn kp pd ln so po wr lt fr sc tm hd st))) := hD
    refine k_behi (X := []) (Y := (MO cI h0 a sv pa pn sn kp pd ln so po wr lt fr sc tm hd st)) (va_runS (As := [.int x2, .int 1, .int 6000]) (rest := []) ⟨hx, hb, hml, hown, hts⟩ (c_X5_in l D cI cC cQ H.size x2 1 6000) (kcwS hts wd_ml_RX5_25 wd_st_yX5_in wd_ini_RX5 wd_code_yX5_in rfl rfl hd_X5_in ⟨Nat.le_of_ble_eq_true rfl, Nat.le_of_ble_eq_true rfl⟩) ⟨in_blind, k_pre hK (pa_l (pa_r hPs)) (da_l (da_r hDs)) hN⟩ rfl rfl hl.1 rfl (lv_room (Nat.le_of_ble_eq_true rfl)) dX5_refill_12 ⟨Nat.le_of_ble_eq_true rfl, Nat.le_of_ble_eq_true rfl⟩) hPs hDs hS hA (fun r5 u6 H locs hw7 hP hD hS => ?_)
    have hP : va_P D vwCl (MO cI h0 a sv pa pn sn kp pd ln so po wr lt fr sc tm hd st) H := hP
    have hD : va_D A (MO cI h0 a sv pa pn sn kp pd ln so po wr lt fr sc tm hd st) := hD
    have hw7 : r5 = (sh_X5_in x2 1 6000) := hw7
    subst hw7
    refine lv_if_ne (tgt := 20) hx hb dX5_refill_15 (by decide) (fun c8 => ?_) (fun c8 => ?_)
    · have hq := it_neg hq c8
      refine lv_aload_n hx hb dX5_refill_20 rfl (lv_at hl 0 rfl) ?_
      refine lv_iload_n hx hb dX5_refill_21 rfl (lv_at hl 1 rfl) ?_
      have hPs := k_self hP
      have hDs := k_selfD hD
      refine k_behi (X := []) (Y := []) (va_runV (As := [.int x1]) (rest := []) ⟨hx, hb, hml, hown, hts⟩ (c_X5_where l D cI cC cQ H.size h0 a sv pa pn sn kp pd ln so po wr lt fr sc tm hd st x1) (kcwV hts wd_ml_RX5_67 wd_im_yX5_where wd_sel_yX5_where wd_ini_RX5 wd_code_yX5_where rfl rfl rfl hd_X5_where ⟨Nat.le_of_ble_eq_true rfl, Nat.le_of_ble_eq_true rfl⟩) ⟨in_blind, va_recv hK (pa_l (pa_r hPs)) (ci := 5) (q0 := 0) rfl rfl, k_pre hK (pa_l (pa_r hPs)) (da_l (da_r hDs)) hN⟩ rfl rfl hl.1 rfl (lv_room (Nat.le_of_ble_eq_true rfl)) dX5_refill_22 ⟨Nat.le_of_ble_eq_true rfl, Nat.le_of_ble_eq_true rfl⟩) hPs hDs hS hA (fun r9 u10 H locs hw11 hP hD hS => ?_)
      have hP := k_unP hP
      have hD := k_unD hD
      have hP : va_P D vwCl (MO cI h0 a sv pa pn sn kp pd ln so po wr lt fr sc tm hd st) H := hP
      have hD : va_D A (MO cI h0 a sv pa pn sn kp pd ln so po wr lt fr sc tm hd st) := hD
      have hw11 : r9 = (sh_X5_where sv x1) := hw11
      subst hw11
      refine lv_iconst (v := (-1)) hx hb dX5_refill_25 (by decide) ?_
      refine lv_icmp_eq (tgt := 32) hx hb dX5_refill_26 (by decide) (fun c12 => ?_) (fun c12 => ?_)
      · have hq := it_pos hq c12
        refine lv_sipush (v := 6000) hx hb dX5_refill_32 (by decide) ?_
        refine lv_aload_n hx hb dX5_refill_35 rfl (lv_at hl 0 rfl) ?_
        refine lv_iload_n hx hb dX5_refill_36 rfl (lv_at hl 1 rfl) ?_
        have hPs := k_self hP
        have hDs := k_selfD hD
        refine k_behi (X := []) (Y := []) (va_runV (As := [.int x1]) (rest := [.int 6000]) ⟨hx, hb, hml, hown, hts⟩ (c_X5_tonerOf l D cI cC cQ H.size h0 a sv pa pn sn kp pd ln so po wr lt fr sc tm hd st x1 ((mIn4 c4))) (kcwV hts wd_ml_RX5_37 wd_im_yX5_tonerOf wd_sel_yX5_tonerOf wd_ini_RX5 wd_code_yX5_tonerOf rfl rfl rfl hd_X5_tonerOf ⟨Nat.le_of_ble_eq_true rfl, Nat.le_of_ble_eq_true rfl⟩) ⟨in_blind, va_recv hK (pa_l (pa_r hPs)) (ci := 5) (q0 := 0) rfl rfl, k_pre hK (pa_l (pa_r hPs)) (da_l (da_r hDs)) hN⟩ rfl rfl hl.1 rfl (lv_room (Nat.le_of_ble_eq_true rfl)) dX5_refill_37 ⟨Nat.le_of_ble_eq_true rfl, Nat.le_of_ble_eq_true rfl⟩) hPs hDs hS hA (fun r13 u14 H locs hw15 hP hD hS => ?_)
        have hP := k_unP hP
        have hD := k_unD hD
        have hP : va_P D vwCl (MO cI h0 a sv pa pn sn kp pd ln so po wr lt fr sc tm hd st) H := hP
        have hD : va_D A (MO cI h0 a sv pa pn sn kp pd ln so po wr lt fr sc tm hd st) := hD
        have hw15 : r13 = (sh_X5_tonerOf sv x1) := hw15
        subst hw15
        refine lv_isub hx hb dX5_refill_40 ?_
        refine lv_istore_n (lv' := [(3, .int (6000 - (sh_X5_tonerOf sv x1))), (0, .ref h0), (1, .int x1), (2, .int x2)]) hx hb dX5_refill_41 rfl hl (by decide) rfl (fun ls hl => ?_)
        refine lv_iload_n hx hb dX5_refill_42 rfl (lv_at hl 0 rfl) ?_
        refine lv_if_gt (tgt := 49) hx hb dX5_refill_43 (by decide) (fun c16 => ?_) (fun c16 => ?_)
        · have hq := it_pos hq c16
          refine lv_aload_n hx hb dX5_refill_49 rfl (lv_at hl 1 rfl) ?_
          have hPs := k_self hP
          have hDs := k_selfD hD
          refine k_behv (X := []) (Y := []) (va_runV (As := []) (rest := []) ⟨hx, hb, hml, hown, hts⟩ (c_X5_records l D cI cC cQ H.size h0 a sv pa pn sn kp pd ln so po wr lt fr sc tm hd st (hpn0)) (kcwV hts wd_ml_RX5_55 wd_im_yX5_records wd_sel_yX5_records wd_ini_RX5 wd_code_yX5_records rfl rfl rfl hd_X5_records ⟨Nat.le_of_ble_eq_true rfl, Nat.le_of_ble_eq_true rfl⟩) ⟨in_blind, va_recv hK (pa_l (pa_r hPs)) (ci := 5) (q0 := 0) rfl rfl, k_pre hK (pa_l (pa_r hPs)) (da_l (da_r hDs)) hN⟩ rfl rfl hl.1 rfl (lv_room (Nat.le_of_ble_eq_true rfl)) dX5_refill_50 ⟨Nat.le_of_ble_eq_true rfl, Nat.le_of_ble_eq_true rfl⟩) hPs hDs hS hA (fun u18 H locs hw19 hP hD hS => ?_)
          obtain ⟨f20, v21⟩ := u18
          have hP := k_unP hP
          have hD := k_unD hD
          have hP : va_P D vwCl (MO cI h0 a sv f20 v21 sn kp pd ln so po wr lt fr sc tm hd st) H := hP
          have hD : va_D A (MO cI h0 a sv f20 v21 sn kp pd ln so po wr lt fr sc tm hd st) := hD
          have hw19 : (f20, v21) = (sh_X5_records sv pa pn) := hw19
          have hq := kb_to hq hw19
          refine lv_iload_n hx hb dX5_refill_53 rfl (lv_at hl 3 rfl) ?_
          refine lv_iload_n hx hb dX5_refill_54 rfl (lv_at hl 0 rfl) ?_
          refine lv_icmp_ge (tgt := 62) hx hb dX5_refill_55 (by decide) (fun c22 => ?_) (fun c22 => ?_)
          · have hq := it_pos hq c22
            refine lv_iload_n hx hb dX5_refill_62 rfl (lv_at hl 0 rfl) ?_
            refine lv_istore (lv' := [(4, .int (6000 - (sh_X5_tonerOf sv x1))), (3, .int (6000 - (sh_X5_tonerOf sv x1))), (0, .ref h0), (1, .int x1), (2, .int x2)]) hx hb dX5_refill_63 hl (by decide) rfl (fun ls hl => ?_)
            refine lv_aload_n hx hb dX5_refill_65 rfl (lv_at hl 2 rfl) ?_
            refine va_get (D := D) (ci := 5) (v := .ref (a 0)) (C := RX5) (T := TX5) (N := 16) hx hb hts inA5 hown hK hP 0 rfl rfl 0 (by decide) (hts _ wd_fl_RX5_7) (fun _ h9 => h9) rfl dX5_refill_66 ?_
            refine lv_bipush (v := 8) hx hb dX5_refill_69 (by decide) ?_
            refine lv_iload_n hx hb dX5_refill_71 rfl (lv_at hl 3 rfl) ?_
            refine lv_iadd hx hb dX5_refill_72 ?_
            refine lv_dup2_11 hx hb dX5_refill_73 rfl rfl ?_
            refine va_iald hx hb hK hP 1 0 rfl rfl (vp_add (mIn4 c4) (by decide) (by decide) (by decide)) dX5_refill_74 ?_
            refine lv_iload hx hb dX5_refill_75 (lv_at hl 0 rfl) ?_
            refine lv_iadd hx hb dX5_refill_77 ?_
            refine va_iast hx hb hK hP hD hS 1 0 rfl rfl (vp_add (mIn4 c4) (by decide) (by decide) (by decide)) dX5_refill_78 (fun H locs hP hD hS => ?_)
            have hP : va_P D vwCl (MO cI h0 a (upd sv (8 + x1).toNatClampNeg ((sv (8 + x1).toNatClampNeg) + (6000 - (sh_X5_tonerOf sv x1)))) f20 v21 sn kp pd ln so po wr lt fr sc tm hd st) H := hP
            have hD : va_D A (MO cI h0 a (upd sv (8 + x1).toNatClampNeg ((sv (8 + x1).toNatClampNeg) + (6000 - (sh_X5_tonerOf sv x1)))) f20 v21 sn kp pd ln so po wr lt fr sc tm hd st) := hD
            obtain ⟨f23, hf24⟩ : ∃ z : Nat → Int32, z = (upd sv (8 + x1).toNatClampNeg ((sv (8 + x1).toNatClampNeg) + (6000 - (sh_X5_tonerOf sv x1)))) := ⟨_, rfl⟩
            have hP : va_P D vwCl (MO cI h0 a f23 f20 v21 sn kp pd ln so po wr lt fr sc tm hd st) H := by rw [hf24]; exact hP
            have hD : va_D A (MO cI h0 a f23 f20 v21 sn kp pd ln so po wr lt fr sc tm hd st) := by rw [hf24]; exact hD
            have hq := kb_to hq hf24
            refine lv_aload_n hx hb dX5_refill_79 rfl (lv_at hl 2 rfl) ?_
            refine va_get (D := D) (ci := 5) (v := .ref (a 0)) (C := RX5) (T := TX5) (N := 16) hx hb hts inA5 hown hK hP 0 rfl rfl 0 (by decide) (hts _ wd_fl_RX5_7) (fun _ h9 => h9) rfl dX5_refill_80 ?_
            refine lv_iconst (v := 0) hx hb dX5_refill_83 (by decide) ?_
            refine lv_iload_n hx hb dX5_refill_84 rfl (lv_at hl 3 rfl) ?_
            refine lv_iadd hx hb dX5_refill_85 ?_
            refine lv_iconst (v := 2) hx hb dX5_refill_86 (by decide) ?_
            refine va_iast hx hb hK hP hD hS 1 0 rfl rfl (vp_add (mIn4 c4) (by decide) (by decide) (by decide)) dX5_refill_87 (fun H locs hP hD hS => ?_)
            have hP : va_P D vwCl (MO cI h0 a (upd f23 (0 + x1).toNatClampNeg 2) f20 v21 sn kp pd ln so po wr lt fr sc tm hd st) H := hP
            have hD : va_D A (MO cI h0 a (upd f23 (0 + x1).toNatClampNeg 2) f20 v21 sn kp pd ln so po wr lt fr sc tm hd st) := hD
            obtain ⟨f25, hf26⟩ : ∃ z : Nat → Int32, z = (upd f23 (0 + x1).toNatClampNeg 2) := ⟨_, rfl⟩
            have hP : va_P D vwCl (MO cI h0 a f25 f20 v21 sn kp pd ln so po wr lt fr sc tm hd st) H := by rw [hf26]; exact hP
            have hD : va_D A (MO cI h0 a f25 f20 v21 sn kp pd ln so po wr lt fr sc tm hd st) := by rw [hf26]; exact hD
            have hq := kb_to hq hf26
            refine lv_aload_n hx hb dX5_refill_88 rfl (lv_at hl 2 rfl) ?_
            refine va_get (D := D) (ci := 5) (v := .ref (a 0)) (C := RX5) (T := TX5) (N := 16) hx hb hts inA5 hown hK hP 0 rfl rfl 0 (by decide) (hts _ wd_fl_RX5_7) (fun _ h9 => h9) rfl dX5_refill_89 ?_
            refine lv_bipush (v := 30) hx hb dX5_refill_92 (by decide) ?_
            refine lv_dup2_11 hx hb dX5_refill_94 rfl rfl ?_
            refine va_iald hx hb hK hP 1 0 rfl rfl (k_in (by decide)) dX5_refill_95 ?_
            refine lv_iload hx hb dX5_refill_96 (lv_at hl 0 rfl) ?_
            refine lv_iadd hx hb dX5_refill_98 ?_
            refine va_iast hx hb hK hP hD hS 1 0 rfl rfl (k_in (by decide)) dX5_refill_99 (fun H locs hP hD hS => ?_)
            have hP : va_P D vwCl (MO cI h0 a (upd f25 (30 : Int32).toNatClampNeg ((f25 (30 : Int32).toNatClampNeg) + (6000 - (sh_X5_tonerOf sv x1)))) f20 v21 sn kp pd ln so po wr lt fr sc tm hd st) H := hP
            have hD : va_D A (MO cI h0 a (upd f25 (30 : Int32).toNatClampNeg ((f25 (30 : Int32).toNatClampNeg) + (6000 - (sh_X5_tonerOf sv x1)))) f20 v21 sn kp pd ln so po wr lt fr sc tm hd st) := hD
            obtain ⟨f27, hf28⟩ : ∃ z : Nat → Int32, z = (upd f25 (30 : Int32).toNatClampNeg ((f25 (30 : Int32).toNatClampNeg) + (6000 - (sh_X5_tonerOf sv x1)))) := ⟨_, rfl⟩
            have hP : va_P D vwCl (MO cI h0 a f27 f20 v21 sn kp pd ln so po wr lt fr sc tm hd st) H := by rw [hf28]; exact hP
            have hD : va_D A (MO cI h0 a f27 f20 v21 sn kp pd ln so po wr lt fr sc tm hd st) := by rw [hf28]; exact hD
            have hq := kb_to hq hf28
            refine lv_iload hx hb dX5_refill_100 (lv_at hl 0 rfl) ?_
            exact hret _ _ _ _ ((6000 - (sh_X5_tonerOf sv x1))) (f27, f20, v21) dX5_refill_102 rfl (hq.symm.trans hX) hP hD hS
          · have hq := it_neg hq c22
            refine lv_iload_n hx hb dX5_refill_58 rfl (lv_at hl 3 rfl) ?_
            refine lv_goto (tgt := 63) hx hb dX5_refill_59 (by decide) ?_
            refine lv_istore (lv' := [(4, .int x2), (3, .int (6000 - (sh_X5_tonerOf sv x1))), (0, .ref h0), (1, .int x1), (2, .int x2)]) hx hb dX5_refill_63 hl (by decide) rfl (fun ls hl => ?_)
            refine lv_aload_n hx hb dX5_refill_65 rfl (lv_at hl 2 rfl) ?_
            refine va_get (D := D) (ci := 5) (v := .ref (a 0)) (C := RX5) (T := TX5) (N := 16) hx hb hts inA5 hown hK hP 0 rfl rfl 0 (by decide) (hts _ wd_fl_RX5_7) (fun _ h9 => h9) rfl dX5_refill_66 ?_
            refine lv_bipush (v := 8) hx hb dX5_refill_69 (by decide) ?_
            refine lv_iload_n hx hb dX5_refill_71 rfl (lv_at hl 3 rfl) ?_
            refine lv_iadd hx hb dX5_refill_72 ?_
            refine lv_dup2_11 hx hb dX5_refill_73 rfl rfl ?_
            refine va_iald hx hb hK hP 1 0 rfl rfl (vp_add (mIn4 c4) (by decide) (by decide) (by decide)) dX5_refill_74 ?_
            refine lv_iload hx hb dX5_refill_75 (lv_at hl 0 rfl) ?_
            refine lv_iadd hx hb dX5_refill_77 ?_
            refine va_iast hx hb hK hP hD hS 1 0 rfl rfl (vp_add (mIn4 c4) (by decide) (by decide) (by decide)) dX5_refill_78 (fun H locs hP hD hS => ?_)
            have hP : va_P D vwCl (MO cI h0 a (upd sv (8 + x1).toNatClampNeg ((sv (8 + x1).toNatClampNeg) + x2)) f20 v21 sn kp pd ln so po wr lt fr sc tm hd st) H := hP
            have hD : va_D A (MO cI h0 a (upd sv (8 + x1).toNatClampNeg ((sv (8 + x1).toNatClampNeg) + x2)) f20 v21 sn kp pd ln so po wr lt fr sc tm hd st) := hD
            obtain ⟨f29, hf30⟩ : ∃ z : Nat → Int32, z = (upd sv (8 + x1).toNatClampNeg ((sv (8 + x1).toNatClampNeg) + x2)) := ⟨_, rfl⟩
            have hP : va_P D vwCl (MO cI h0 a f29 f20 v21 sn kp pd ln so po wr lt fr sc tm hd st) H := by rw [hf30]; exact hP
            have hD : va_D A (MO cI h0 a f29 f20 v21 sn kp pd ln so po wr lt fr sc tm hd st) := by rw [hf30]; exact hD
            have hq := kb_to hq hf30
            refine lv_aload_n hx hb dX5_refill_79 rfl (lv_at hl 2 rfl) ?_
            refine va_get (D := D) (ci := 5) (v := .ref (a 0)) (C := RX5) (T := TX5) (N := 16) hx hb hts inA5 hown hK hP 0 rfl rfl 0 (by decide) (hts _ wd_fl_RX5_7) (fun _ h9 => h9) rfl dX5_refill_80 ?_
            refine lv_iconst (v := 0) hx hb dX5_refill_83 (by decide) ?_
            refine lv_iload_n hx hb dX5_refill_84 rfl (lv_at hl 3 rfl) ?_
            refine lv_iadd hx hb dX5_refill_85 ?_
            refine lv_iconst (v := 2) hx hb dX5_refill_86 (by decide) ?_
            refine va_iast hx hb hK hP hD hS 1 0 rfl rfl (vp_add (mIn4 c4) (by decide) (by decide) (by decide)) dX5_refill_87 (fun H locs hP hD hS => ?_)
            have hP : va_P D vwCl (MO cI h0 a (upd f29 (0 + x1).toNatClampNeg 2) f20 v21 sn kp pd ln so po wr lt fr sc tm hd st) H := hP
            have hD : va_D A (MO cI h0 a (upd f29 (0 + x1).toNatClampNeg 2) f20 v21 sn kp pd ln so po wr lt fr sc tm hd st) := hD
            obtain ⟨f31, hf32⟩ : ∃ z : Nat → Int32, z = (upd f29 (0 + x1).toNatClampNeg 2) := ⟨_, rfl⟩
            have hP : va_P D vwCl (MO cI h0 a f31 f20 v21 sn kp pd ln so po wr lt fr sc tm hd st) H := by rw [hf32]; exact hP
            have hD : va_D A (MO cI h0 a f31 f20 v21 sn kp pd ln so po wr lt fr sc tm hd st) := by rw [hf32]; exact hD
            have hq := kb_to hq hf32
            refine lv_aload_n hx hb dX5_refill_88 rfl (lv_at hl 2 rfl) ?_
            refine va_get (D := D) (ci := 5) (v := .ref (a 0)) (C := RX5) (T := TX5) (N := 16) hx hb hts inA5 hown hK hP 0 rfl rfl 0 (by decide) (hts _ wd_fl_RX5_7) (fun _ h9 => h9) rfl dX5_refill_89 ?_
            refine lv_bipush (v := 30) hx hb dX5_refill_92 (by decide) ?_
            refine lv_dup2_11 hx hb dX5_refill_94 rfl rfl ?_
            refine va_iald hx hb hK hP 1 0 rfl rfl (k_in (by decide)) dX5_refill_95 ?_
            refine lv_iload hx hb dX5_refill_96 (lv_at hl 0 rfl) ?_
            refine lv_iadd hx hb dX5_refill_98 ?_
            refine va_iast hx hb hK hP hD hS 1 0 rfl rfl (k_in (by decide)) dX5_refill_99 (fun H locs hP hD hS => ?_)
            have hP : va_P D vwCl (MO cI h0 a (upd f31 (30 : Int32).toNatClampNeg ((f31 (30 : Int32).toNatClampNeg) + x2)) f20 v21 sn kp pd ln so po wr lt fr sc tm hd st) H := hP
            have hD : va_D A (MO cI h0 a (upd f31 (30 : Int32).toNatClampNeg ((f31 (30 : Int32).toNatClampNeg) + x2)) f20 v21 sn kp pd ln so po wr lt fr sc tm hd st) := hD
            obtain ⟨f33, hf34⟩ : ∃ z : Nat → Int32, z = (upd f31 (30 : Int32).toNatClampNeg ((f31 (30 : Int32).toNatClampNeg) + x2)) := ⟨_, rfl⟩
            have hP : va_P D vwCl (MO cI h0 a f33 f20 v21 sn kp pd ln so po wr lt fr sc tm hd st) H := by rw [hf34]; exact hP
            have hD : va_D A (MO cI h0 a f33 f20 v21 sn kp pd ln so po wr lt fr sc tm hd st) := by rw [hf34]; exact hD
            have hq := kb_to hq hf34
            refine lv_iload hx hb dX5_refill_100 (lv_at hl 0 rfl) ?_
            exact hret _ _ _ _ (x2) (f33, f20, v21) dX5_refill_102 rfl (hq.symm.trans hX) hP hD hS
        · have hq := it_neg hq c16
          refine lv_bipush (v := (-3)) hx hb dX5_refill_46 (by decide) ?_
          exact hret _ _ _ _ ((-3)) (sv, pa, pn) dX5_refill_48 rfl (hq.symm.trans hX) hP hD hS
      · have hq := it_neg hq c12
        refine lv_bipush (v := (-2)) hx hb dX5_refill_29 (by decide) ?_
        exact hret _ _ _ _ ((-2)) (sv, pa, pn) dX5_refill_31 rfl (hq.symm.trans hX) hP hD hS
    · have hq := it_pos hq c8
      refine lv_iconst (v := (-1)) hx hb dX5_refill_18 (by decide) ?_
      exact hret _ _ _ _ ((-1)) (sv, pa, pn) dX5_refill_19 rfl (hq.symm.trans hX) hP hD hS
def sh_X5_set (sv : Nat → Int32) (pa : Nat → Int32) (pn : Int32) (x1 : Int32) (x2 : Int32) : Int32 × (Nat → Int32) × (Nat → Int32) × (Int32) := (if (sh_X5_in x1 0 3) = 0 then ((-1 : Int32), sv, pa, pn) else (if (sh_X5_in x2 (sh_X5_lowest x1) (sh_X5_highest x1)) = 0 then ((-1 : Int32), sv, pa, pn) else (kb (sh_X5_records sv pa pn) (fun z_f18 => (kb (α := Nat → Int32) (upd sv (31 + x1).toNatClampNeg x2) (fun z_f20 => ((sv (31 + x1).toNatClampNeg), z_f20, z_f18.1, z_f18.2)))))))
abbrev rm_X5_set : Room := { frames := 1, cells := 0, slots := 0, locals := 22 }
theorem hd_X5_set : hdT yX5_set 2 := by decide +kernel
set_option maxHeartbeats 40000000 in
set_option maxRecDepth 100000 in
theorem c_X5_set (l : Launch) (D : va_G) (cI cC cQ : ClassId) (sz : Nat) (h0 : Nat) (a : Nat → Nat) (sv : Nat → Int32) (pa : Nat → Int32) (pn : Int32) (sn : Nat → Int32) (kp : Int32) (pd : Nat → Int32) (ln : Int32) (so : Nat → Int32) (po : Int32) (wr : Int32) (lt : Int32) (fr : Int32) (sc : Int32) (tm : Int32) (hd : Int32) (st : Int32) (x1 : Int32) (x2 : Int32) (hpn0 : vp_in pn 5) : Met l yX5_set (wsO yX5_set cX5_set 4 (some .int)) rm_X5_set (va_Pc [.ref h0, .int x1, .int x2] (inW D (TYS cI cC cQ) (MO cI h0 a sv pa pn sn kp pd ln so po wr lt fr sc tm hd st) sz)) (va_Qi (fun (r : Int32) (u : (Nat → Int32) × (Nat → Int32) × (Int32)) => (r, u) = sh_X5_set sv pa pn x1 x2) (fun (u : (Nat → Int32) × (Nat → Int32) × (Int32)) => atW D (TYS cI cC cQ) (va_A (MO cI h0 a sv pa pn sn kp pd ln so po wr lt fr sc tm hd st) sz) (MO cI h0 a u.1 u.2.1 u.2.2 sn kp pd ln so po wr lt fr sc tm hd st)) (va_A (MO cI h0 a sv pa pn sn kp pd ln so po wr lt fr sc tm hd st) sz)) 0 0 (va_A (MO cI h0 a sv pa pn sn kp pd ln so po wr lt fr sc tm hd st) sz) := by
  refine k_meti .int rfl (by decide) (Nat.le_of_ble_eq_true rfl) ?_
  intro p e s m args below meth c A ls Q H locs hargs hret hx hb hts hown hml hname hN hA hS hP hK hD hl
  have hl : lv_has ls 4 [(0, .ref h0), (1, .int x1), (2, .int x2)] := hl
  obtain ⟨Xq, hX⟩ : ∃ Xq, Xq = sh_X5_set sv pa pn x1 x2 := ⟨_, rfl⟩
  have hq : Xq = (if (sh_X5_in x1 0 3) = 0 then ((-1 : Int32), sv, pa, pn) else (if (sh_X5_in x2 (sh_X5_lowest x1) (sh_X5_highest x1)) = 0 then ((-1 : Int32), sv, pa, pn) else (kb (sh_X5_records sv pa pn) (fun z_f18 => (kb (α := Nat → Int32) (upd sv (31 + x1).toNatClampNeg x2) (fun z_f20 => ((sv (31 + x1).toNatClampNeg), z_f20, z_f18.1, z_f18.2))))))) := hX
  refine lv_iload_n hx hb dX5_set_0 rfl (lv_at hl 1 rfl) ?_
  refine lv_iconst (v := 0) hx hb dX5_set_1 (by decide) ?_
  refine lv_iconst (v := 3) hx hb dX5_set_2 (by decide) ?_
  have hPs : va_P D vwCl ([] ++ ([] ++ (MO cI h0 a sv pa pn sn kp pd ln so po wr lt fr sc tm hd st))) H := hP
  have hDs : va_D A ([] ++ ([] ++ (MO cI h0 a sv pa pn sn kp pd ln so po wr lt fr sc tm hd st))) := hD
  refine k_behi (X := []) (Y := (MO cI h0 a sv pa pn sn kp pd ln so po wr lt fr sc tm hd st)) (va_runS (As := [.int x1, .int 0, .int 3]) (rest := []) ⟨hx, hb, hml, hown, hts⟩ (c_X5_in l D cI cC cQ H.size x1 0 3) (kcwS hts wd_ml_RX5_25 wd_st_yX5_in wd_ini_RX5 wd_code_yX5_in rfl rfl hd_X5_in ⟨Nat.le_of_ble_eq_true rfl, Nat.le_of_ble_eq_true rfl⟩) ⟨in_blind, k_pre hK (pa_l (pa_r hPs)) (da_l (da_r hDs)) hN⟩ rfl rfl hl.1 rfl (lv_room (Nat.le_of_ble_eq_true rfl)) dX5_set_3 ⟨Nat.le_of_ble_eq_true rfl, Nat.le_of_ble_eq_true rfl⟩) hPs hDs hS hA (fun r1 u2 H locs hw3 hP hD hS => ?_)
  have hP : va_P D vwCl (MO cI h0 a sv pa pn sn kp pd ln so po wr lt fr sc tm hd st) H := hP
  have hD : va_D A (MO cI h0 a sv pa pn sn kp pd ln so po wr lt fr sc tm hd st) := hD
  have hw3 : r1 = (sh_X5_in x1 0 3) := hw3
  subst hw3
  refine lv_if_eq (tgt := 24) hx hb dX5_set_6 (by decide) (fun c4 => ?_) (fun c4 => ?_)
  · have hq := it_pos hq c4
    refine lv_iconst (v := (-1)) hx hb dX5_set_24 (by decide) ?_
    exact hret _ _ _ _ ((-1)) (sv, pa, pn) dX5_set_25 rfl (hq.symm.trans hX) hP hD hS
  · have hq := it_neg hq c4
    refine lv_iload_n hx hb dX5_set_9 rfl (lv_at hl 2 rfl) ?_
    refine lv_iload_n hx hb dX5_set_10 rfl (lv_at hl 1 rfl) ?_
    have hPs : va_P D vwCl ([] ++ ([] ++ (MO cI h0 a sv pa pn sn kp pd ln so po wr lt fr sc tm hd st))) H := hP
    have hDs : va_D A ([] ++ ([] ++ (MO cI h0 a sv pa pn sn kp pd ln so po wr lt fr sc tm hd st))) := hD
    refine k_behi (X := []) (Y := (MO cI h0 a sv pa pn sn kp pd ln so po wr lt fr sc tm hd st)) (va_runS (As := [.int x1]) (rest := [.int x2]) ⟨hx, hb, hml, hown, hts⟩ (c_X5_lowest l D cI cC cQ H.size x1) (kcwS hts wd_ml_RX5_76 wd_st_yX5_lowest wd_ini_RX5 wd_code_yX5_lowest rfl rfl hd_X5_lowest ⟨Nat.le_of_ble_eq_true rfl, Nat.le_of_ble_eq_true rfl⟩) ⟨in_blind, k_pre hK (pa_l (pa_r hPs)) (da_l (da_r hDs)) hN⟩ rfl rfl hl.1 rfl (lv_room (Nat.le_of_ble_eq_true rfl)) dX5_set_11 ⟨Nat.le_of_ble_eq_true rfl, Nat.le_of_ble_eq_true rfl⟩) hPs hDs hS hA (fun r5 u6 H locs hw7 hP hD hS => ?_)
    have hP : va_P D vwCl (MO cI h0 a sv pa pn sn kp pd ln so po wr lt fr sc tm hd st) H := hP
    have hD : va_D A (MO cI h0 a sv pa pn sn kp pd ln so po wr lt fr sc tm hd st) := hD
    have hw7 : r5 = (sh_X5_lowest x1) := hw7
    subst hw7
    refine lv_iload_n hx hb dX5_set_14 rfl (lv_at hl 1 rfl) ?_
    have hPs : va_P D vwCl ([] ++ ([] ++ (MO cI h0 a sv pa pn sn kp pd ln so po wr lt fr sc tm hd st))) H := hP
    have hDs : va_D A ([] ++ ([] ++ (MO cI h0 a sv pa pn sn kp pd ln so po wr lt fr sc tm hd st))) := hD
    refine k_behi (X := []) (Y := (MO cI h0 a sv pa pn sn kp pd ln so po wr lt fr sc tm hd st)) (va_runS (As := [.int x1]) (rest := [.int (sh_X5_lowest x1), .int x2]) ⟨hx, hb, hml, hown, hts⟩ (c_X5_highest l D cI cC cQ H.size x1) (kcwS hts wd_ml_RX5_79 wd_st_yX5_highest wd_ini_RX5 wd_code_yX5_highest rfl rfl hd_X5_highest ⟨Nat.le_of_ble_eq_true rfl, Nat.le_of_ble_eq_true rfl⟩) ⟨in_blind, k_pre hK (pa_l (pa_r hPs)) (da_l (da_r hDs)) hN⟩ rfl rfl hl.1 rfl (lv_room (Nat.le_of_ble_eq_true rfl)) dX5_set_15 ⟨Nat.le_of_ble_eq_true rfl, Nat.le_of_ble_eq_true rfl⟩) hPs hDs hS hA (fun r8 u9 H locs hw10 hP hD hS => ?_)
    have hP : va_P D vwCl (MO cI h0 a sv pa pn sn kp pd ln so po wr lt fr sc tm hd st) H := hP
    have hD : va_D A (MO cI h0 a sv pa pn sn kp pd ln so po wr lt fr sc tm hd st) := hD
    have hw10 : r8 = (sh_X5_highest x1) := hw10
    subst hw10
    have hPs : va_P D vwCl ([] ++ ([] ++ (MO cI h0 a sv pa pn sn kp pd ln so po wr lt fr sc tm hd st))) H := hP
    have hDs : va_D A ([] ++ ([] ++ (MO cI h0 a sv pa pn sn kp pd ln so po wr lt fr sc tm hd st))) := hD
    refine k_behi (X := []) (Y := (MO cI h0 a sv pa pn sn kp pd ln so po wr lt fr sc tm hd st)) (va_runS (As := [.int x2, .int (sh_X5_lowest x1), .int (sh_X5_highest x1)]) (rest := []) ⟨hx, hb, hml, hown, hts⟩ (c_X5_in l D cI cC cQ H.size x2 (sh_X5_lowest x1) (sh_X5_highest x1)) (kcwS hts wd_ml_RX5_25 wd_st_yX5_in wd_ini_RX5 wd_code_yX5_in rfl rfl hd_X5_in ⟨Nat.le_of_ble_eq_true rfl, Nat.le_of_ble_eq_true rfl⟩) ⟨in_blind, k_pre hK (pa_l (pa_r hPs)) (da_l (da_r hDs)) hN⟩ rfl rfl hl.1 rfl (lv_room (Nat.le_of_ble_eq_true rfl)) dX5_set_18 ⟨Nat.le_of_ble_eq_true rfl, Nat.le_of_ble_eq_true rfl⟩) hPs hDs hS hA (fun r11 u12 H locs hw13 hP hD hS => ?_)
    have hP : va_P D vwCl (MO cI h0 a sv pa pn sn kp pd ln so po wr lt fr sc tm hd st) H := hP
    have hD : va_D A (MO cI h0 a sv pa pn sn kp pd ln so po wr lt fr sc tm hd st) := hD
    have hw13 : r11 = (sh_X5_in x2 (sh_X5_lowest x1) (sh_X5_highest x1)) := hw13
    subst hw13
    refine lv_if_ne (tgt := 26) hx hb dX5_set_21 (by decide) (fun c14 => ?_) (fun c14 => ?_)
    · have hq := it_neg hq c14
      refine lv_aload_n hx hb dX5_set_26 rfl (lv_at hl 0 rfl) ?_
      have hPs := k_self hP
      have hDs := k_selfD hD
      refine k_behv (X := []) (Y := []) (va_runV (As := []) (rest := []) ⟨hx, hb, hml, hown, hts⟩ (c_X5_records l D cI cC cQ H.size h0 a sv pa pn sn kp pd ln so po wr lt fr sc tm hd st (hpn0)) (kcwV hts wd_ml_RX5_55 wd_im_yX5_records wd_sel_yX5_records wd_ini_RX5 wd_code_yX5_records rfl rfl rfl hd_X5_records ⟨Nat.le_of_ble_eq_true rfl, Nat.le_of_ble_eq_true rfl⟩) ⟨in_blind, va_recv hK (pa_l (pa_r hPs)) (ci := 5) (q0 := 0) rfl rfl, k_pre hK (pa_l (pa_r hPs)) (da_l (da_r hDs)) hN⟩ rfl rfl hl.1 rfl (lv_room (Nat.le_of_ble_eq_true rfl)) dX5_set_27 ⟨Nat.le_of_ble_eq_true rfl, Nat.le_of_ble_eq_true rfl⟩) hPs hDs hS hA (fun u16 H locs hw17 hP hD hS => ?_)
      obtain ⟨f18, v19⟩ := u16
      have hP := k_unP hP
      have hD := k_unD hD
      have hP : va_P D vwCl (MO cI h0 a sv f18 v19 sn kp pd ln so po wr lt fr sc tm hd st) H := hP
      have hD : va_D A (MO cI h0 a sv f18 v19 sn kp pd ln so po wr lt fr sc tm hd st) := hD
      have hw17 : (f18, v19) = (sh_X5_records sv pa pn) := hw17
      have hq := kb_to hq hw17
      refine lv_aload_n hx hb dX5_set_30 rfl (lv_at hl 0 rfl) ?_
      refine va_get (D := D) (ci := 5) (v := .ref (a 0)) (C := RX5) (T := TX5) (N := 16) hx hb hts inA5 hown hK hP 0 rfl rfl 0 (by decide) (hts _ wd_fl_RX5_7) (fun _ h9 => h9) rfl dX5_set_31 ?_
      refine lv_bipush (v := 31) hx hb dX5_set_34 (by decide) ?_
      refine lv_iload_n hx hb dX5_set_36 rfl (lv_at hl 1 rfl) ?_
      refine lv_iadd hx hb dX5_set_37 ?_
      refine va_iald hx hb hK hP 1 0 rfl rfl (vp_add (inIn (n := 4) c4 (by decide)) (by decide) (by decide) (by decide)) dX5_set_38 ?_
      refine lv_istore_n (lv' := [(3, .int (sv (31 + x1).toNatClampNeg)), (0, .ref h0), (1, .int x1), (2, .int x2)]) hx hb dX5_set_39 rfl hl (by decide) rfl (fun ls hl => ?_)
      refine lv_aload_n hx hb dX5_set_40 rfl (lv_at hl 1 rfl) ?_
      refine va_get (D := D) (ci := 5) (v := .ref (a 0)) (C := RX5) (T := TX5) (N := 16) hx hb hts inA5 hown hK hP 0 rfl rfl 0 (by decide) (hts _ wd_fl_RX5_7) (fun _ h9 => h9) rfl dX5_set_41 ?_
      refine lv_bipush (v := 31) hx hb dX5_set_44 (by decide) ?_
      refine lv_iload_n hx hb dX5_set_46 rfl (lv_at hl 2 rfl) ?_
      refine lv_iadd hx hb dX5_set_47 ?_
      refine lv_iload_n hx hb dX5_set_48 rfl (lv_at hl 3 rfl) ?_
      refine va_iast hx hb hK hP hD hS 1 0 rfl rfl (vp_add (inIn (n := 4) c4 (by decide)) (by decide) (by decide) (by decide)) dX5_set_49 (fun H locs hP hD hS => ?_)
      have hP : va_P D vwCl (MO cI h0 a (upd sv (31 + x1).toNatClampNeg x2) f18 v19 sn kp pd ln so po wr lt fr sc tm hd st) H := hP
      have hD : va_D A (MO cI h0 a (upd sv (31 + x1).toNatClampNeg x2) f18 v19 sn kp pd ln so po wr lt fr sc tm hd st) := hD
      obtain ⟨f20, hf21⟩ : ∃ z : Nat → Int32, z = (upd sv (31 + x1).toNatClampNeg x2) := ⟨_, rfl⟩
      have hP : va_P D vwCl (MO cI h0 a f20 f18 v19 sn kp pd ln so po wr lt fr sc tm hd st) H := by rw [hf21]; exact hP
      have hD : va_D A (MO cI h0 a f20 f18 v19 sn kp pd ln so po wr lt fr sc tm hd st) := by rw [hf21]; exact hD
      have hq := kb_to hq hf21
      refine lv_iload_n hx hb dX5_set_50 rfl (lv_at hl 0 rfl) ?_
      exact hret _ _ _ _ ((sv (31 + x1).toNatClampNeg)) (f20, f18, v19) dX5_set_51 rfl (hq.symm.trans hX) hP hD hS
    · have hq := it_pos hq c14
      refine lv_iconst (v := (-1)) hx hb dX5_set_24 (by decide) ?_
      exact hret _ _ _ _ ((-1)) (sv, pa, pn) dX5_set_25 rfl (hq.symm.trans hX) hP hD hS
def sh_X5_takeOut (sv : Nat → Int32) (pa : Nat → Int32) (pn : Int32) (x1 : Int32) : Int32 × (Nat → Int32) × (Nat → Int32) × (Int32) := (if (sh_X5_isPrinter x1) = 0 then ((-1 : Int32), sv, pa, pn) else (if (sv (16 + x1).toNatClampNeg) = (-1) then ((-2 : Int32), sv, pa, pn) else (kb (sh_X5_records sv pa pn) (fun z_f9 => (kb (sh_X5_takes sv x1) (fun z_r11 => ((sv (16 + x1).toNatClampNeg), z_r11.2, z_f9.1, z_f9.2)))))))
abbrev rm_X5_takeOut : Room := { frames := 2, cells := 0, slots := 0, locals := 42 }
theorem hd_X5_takeOut : hdT yX5_takeOut 1 := by decide +kernel
set_option maxHeartbeats 40000000 in
set_option maxRecDepth 100000 in
theorem c_X5_takeOut (l : Launch) (D : va_G) (cI cC cQ : ClassId) (sz : Nat) (h0 : Nat) (a : Nat → Nat) (sv : Nat → Int32) (pa : Nat → Int32) (pn : Int32) (sn : Nat → Int32) (kp : Int32) (pd : Nat → Int32) (ln : Int32) (so : Nat → Int32) (po : Int32) (wr : Int32) (lt : Int32) (fr : Int32) (sc : Int32) (tm : Int32) (hd : Int32) (st : Int32) (x1 : Int32) (hpn0 : vp_in pn 5) (hiv : iv sv) : Met l yX5_takeOut (wsO yX5_takeOut cX5_takeOut 4 (some .int)) rm_X5_takeOut (va_Pc [.ref h0, .int x1] (inW D (TYS cI cC cQ) (MO cI h0 a sv pa pn sn kp pd ln so po wr lt fr sc tm hd st) sz)) (va_Qi (fun (r : Int32) (u : (Nat → Int32) × (Nat → Int32) × (Int32)) => (r, u) = sh_X5_takeOut sv pa pn x1) (fun (u : (Nat → Int32) × (Nat → Int32) × (Int32)) => atW D (TYS cI cC cQ) (va_A (MO cI h0 a sv pa pn sn kp pd ln so po wr lt fr sc tm hd st) sz) (MO cI h0 a u.1 u.2.1 u.2.2 sn kp pd ln so po wr lt fr sc tm hd st)) (va_A (MO cI h0 a sv pa pn sn kp pd ln so po wr lt fr sc tm hd st) sz)) 0 0 (va_A (MO cI h0 a sv pa pn sn kp pd ln so po wr lt fr sc tm hd st) sz) := by
  refine k_meti .int rfl (by decide) (Nat.le_of_ble_eq_true rfl) ?_
  intro p e s m args below meth c A ls Q H locs hargs hret hx hb hts hown hml hname hN hA hS hP hK hD hl
  have hl : lv_has ls 4 [(0, .ref h0), (1, .int x1)] := hl
  obtain ⟨Xq, hX⟩ : ∃ Xq, Xq = sh_X5_takeOut sv pa pn x1 := ⟨_, rfl⟩
  have hq : Xq = (if (sh_X5_isPrinter x1) = 0 then ((-1 : Int32), sv, pa, pn) else (if (sv (16 + x1).toNatClampNeg) = (-1) then ((-2 : Int32), sv, pa, pn) else (kb (sh_X5_records sv pa pn) (fun z_f9 => (kb (sh_X5_takes sv x1) (fun z_r11 => ((sv (16 + x1).toNatClampNeg), z_r11.2, z_f9.1, z_f9.2))))))) := hX
  refine lv_iload_n hx hb dX5_takeOut_0 rfl (lv_at hl 1 rfl) ?_
  have hPs : va_P D vwCl ([] ++ ([] ++ (MO cI h0 a sv pa pn sn kp pd ln so po wr lt fr sc tm hd st))) H := hP
  have hDs : va_D A ([] ++ ([] ++ (MO cI h0 a sv pa pn sn kp pd ln so po wr lt fr sc tm hd st))) := hD
  refine k_behi (X := []) (Y := (MO cI h0 a sv pa pn sn kp pd ln so po wr lt fr sc tm hd st)) (va_runS (As := [.int x1]) (rest := []) ⟨hx, hb, hml, hown, hts⟩ (c_X5_isPrinter l D cI cC cQ H.size x1) (kcwS hts wd_ml_RX5_48 wd_st_yX5_isPrinter wd_ini_RX5 wd_code_yX5_isPrinter rfl rfl hd_X5_isPrinter ⟨Nat.le_of_ble_eq_true rfl, Nat.le_of_ble_eq_true rfl⟩) ⟨in_blind, k_pre hK (pa_l (pa_r hPs)) (da_l (da_r hDs)) hN⟩ rfl rfl hl.1 rfl (lv_room (Nat.le_of_ble_eq_true rfl)) dX5_takeOut_1 ⟨Nat.le_of_ble_eq_true rfl, Nat.le_of_ble_eq_true rfl⟩) hPs hDs hS hA (fun r1 u2 H locs hw3 hP hD hS => ?_)
  have hP : va_P D vwCl (MO cI h0 a sv pa pn sn kp pd ln so po wr lt fr sc tm hd st) H := hP
  have hD : va_D A (MO cI h0 a sv pa pn sn kp pd ln so po wr lt fr sc tm hd st) := hD
  have hw3 : r1 = (sh_X5_isPrinter x1) := hw3
  subst hw3
  refine lv_if_ne (tgt := 9) hx hb dX5_takeOut_4 (by decide) (fun c4 => ?_) (fun c4 => ?_)
  · have hq := it_neg hq c4
    refine lv_aload_n hx hb dX5_takeOut_9 rfl (lv_at hl 0 rfl) ?_
    refine va_get (D := D) (ci := 5) (v := .ref (a 0)) (C := RX5) (T := TX5) (N := 16) hx hb hts inA5 hown hK hP 0 rfl rfl 0 (by decide) (hts _ wd_fl_RX5_7) (fun _ h9 => h9) rfl dX5_takeOut_10 ?_
    refine lv_bipush (v := 16) hx hb dX5_takeOut_13 (by decide) ?_
    refine lv_iload_n hx hb dX5_takeOut_15 rfl (lv_at hl 1 rfl) ?_
    refine lv_iadd hx hb dX5_takeOut_16 ?_
    refine va_iald hx hb hK hP 1 0 rfl rfl (vp_add (mIn2 c4) (by decide) (by decide) (by decide)) dX5_takeOut_17 ?_
    refine lv_iconst (v := (-1)) hx hb dX5_takeOut_18 (by decide) ?_
    refine lv_icmp_ne (tgt := 25) hx hb dX5_takeOut_19 (by decide) (fun c5 => ?_) (fun c5 => ?_)
    · have hq := it_neg hq c5
      refine lv_aload_n hx hb dX5_takeOut_25 rfl (lv_at hl 0 rfl) ?_
      have hPs := k_self hP
      have hDs := k_selfD hD
      refine k_behv (X := []) (Y := []) (va_runV (As := []) (rest := []) ⟨hx, hb, hml, hown, hts⟩ (c_X5_records l D cI cC cQ H.size h0 a sv pa pn sn kp pd ln so po wr lt fr sc tm hd st (hpn0)) (kcwV hts wd_ml_RX5_55 wd_im_yX5_records wd_sel_yX5_records wd_ini_RX5 wd_code_yX5_records rfl rfl rfl hd_X5_records ⟨Nat.le_of_ble_eq_true rfl, Nat.le_of_ble_eq_true rfl⟩) ⟨in_blind, va_recv hK (pa_l (pa_r hPs)) (ci := 5) (q0 := 0) rfl rfl, k_pre hK (pa_l (pa_r hPs)) (da_l (da_r hDs)) hN⟩ rfl rfl hl.1 rfl (lv_room (Nat.le_of_ble_eq_true rfl)) dX5_takeOut_26 ⟨Nat.le_of_ble_eq_true rfl, Nat.le_of_ble_eq_true rfl⟩) hPs hDs hS hA (fun u7 H locs hw8 hP hD hS => ?_)
      obtain ⟨f9, v10⟩ := u7
      have hP := k_unP hP
      have hD := k_unD hD
      have hP : va_P D vwCl (MO cI h0 a sv f9 v10 sn kp pd ln so po wr lt fr sc tm hd st) H := hP
      have hD : va_D A (MO cI h0 a sv f9 v10 sn kp pd ln so po wr lt fr sc tm hd st) := hD
      have hw8 : (f9, v10) = (sh_X5_records sv pa pn) := hw8
      have hq := kb_to hq hw8
      refine lv_aload_n hx hb dX5_takeOut_29 rfl (lv_at hl 0 rfl) ?_
      refine va_get (D := D) (ci := 5) (v := .ref (a 0)) (C := RX5) (T := TX5) (N := 16) hx hb hts inA5 hown hK hP 0 rfl rfl 0 (by decide) (hts _ wd_fl_RX5_7) (fun _ h9 => h9) rfl dX5_takeOut_30 ?_
      refine lv_bipush (v := 16) hx hb dX5_takeOut_33 (by decide) ?_
      refine lv_iload_n hx hb dX5_takeOut_35 rfl (lv_at hl 1 rfl) ?_
      refine lv_iadd hx hb dX5_takeOut_36 ?_
      refine va_iald hx hb hK hP 1 0 rfl rfl (vp_add (mIn2 c4) (by decide) (by decide) (by decide)) dX5_takeOut_37 ?_
      refine lv_istore_n (lv' := [(2, .int (sv (16 + x1).toNatClampNeg)), (0, .ref h0), (1, .int x1)]) hx hb dX5_takeOut_38 rfl hl (by decide) rfl (fun ls hl => ?_)
      refine lv_aload_n hx hb dX5_takeOut_39 rfl (lv_at hl 1 rfl) ?_
      refine lv_iload_n hx hb dX5_takeOut_40 rfl (lv_at hl 2 rfl) ?_
      have hPs := k_self hP
      have hDs := k_selfD hD
      refine k_behi (X := []) (Y := []) (va_runV (As := [.int x1]) (rest := []) ⟨hx, hb, hml, hown, hts⟩ (c_X5_takes l D cI cC cQ H.size h0 a sv f9 v10 sn kp pd ln so po wr lt fr sc tm hd st x1 ((mIn2 c4)) (hiv)) (kcwV hts wd_ml_RX5_70 wd_im_yX5_takes wd_sel_yX5_takes wd_ini_RX5 wd_code_yX5_takes rfl rfl rfl hd_X5_takes ⟨Nat.le_of_ble_eq_true rfl, Nat.le_of_ble_eq_true rfl⟩) ⟨in_blind, va_recv hK (pa_l (pa_r hPs)) (ci := 5) (q0 := 0) rfl rfl, k_pre hK (pa_l (pa_r hPs)) (da_l (da_r hDs)) hN⟩ rfl rfl hl.1 rfl (lv_room (Nat.le_of_ble_eq_true rfl)) dX5_takeOut_41 ⟨Nat.le_of_ble_eq_true rfl, Nat.le_of_ble_eq_true rfl⟩) hPs hDs hS hA (fun r11 u12 H locs hw13 hP hD hS => ?_)
      obtain ⟨f14, rfl⟩ : ∃ z, z = u12 := ⟨_, rfl⟩
      have hP := k_unP hP
      have hD := k_unD hD
      have hP : va_P D vwCl (MO cI h0 a f14 f9 v10 sn kp pd ln so po wr lt fr sc tm hd st) H := hP
      have hD : va_D A (MO cI h0 a f14 f9 v10 sn kp pd ln so po wr lt fr sc tm hd st) := hD
      have hw13 : (r11, f14) = (sh_X5_takes sv x1) := hw13
      have hq := kb_to hq hw13
      refine lv_istore_n (lv' := [(3, .int r11), (2, .int (sv (16 + x1).toNatClampNeg)), (0, .ref h0), (1, .int x1)]) hx hb dX5_takeOut_44 rfl hl (by decide) rfl (fun ls hl => ?_)
      refine lv_iload_n hx hb dX5_takeOut_45 rfl (lv_at hl 1 rfl) ?_
      exact hret _ _ _ _ ((sv (16 + x1).toNatClampNeg)) (f14, f9, v10) dX5_takeOut_46 rfl (hq.symm.trans hX) hP hD hS
    · have hq := it_pos hq c5
      refine lv_bipush (v := (-2)) hx hb dX5_takeOut_22 (by decide) ?_
      exact hret _ _ _ _ ((-2)) (sv, pa, pn) dX5_takeOut_24 rfl (hq.symm.trans hX) hP hD hS
  · have hq := it_pos hq c4
    refine lv_iconst (v := (-1)) hx hb dX5_takeOut_7 (by decide) ?_
    exact hret _ _ _ _ ((-1)) (sv, pa, pn) dX5_takeOut_8 rfl (hq.symm.trans hX) hP hD hS
def sh_X5_print (sv : Nat → Int32) (pa : Nat → Int32) (pn : Int32) (x1 : Int32) (x2 : Int32) : Int32 × (Nat → Int32) × (Nat → Int32) × (Int32) := (if (sh_X5_isPrinter x1) = 0 then ((-1 : Int32), sv, pa, pn) else (if (sh_X5_areDots x2) = 0 then ((-1 : Int32), sv, pa, pn) else (kb (sh_X5_records sv pa pn) (fun z_f12 => (kb (sh_X5_prints sv x1 x2) (fun z_r14 => (z_r14.1, z_r14.2, z_f12.1, z_f12.2)))))))
abbrev rm_X5_print : Room := { frames := 3, cells := 0, slots := 0, locals := 75 }
theorem hd_X5_print : hdT yX5_print 2 := by decide +kernel
set_option maxHeartbeats 40000000 in
set_option maxRecDepth 100000 in
theorem c_X5_print (l : Launch) (D : va_G) (cI cC cQ : ClassId) (sz : Nat) (h0 : Nat) (a : Nat → Nat) (sv : Nat → Int32) (pa : Nat → Int32) (pn : Int32) (sn : Nat → Int32) (kp : Int32) (pd : Nat → Int32) (ln : Int32) (so : Nat → Int32) (po : Int32) (wr : Int32) (lt : Int32) (fr : Int32) (sc : Int32) (tm : Int32) (hd : Int32) (st : Int32) (x1 : Int32) (x2 : Int32) (hpn0 : vp_in pn 5) (hiv : iv sv) : Met l yX5_print (wsO yX5_print cX5_print 3 (some .int)) rm_X5_print (va_Pc [.ref h0, .int x1, .int x2] (inW D (TYS cI cC cQ) (MO cI h0 a sv pa pn sn kp pd ln so po wr lt fr sc tm hd st) sz)) (va_Qi (fun (r : Int32) (u : (Nat → Int32) × (Nat → Int32) × (Int32)) => (r, u) = sh_X5_print sv pa pn x1 x2) (fun (u : (Nat → Int32) × (Nat → Int32) × (Int32)) => atW D (TYS cI cC cQ) (va_A (MO cI h0 a sv pa pn sn kp pd ln so po wr lt fr sc tm hd st) sz) (MO cI h0 a u.1 u.2.1 u.2.2 sn kp pd ln so po wr lt fr sc tm hd st)) (va_A (MO cI h0 a sv pa pn sn kp pd ln so po wr lt fr sc tm hd st) sz)) 0 0 (va_A (MO cI h0 a sv pa pn sn kp pd ln so po wr lt fr sc tm hd st) sz) := by
  refine k_meti .int rfl (by decide) (Nat.le_of_ble_eq_true rfl) ?_
  intro p e s m args below meth c A ls Q H locs hargs hret hx hb hts hown hml hname hN hA hS hP hK hD hl
  have hl : lv_has ls 3 [(0, .ref h0), (1, .int x1), (2, .int x2)] := hl
  obtain ⟨Xq, hX⟩ : ∃ Xq, Xq = sh_X5_print sv pa pn x1 x2 := ⟨_, rfl⟩
  have hq : Xq = (if (sh_X5_isPrinter x1) = 0 then ((-1 : Int32), sv, pa, pn) else (if (sh_X5_areDots x2) = 0 then ((-1 : Int32), sv, pa, pn) else (kb (sh_X5_records sv pa pn) (fun z_f12 => (kb (sh_X5_prints sv x1 x2) (fun z_r14 => (z_r14.1, z_r14.2, z_f12.1, z_f12.2))))))) := hX
  refine lv_iload_n hx hb dX5_print_0 rfl (lv_at hl 1 rfl) ?_
  have hPs : va_P D vwCl ([] ++ ([] ++ (MO cI h0 a sv pa pn sn kp pd ln so po wr lt fr sc tm hd st))) H := hP
  have hDs : va_D A ([] ++ ([] ++ (MO cI h0 a sv pa pn sn kp pd ln so po wr lt fr sc tm hd st))) := hD
  refine k_behi (X := []) (Y := (MO cI h0 a sv pa pn sn kp pd ln so po wr lt fr sc tm hd st)) (va_runS (As := [.int x1]) (rest := []) ⟨hx, hb, hml, hown, hts⟩ (c_X5_isPrinter l D cI cC cQ H.size x1) (kcwS hts wd_ml_RX5_48 wd_st_yX5_isPrinter wd_ini_RX5 wd_code_yX5_isPrinter rfl rfl hd_X5_isPrinter ⟨Nat.le_of_ble_eq_true rfl, Nat.le_of_ble_eq_true rfl⟩) ⟨in_blind, k_pre hK (pa_l (pa_r hPs)) (da_l (da_r hDs)) hN⟩ rfl rfl hl.1 rfl (lv_room (Nat.le_of_ble_eq_true rfl)) dX5_print_1 ⟨Nat.le_of_ble_eq_true rfl, Nat.le_of_ble_eq_true rfl⟩) hPs hDs hS hA (fun r1 u2 H locs hw3 hP hD hS => ?_)
  have hP : va_P D vwCl (MO cI h0 a sv pa pn sn kp pd ln so po wr lt fr sc tm hd st) H := hP
  have hD : va_D A (MO cI h0 a sv pa pn sn kp pd ln so po wr lt fr sc tm hd st) := hD
  have hw3 : r1 = (sh_X5_isPrinter x1) := hw3
  subst hw3
  refine lv_if_eq (tgt := 14) hx hb dX5_print_4 (by decide) (fun c4 => ?_) (fun c4 => ?_)
  · have hq := it_pos hq c4
    refine lv_iconst (v := (-1)) hx hb dX5_print_14 (by decide) ?_
    exact hret _ _ _ _ ((-1)) (sv, pa, pn) dX5_print_15 rfl (hq.symm.trans hX) hP hD hS
  · have hq := it_neg hq c4
    refine lv_iload_n hx hb dX5_print_7 rfl (lv_at hl 2 rfl) ?_
    have hPs : va_P D vwCl ([] ++ ([] ++ (MO cI h0 a sv pa pn sn kp pd ln so po wr lt fr sc tm hd st))) H := hP
    have hDs : va_D A ([] ++ ([] ++ (MO cI h0 a sv pa pn sn kp pd ln so po wr lt fr sc tm hd st))) := hD
    refine k_behi (X := []) (Y := (MO cI h0 a sv pa pn sn kp pd ln so po wr lt fr sc tm hd st)) (va_runS (As := [.int x2]) (rest := []) ⟨hx, hb, hml, hown, hts⟩ (c_X5_areDots l D cI cC cQ H.size x2) (kcwS hts wd_ml_RX5_52 wd_st_yX5_areDots wd_ini_RX5 wd_code_yX5_areDots rfl rfl hd_X5_areDots ⟨Nat.le_of_ble_eq_true rfl, Nat.le_of_ble_eq_true rfl⟩) ⟨in_blind, k_pre hK (pa_l (pa_r hPs)) (da_l (da_r hDs)) hN⟩ rfl rfl hl.1 rfl (lv_room (Nat.le_of_ble_eq_true rfl)) dX5_print_8 ⟨Nat.le_of_ble_eq_true rfl, Nat.le_of_ble_eq_true rfl⟩) hPs hDs hS hA (fun r5 u6 H locs hw7 hP hD hS => ?_)
    have hP : va_P D vwCl (MO cI h0 a sv pa pn sn kp pd ln so po wr lt fr sc tm hd st) H := hP
    have hD : va_D A (MO cI h0 a sv pa pn sn kp pd ln so po wr lt fr sc tm hd st) := hD
    have hw7 : r5 = (sh_X5_areDots x2) := hw7
    subst hw7
    refine lv_if_ne (tgt := 16) hx hb dX5_print_11 (by decide) (fun c8 => ?_) (fun c8 => ?_)
    · have hq := it_neg hq c8
      refine lv_aload_n hx hb dX5_print_16 rfl (lv_at hl 0 rfl) ?_
      have hPs := k_self hP
      have hDs := k_selfD hD
      refine k_behv (X := []) (Y := []) (va_runV (As := []) (rest := []) ⟨hx, hb, hml, hown, hts⟩ (c_X5_records l D cI cC cQ H.size h0 a sv pa pn sn kp pd ln so po wr lt fr sc tm hd st (hpn0)) (kcwV hts wd_ml_RX5_55 wd_im_yX5_records wd_sel_yX5_records wd_ini_RX5 wd_code_yX5_records rfl rfl rfl hd_X5_records ⟨Nat.le_of_ble_eq_true rfl, Nat.le_of_ble_eq_true rfl⟩) ⟨in_blind, va_recv hK (pa_l (pa_r hPs)) (ci := 5) (q0 := 0) rfl rfl, k_pre hK (pa_l (pa_r hPs)) (da_l (da_r hDs)) hN⟩ rfl rfl hl.1 rfl (lv_room (Nat.le_of_ble_eq_true rfl)) dX5_print_17 ⟨Nat.le_of_ble_eq_true rfl, Nat.le_of_ble_eq_true rfl⟩) hPs hDs hS hA (fun u10 H locs hw11 hP hD hS => ?_)
      obtain ⟨f12, v13⟩ := u10
      have hP := k_unP hP
      have hD := k_unD hD
      have hP : va_P D vwCl (MO cI h0 a sv f12 v13 sn kp pd ln so po wr lt fr sc tm hd st) H := hP
      have hD : va_D A (MO cI h0 a sv f12 v13 sn kp pd ln so po wr lt fr sc tm hd st) := hD
      have hw11 : (f12, v13) = (sh_X5_records sv pa pn) := hw11
      have hq := kb_to hq hw11
      refine lv_aload_n hx hb dX5_print_20 rfl (lv_at hl 0 rfl) ?_
      refine lv_iload_n hx hb dX5_print_21 rfl (lv_at hl 1 rfl) ?_
      refine lv_iload_n hx hb dX5_print_22 rfl (lv_at hl 2 rfl) ?_
      have hPs := k_self hP
      have hDs := k_selfD hD
      refine k_behi (X := []) (Y := []) (va_runV (As := [.int x1, .int x2]) (rest := []) ⟨hx, hb, hml, hown, hts⟩ (c_X5_prints l D cI cC cQ H.size h0 a sv f12 v13 sn kp pd ln so po wr lt fr sc tm hd st x1 x2 ((mIn2 c4)) (hiv)) (kcwV hts wd_ml_RX5_58 wd_im_yX5_prints wd_sel_yX5_prints wd_ini_RX5 wd_code_yX5_prints rfl rfl rfl hd_X5_prints ⟨Nat.le_of_ble_eq_true rfl, Nat.le_of_ble_eq_true rfl⟩) ⟨in_blind, va_recv hK (pa_l (pa_r hPs)) (ci := 5) (q0 := 0) rfl rfl, k_pre hK (pa_l (pa_r hPs)) (da_l (da_r hDs)) hN⟩ rfl rfl hl.1 rfl (lv_room (Nat.le_of_ble_eq_true rfl)) dX5_print_23 ⟨Nat.le_of_ble_eq_true rfl, Nat.le_of_ble_eq_true rfl⟩) hPs hDs hS hA (fun r14 u15 H locs hw16 hP hD hS => ?_)
      obtain ⟨f17, rfl⟩ : ∃ z, z = u15 := ⟨_, rfl⟩
      have hP := k_unP hP
      have hD := k_unD hD
      have hP : va_P D vwCl (MO cI h0 a f17 f12 v13 sn kp pd ln so po wr lt fr sc tm hd st) H := hP
      have hD : va_D A (MO cI h0 a f17 f12 v13 sn kp pd ln so po wr lt fr sc tm hd st) := hD
      have hw16 : (r14, f17) = (sh_X5_prints sv x1 x2) := hw16
      have hq := kb_to hq hw16
      exact hret _ _ _ _ (r14) (f17, f12, v13) dX5_print_26 rfl (hq.symm.trans hX) hP hD hS
    · have hq := it_pos hq c8
      refine lv_iconst (v := (-1)) hx hb dX5_print_14 (by decide) ?_
      exact hret _ _ _ _ ((-1)) (sv, pa, pn) dX5_print_15 rfl (hq.symm.trans hX) hP hD hS
def sh_X5_cup (sv : Nat → Int32) (x1 : Int32) (x2 : Int32) : Int32 := (if (sh_X5_isCup x1) = 0 then (-1 : Int32) else (if x2 = 0 then (sv (0 + x1).toNatClampNeg) else (if x2 = 1 then (sv (4 + x1).toNatClampNeg) else (if x2 = 2 then (sv (8 + x1).toNatClampNeg) else (if x2 = 3 then (sv (12 + x1).toNatClampNeg) else (if x2 = 4 then (if (sh_X5_where sv x1) = (-1) then (-4 : Int32) else (sh_X5_where sv x1)) else (if x2 = 5 then (sh_X5_scale sv x1) else (if x2 = 6 then (sh_X5_left sv x1) else (if x2 = 7 then (((sh_X5_left sv x1) - (sh_X5_tonerOf sv x1)) + 100000) else (-1 : Int32))))))))))
abbrev rm_X5_cup : Room := { frames := 3, cells := 0, slots := 0, locals := 63 }
theorem hd_X5_cup : hdT yX5_cup 2 := by decide +kernel
set_option maxHeartbeats 40000000 in
set_option maxRecDepth 100000 in
theorem c_X5_cup (l : Launch) (D : va_G) (cI cC cQ : ClassId) (sz : Nat) (h0 : Nat) (a : Nat → Nat) (sv : Nat → Int32) (pa : Nat → Int32) (pn : Int32) (sn : Nat → Int32) (kp : Int32) (pd : Nat → Int32) (ln : Int32) (so : Nat → Int32) (po : Int32) (wr : Int32) (lt : Int32) (fr : Int32) (sc : Int32) (tm : Int32) (hd : Int32) (st : Int32) (x1 : Int32) (x2 : Int32) (hiv : iv sv) : Met l yX5_cup (wsO yX5_cup cX5_cup 3 (some .int)) rm_X5_cup (va_Pc [.ref h0, .int x1, .int x2] (inW D (TYS cI cC cQ) (MO cI h0 a sv pa pn sn kp pd ln so po wr lt fr sc tm hd st) sz)) (va_Qi (fun (r : Int32) (_ : Unit) => r = sh_X5_cup sv x1 x2) (fun (u : Unit) => atW D (TYS cI cC cQ) (va_A (MO cI h0 a sv pa pn sn kp pd ln so po wr lt fr sc tm hd st) sz) (MO cI h0 a sv pa pn sn kp pd ln so po wr lt fr sc tm hd st)) (va_A (MO cI h0 a sv pa pn sn kp pd ln so po wr lt fr sc tm hd st) sz)) 0 0 (va_A (MO cI h0 a sv pa pn sn kp pd ln so po wr lt fr sc tm hd st) sz) := by
  refine k_meti .int rfl (by decide) (Nat.le_of_ble_eq_true rfl) ?_
  intro p e s m args below meth c A ls Q H locs hargs hret hx hb hts hown hml hname hN hA hS hP hK hD hl
  have hl : lv_has ls 3 [(0, .ref h0), (1, .int x1), (2, .int x2)] := hl
  obtain ⟨Xq, hX⟩ : ∃ Xq, Xq = sh_X5_cup sv x1 x2 := ⟨_, rfl⟩
  have hq : Xq = (if (sh_X5_isCup x1) = 0 then (-1 : Int32) else (if x2 = 0 then (sv (0 + x1).toNatClampNeg) else (if x2 = 1 then (sv (4 + x1).toNatClampNeg) else (if x2 = 2 then (sv (8 + x1).toNatClampNeg) else (if x2 = 3 then (sv (12 + x1).toNatClampNeg) else (if x2 = 4 then (if (sh_X5_where sv x1) = (-1) then (-4 : Int32) else (sh_X5_where sv x1)) else (if x2 = 5 then (sh_X5_scale sv x1) else (if x2 = 6 then (sh_X5_left sv x1) else (if x2 = 7 then (((sh_X5_left sv x1) - (sh_X5_tonerOf sv x1)) + 100000) else (-1 : Int32)))))))))) := hX
  refine lv_iload_n hx hb dX5_cup_0 rfl (lv_at hl 1 rfl) ?_
  have hPs : va_P D vwCl ([] ++ ([] ++ (MO cI h0 a sv pa pn sn kp pd ln so po wr lt fr sc tm hd st))) H := hP
  have hDs : va_D A ([] ++ ([] ++ (MO cI h0 a sv pa pn sn kp pd ln so po wr lt fr sc tm hd st))) := hD
  refine k_behi (X := []) (Y := (MO cI h0 a sv pa pn sn kp pd ln so po wr lt fr sc tm hd st)) (va_runS (As := [.int x1]) (rest := []) ⟨hx, hb, hml, hown, hts⟩ (c_X5_isCup l D cI cC cQ H.size x1) (kcwS hts wd_ml_RX5_61 wd_st_yX5_isCup wd_ini_RX5 wd_code_yX5_isCup rfl rfl hd_X5_isCup ⟨Nat.le_of_ble_eq_true rfl, Nat.le_of_ble_eq_true rfl⟩) ⟨in_blind, k_pre hK (pa_l (pa_r hPs)) (da_l (da_r hDs)) hN⟩ rfl rfl hl.1 rfl (lv_room (Nat.le_of_ble_eq_true rfl)) dX5_cup_1 ⟨Nat.le_of_ble_eq_true rfl, Nat.le_of_ble_eq_true rfl⟩) hPs hDs hS hA (fun r1 u2 H locs hw3 hP hD hS => ?_)
  have hP : va_P D vwCl (MO cI h0 a sv pa pn sn kp pd ln so po wr lt fr sc tm hd st) H := hP
  have hD : va_D A (MO cI h0 a sv pa pn sn kp pd ln so po wr lt fr sc tm hd st) := hD
  have hw3 : r1 = (sh_X5_isCup x1) := hw3
  subst hw3
  refine lv_if_ne (tgt := 9) hx hb dX5_cup_4 (by decide) (fun c4 => ?_) (fun c4 => ?_)
  · have hq := it_neg hq c4
    refine lv_iload_n hx hb dX5_cup_9 rfl (lv_at hl 2 rfl) ?_
    by_cases c5 : x2 = 0
    · have hq := it_pos hq c5
      refine lv_tableIn (tgt := 56) hx hb dX5_cup_10 (by rw [c5]; decide) (by rw [c5]; decide) (by rw [c5] <;> rfl) (by decide) ?_
      refine lv_aload_n hx hb dX5_cup_56 rfl (lv_at hl 0 rfl) ?_
      refine va_get (D := D) (ci := 5) (v := .ref (a 0)) (C := RX5) (T := TX5) (N := 16) hx hb hts inA5 hown hK hP 0 rfl rfl 0 (by decide) (hts _ wd_fl_RX5_7) (fun _ h9 => h9) rfl dX5_cup_57 ?_
      refine lv_iconst (v := 0) hx hb dX5_cup_60 (by decide) ?_
      refine lv_iload_n hx hb dX5_cup_61 rfl (lv_at hl 1 rfl) ?_
      refine lv_iadd hx hb dX5_cup_62 ?_
      refine va_iald hx hb hK hP 1 0 rfl rfl (vp_add (mIn4 c4) (by decide) (by decide) (by decide)) dX5_cup_63 ?_
      exact hret _ _ _ _ ((sv (0 + x1).toNatClampNeg)) () dX5_cup_64 rfl (hq.symm.trans hX) hP hD hS
    have hq := it_neg hq c5
    by_cases c6 : x2 = 1
    · have hq := it_pos hq c6
      refine lv_tableIn (tgt := 65) hx hb dX5_cup_10 (by rw [c6]; decide) (by rw [c6]; decide) (by rw [c6] <;> rfl) (by decide) ?_
      refine lv_aload_n hx hb dX5_cup_65 rfl (lv_at hl 0 rfl) ?_
      refine va_get (D := D) (ci := 5) (v := .ref (a 0)) (C := RX5) (T := TX5) (N := 16) hx hb hts inA5 hown hK hP 0 rfl rfl 0 (by decide) (hts _ wd_fl_RX5_7) (fun _ h9 => h9) rfl dX5_cup_66 ?_
      refine lv_iconst (v := 4) hx hb dX5_cup_69 (by decide) ?_
      refine lv_iload_n hx hb dX5_cup_70 rfl (lv_at hl 1 rfl) ?_
      refine lv_iadd hx hb dX5_cup_71 ?_
      refine va_iald hx hb hK hP 1 0 rfl rfl (vp_add (mIn4 c4) (by decide) (by decide) (by decide)) dX5_cup_72 ?_
      exact hret _ _ _ _ ((sv (4 + x1).toNatClampNeg)) () dX5_cup_73 rfl (hq.symm.trans hX) hP hD hS
    have hq := it_neg hq c6
    by_cases c7 : x2 = 2
    · have hq := it_pos hq c7
      refine lv_tableIn (tgt := 74) hx hb dX5_cup_10 (by rw [c7]; decide) (by rw [c7]; decide) (by rw [c7] <;> rfl) (by decide) ?_
      refine lv_aload_n hx hb dX5_cup_74 rfl (lv_at hl 0 rfl) ?_
      refine va_get (D := D) (ci := 5) (v := .ref (a 0)) (C := RX5) (T := TX5) (N := 16) hx hb hts inA5 hown hK hP 0 rfl rfl 0 (by decide) (hts _ wd_fl_RX5_7) (fun _ h9 => h9) rfl dX5_cup_75 ?_
      refine lv_bipush (v := 8) hx hb dX5_cup_78 (by decide) ?_
      refine lv_iload_n hx hb dX5_cup_80 rfl (lv_at hl 1 rfl) ?_
      refine lv_iadd hx hb dX5_cup_81 ?_
      refine va_iald hx hb hK hP 1 0 rfl rfl (vp_add (mIn4 c4) (by decide) (by decide) (by decide)) dX5_cup_82 ?_
      exact hret _ _ _ _ ((sv (8 + x1).toNatClampNeg)) () dX5_cup_83 rfl (hq.symm.trans hX) hP hD hS
    have hq := it_neg hq c7
    by_cases c8 : x2 = 3
    · have hq := it_pos hq c8
      refine lv_tableIn (tgt := 84) hx hb dX5_cup_10 (by rw [c8]; decide) (by rw [c8]; decide) (by rw [c8] <;> rfl) (by decide) ?_
      refine lv_aload_n hx hb dX5_cup_84 rfl (lv_at hl 0 rfl) ?_
      refine va_get (D := D) (ci := 5) (v := .ref (a 0)) (C := RX5) (T := TX5) (N := 16) hx hb hts inA5 hown hK hP 0 rfl rfl 0 (by decide) (hts _ wd_fl_RX5_7) (fun _ h9 => h9) rfl dX5_cup_85 ?_
      refine lv_bipush (v := 12) hx hb dX5_cup_88 (by decide) ?_
      refine lv_iload_n hx hb dX5_cup_90 rfl (lv_at hl 1 rfl) ?_
      refine lv_iadd hx hb dX5_cup_91 ?_
      refine va_iald hx hb hK hP 1 0 rfl rfl (vp_add (mIn4 c4) (by decide) (by decide) (by decide)) dX5_cup_92 ?_
      exact hret _ _ _ _ ((sv (12 + x1).toNatClampNeg)) () dX5_cup_93 rfl (hq.symm.trans hX) hP hD hS
    have hq := it_neg hq c8
    by_cases c9 : x2 = 4
    · have hq := it_pos hq c9
      refine lv_tableIn (tgt := 94) hx hb dX5_cup_10 (by rw [c9]; decide) (by rw [c9]; decide) (by rw [c9] <;> rfl) (by decide) ?_
      refine lv_aload_n hx hb dX5_cup_94 rfl (lv_at hl 0 rfl) ?_
      refine lv_iload_n hx hb dX5_cup_95 rfl (lv_at hl 1 rfl) ?_
      have hPs := k_self hP
      have hDs := k_selfD hD
      refine k_behi (X := []) (Y := []) (va_runV (As := [.int x1]) (rest := []) ⟨hx, hb, hml, hown, hts⟩ (c_X5_where l D cI cC cQ H.size h0 a sv pa pn sn kp pd ln so po wr lt fr sc tm hd st x1) (kcwV hts wd_ml_RX5_67 wd_im_yX5_where wd_sel_yX5_where wd_ini_RX5 wd_code_yX5_where rfl rfl rfl hd_X5_where ⟨Nat.le_of_ble_eq_true rfl, Nat.le_of_ble_eq_true rfl⟩) ⟨in_blind, va_recv hK (pa_l (pa_r hPs)) (ci := 5) (q0 := 0) rfl rfl, k_pre hK (pa_l (pa_r hPs)) (da_l (da_r hDs)) hN⟩ rfl rfl hl.1 rfl (lv_room (Nat.le_of_ble_eq_true rfl)) dX5_cup_96 ⟨Nat.le_of_ble_eq_true rfl, Nat.le_of_ble_eq_true rfl⟩) hPs hDs hS hA (fun r13 u14 H locs hw15 hP hD hS => ?_)
      have hP := k_unP hP
      have hD := k_unD hD
      have hP : va_P D vwCl (MO cI h0 a sv pa pn sn kp pd ln so po wr lt fr sc tm hd st) H := hP
      have hD : va_D A (MO cI h0 a sv pa pn sn kp pd ln so po wr lt fr sc tm hd st) := hD
      have hw15 : r13 = (sh_X5_where sv x1) := hw15
      subst hw15
      refine lv_iconst (v := (-1)) hx hb dX5_cup_99 (by decide) ?_
      refine lv_icmp_ne (tgt := 108) hx hb dX5_cup_100 (by decide) (fun c16 => ?_) (fun c16 => ?_)
      · have hq := it_neg hq c16
        refine lv_aload_n hx hb dX5_cup_108 rfl (lv_at hl 0 rfl) ?_
        refine lv_iload_n hx hb dX5_cup_109 rfl (lv_at hl 1 rfl) ?_
        have hPs := k_self hP
        have hDs := k_selfD hD
        refine k_behi (X := []) (Y := []) (va_runV (As := [.int x1]) (rest := []) ⟨hx, hb, hml, hown, hts⟩ (c_X5_where l D cI cC cQ H.size h0 a sv pa pn sn kp pd ln so po wr lt fr sc tm hd st x1) (kcwV hts wd_ml_RX5_67 wd_im_yX5_where wd_sel_yX5_where wd_ini_RX5 wd_code_yX5_where rfl rfl rfl hd_X5_where ⟨Nat.le_of_ble_eq_true rfl, Nat.le_of_ble_eq_true rfl⟩) ⟨in_blind, va_recv hK (pa_l (pa_r hPs)) (ci := 5) (q0 := 0) rfl rfl, k_pre hK (pa_l (pa_r hPs)) (da_l (da_r hDs)) hN⟩ rfl rfl hl.1 rfl (lv_room (Nat.le_of_ble_eq_true rfl)) dX5_cup_110 ⟨Nat.le_of_ble_eq_true rfl, Nat.le_of_ble_eq_true rfl⟩) hPs hDs hS hA (fun r17 u18 H locs hw19 hP hD hS => ?_)
        have hP := k_unP hP
        have hD := k_unD hD
        have hP : va_P D vwCl (MO cI h0 a sv pa pn sn kp pd ln so po wr lt fr sc tm hd st) H := hP
        have hD : va_D A (MO cI h0 a sv pa pn sn kp pd ln so po wr lt fr sc tm hd st) := hD
        have hw19 : r17 = (sh_X5_where sv x1) := hw19
        subst hw19
        exact hret _ _ _ _ ((sh_X5_where sv x1)) () dX5_cup_113 rfl (hq.symm.trans hX) hP hD hS
      · have hq := it_pos hq c16
        refine lv_bipush (v := (-4)) hx hb dX5_cup_103 (by decide) ?_
        refine lv_goto (tgt := 113) hx hb dX5_cup_105 (by decide) ?_
        exact hret _ _ _ _ ((-4)) () dX5_cup_113 rfl (hq.symm.trans hX) hP hD hS
    have hq := it_neg hq c9
    by_cases c10 : x2 = 5
    · have hq := it_pos hq c10
      refine lv_tableIn (tgt := 114) hx hb dX5_cup_10 (by rw [c10]; decide) (by rw [c10]; decide) (by rw [c10] <;> rfl) (by decide) ?_
      refine lv_aload_n hx hb dX5_cup_114 rfl (lv_at hl 0 rfl) ?_
      refine lv_iload_n hx hb dX5_cup_115 rfl (lv_at hl 1 rfl) ?_
      have hPs := k_self hP
      have hDs := k_selfD hD
      refine k_behi (X := []) (Y := []) (va_runV (As := [.int x1]) (rest := []) ⟨hx, hb, hml, hown, hts⟩ (c_X5_scale l D cI cC cQ H.size h0 a sv pa pn sn kp pd ln so po wr lt fr sc tm hd st x1 ((mIn4 c4)) (hiv)) (kcwV hts wd_ml_RX5_128 wd_im_yX5_scale wd_sel_yX5_scale wd_ini_RX5 wd_code_yX5_scale rfl rfl rfl hd_X5_scale ⟨Nat.le_of_ble_eq_true rfl, Nat.le_of_ble_eq_true rfl⟩) ⟨in_blind, va_recv hK (pa_l (pa_r hPs)) (ci := 5) (q0 := 0) rfl rfl, k_pre hK (pa_l (pa_r hPs)) (da_l (da_r hDs)) hN⟩ rfl rfl hl.1 rfl (lv_room (Nat.le_of_ble_eq_true rfl)) dX5_cup_116 ⟨Nat.le_of_ble_eq_true rfl, Nat.le_of_ble_eq_true rfl⟩) hPs hDs hS hA (fun r20 u21 H locs hw22 hP hD hS => ?_)
      have hP := k_unP hP
      have hD := k_unD hD
      have hP : va_P D vwCl (MO cI h0 a sv pa pn sn kp pd ln so po wr lt fr sc tm hd st) H := hP
      have hD : va_D A (MO cI h0 a sv pa pn sn kp pd ln so po wr lt fr sc tm hd st) := hD
      have hw22 : r20 = (sh_X5_scale sv x1) := hw22
      subst hw22
      exact hret _ _ _ _ ((sh_X5_scale sv x1)) () dX5_cup_119 rfl (hq.symm.trans hX) hP hD hS
    have hq := it_neg hq c10
    by_cases c11 : x2 = 6
    · have hq := it_pos hq c11
      refine lv_tableIn (tgt := 120) hx hb dX5_cup_10 (by rw [c11]; decide) (by rw [c11]; decide) (by rw [c11] <;> rfl) (by decide) ?_
      refine lv_aload_n hx hb dX5_cup_120 rfl (lv_at hl 0 rfl) ?_
      refine lv_iload_n hx hb dX5_cup_121 rfl (lv_at hl 1 rfl) ?_
      have hPs := k_self hP
      have hDs := k_selfD hD
      refine k_behi (X := []) (Y := []) (va_runV (As := [.int x1]) (rest := []) ⟨hx, hb, hml, hown, hts⟩ (c_X5_left l D cI cC cQ H.size h0 a sv pa pn sn kp pd ln so po wr lt fr sc tm hd st x1 ((mIn4 c4)) (hiv)) (kcwV hts wd_ml_RX5_131 wd_im_yX5_left wd_sel_yX5_left wd_ini_RX5 wd_code_yX5_left rfl rfl rfl hd_X5_left ⟨Nat.le_of_ble_eq_true rfl, Nat.le_of_ble_eq_true rfl⟩) ⟨in_blind, va_recv hK (pa_l (pa_r hPs)) (ci := 5) (q0 := 0) rfl rfl, k_pre hK (pa_l (pa_r hPs)) (da_l (da_r hDs)) hN⟩ rfl rfl hl.1 rfl (lv_room (Nat.le_of_ble_eq_true rfl)) dX5_cup_122 ⟨Nat.le_of_ble_eq_true rfl, Nat.le_of_ble_eq_true rfl⟩) hPs hDs hS hA (fun r23 u24 H locs hw25 hP hD hS => ?_)
      have hP := k_unP hP
      have hD := k_unD hD
      have hP : va_P D vwCl (MO cI h0 a sv pa pn sn kp pd ln so po wr lt fr sc tm hd st) H := hP
      have hD : va_D A (MO cI h0 a sv pa pn sn kp pd ln so po wr lt fr sc tm hd st) := hD
      have hw25 : r23 = (sh_X5_left sv x1) := hw25
      subst hw25
      exact hret _ _ _ _ ((sh_X5_left sv x1)) () dX5_cup_125 rfl (hq.symm.trans hX) hP hD hS
    have hq := it_neg hq c11
    by_cases c12 : x2 = 7
    · have hq := it_pos hq c12
      refine lv_tableIn (tgt := 126) hx hb dX5_cup_10 (by rw [c12]; decide) (by rw [c12]; decide) (by rw [c12] <;> rfl) (by decide) ?_
      refine lv_aload_n hx hb dX5_cup_126 rfl (lv_at hl 0 rfl) ?_
      refine lv_iload_n hx hb dX5_cup_127 rfl (lv_at hl 1 rfl) ?_
      have hPs := k_self hP
      have hDs := k_selfD hD
      refine k_behi (X := []) (Y := []) (va_runV (As := [.int x1]) (rest := []) ⟨hx, hb, hml, hown, hts⟩ (c_X5_left l D cI cC cQ H.size h0 a sv pa pn sn kp pd ln so po wr lt fr sc tm hd st x1 ((mIn4 c4)) (hiv)) (kcwV hts wd_ml_RX5_131 wd_im_yX5_left wd_sel_yX5_left wd_ini_RX5 wd_code_yX5_left rfl rfl rfl hd_X5_left ⟨Nat.le_of_ble_eq_true rfl, Nat.le_of_ble_eq_true rfl⟩) ⟨in_blind, va_recv hK (pa_l (pa_r hPs)) (ci := 5) (q0 := 0) rfl rfl, k_pre hK (pa_l (pa_r hPs)) (da_l (da_r hDs)) hN⟩ rfl rfl hl.1 rfl (lv_room (Nat.le_of_ble_eq_true rfl)) dX5_cup_128 ⟨Nat.le_of_ble_eq_true rfl, Nat.le_of_ble_eq_true rfl⟩) hPs hDs hS hA (fun r26 u27 H locs hw28 hP hD hS => ?_)
      have hP := k_unP hP
      have hD := k_unD hD
      have hP : va_P D vwCl (MO cI h0 a sv pa pn sn kp pd ln so po wr lt fr sc tm hd st) H := hP
      have hD : va_D A (MO cI h0 a sv pa pn sn kp pd ln so po wr lt fr sc tm hd st) := hD
      have hw28 : r26 = (sh_X5_left sv x1) := hw28
      subst hw28
      refine lv_aload_n hx hb dX5_cup_131 rfl (lv_at hl 0 rfl) ?_
      refine lv_iload_n hx hb dX5_cup_132 rfl (lv_at hl 1 rfl) ?_
      have hPs := k_self hP
      have hDs := k_selfD hD
      refine k_behi (X := []) (Y := []) (va_runV (As := [.int x1]) (rest := [.int (sh_X5_left sv x1)]) ⟨hx, hb, hml, hown, hts⟩ (c_X5_tonerOf l D cI cC cQ H.size h0 a sv pa pn sn kp pd ln so po wr lt fr sc tm hd st x1 ((mIn4 c4))) (kcwV hts wd_ml_RX5_37 wd_im_yX5_tonerOf wd_sel_yX5_tonerOf wd_ini_RX5 wd_code_yX5_tonerOf rfl rfl rfl hd_X5_tonerOf ⟨Nat.le_of_ble_eq_true rfl, Nat.le_of_ble_eq_true rfl⟩) ⟨in_blind, va_recv hK (pa_l (pa_r hPs)) (ci := 5) (q0 := 0) rfl rfl, k_pre hK (pa_l (pa_r hPs)) (da_l (da_r hDs)) hN⟩ rfl rfl hl.1 rfl (lv_room (Nat.le_of_ble_eq_true rfl)) dX5_cup_133 ⟨Nat.le_of_ble_eq_true rfl, Nat.le_of_ble_eq_true rfl⟩) hPs hDs hS hA (fun r29 u30 H locs hw31 hP hD hS => ?_)
      have hP := k_unP hP
      have hD := k_unD hD
      have hP : va_P D vwCl (MO cI h0 a sv pa pn sn kp pd ln so po wr lt fr sc tm hd st) H := hP
      have hD : va_D A (MO cI h0 a sv pa pn sn kp pd ln so po wr lt fr sc tm hd st) := hD
      have hw31 : r29 = (sh_X5_tonerOf sv x1) := hw31
      subst hw31
      refine lv_isub hx hb dX5_cup_136 ?_
      refine lv_ldc hx hb hown (hts _ wd_con_RX5_134) dX5_cup_137 ?_
      refine lv_iadd hx hb dX5_cup_139 ?_
      exact hret _ _ _ _ ((((sh_X5_left sv x1) - (sh_X5_tonerOf sv x1)) + 100000)) () dX5_cup_140 rfl (hq.symm.trans hX) hP hD hS
    have hq := it_neg hq c12
    refine lv_tableOut (tgt := 141) hx hb dX5_cup_10 (k_out8 c5 c6 c7 c8 c9 c10 c11 c12) (by decide) ?_
    refine lv_iconst (v := (-1)) hx hb dX5_cup_141 (by decide) ?_
    exact hret _ _ _ _ ((-1)) () dX5_cup_142 rfl (hq.symm.trans hX) hP hD hS
  · have hq := it_pos hq c4
    refine lv_iconst (v := (-1)) hx hb dX5_cup_7 (by decide) ?_
    exact hret _ _ _ _ ((-1)) () dX5_cup_8 rfl (hq.symm.trans hX) hP hD hS
def sh_X5_printer (sv : Nat → Int32) (x1 : Int32) (x2 : Int32) : Int32 := (if (sh_X5_isPrinter x1) = 0 then (-1 : Int32) else (if x2 = 0 then (if (sv (16 + x1).toNatClampNeg) = (-1) then (-4 : Int32) else (sv (16 + x1).toNatClampNeg)) else (if x2 = 1 then (sv (18 + x1).toNatClampNeg) else (if x2 = 2 then (sv (20 + x1).toNatClampNeg) else (if x2 = 3 then (sv (22 + x1).toNatClampNeg) else (if x2 = 4 then (sv (24 + x1).toNatClampNeg) else (if x2 = 5 then (if (sv (26 + x1).toNatClampNeg) = (-1) then (-4 : Int32) else (sv (26 + x1).toNatClampNeg)) else (-1 : Int32))))))))
abbrev rm_X5_printer : Room := { frames := 2, cells := 0, slots := 0, locals := 42 }
theorem hd_X5_printer : hdT yX5_printer 2 := by decide +kernel
set_option maxHeartbeats 40000000 in
set_option maxRecDepth 100000 in
theorem c_X5_printer (l : Launch) (D : va_G) (cI cC cQ : ClassId) (sz : Nat) (h0 : Nat) (a : Nat → Nat) (sv : Nat → Int32) (pa : Nat → Int32) (pn : Int32) (sn : Nat → Int32) (kp : Int32) (pd : Nat → Int32) (ln : Int32) (so : Nat → Int32) (po : Int32) (wr : Int32) (lt : Int32) (fr : Int32) (sc : Int32) (tm : Int32) (hd : Int32) (st : Int32) (x1 : Int32) (x2 : Int32)  : Met l yX5_printer (wsO yX5_printer cX5_printer 3 (some .int)) rm_X5_printer (va_Pc [.ref h0, .int x1, .int x2] (inW D (TYS cI cC cQ) (MO cI h0 a sv pa pn sn kp pd ln so po wr lt fr sc tm hd st) sz)) (va_Qi (fun (r : Int32) (_ : Unit) => r = sh_X5_printer sv x1 x2) (fun (u : Unit) => atW D (TYS cI cC cQ) (va_A (MO cI h0 a sv pa pn sn kp pd ln so po wr lt fr sc tm hd st) sz) (MO cI h0 a sv pa pn sn kp pd ln so po wr lt fr sc tm hd st)) (va_A (MO cI h0 a sv pa pn sn kp pd ln so po wr lt fr sc tm hd st) sz)) 0 0 (va_A (MO cI h0 a sv pa pn sn kp pd ln so po wr lt fr sc tm hd st) sz) := by
  refine k_meti .int rfl (by decide) (Nat.le_of_ble_eq_true rfl) ?_
  intro p e s m args below meth c A ls Q H locs hargs hret hx hb hts hown hml hname hN hA hS hP hK hD hl
  have hl : lv_has ls 3 [(0, .ref h0), (1, .int x1), (2, .int x2)] := hl
  obtain ⟨Xq, hX⟩ : ∃ Xq, Xq = sh_X5_printer sv x1 x2 := ⟨_, rfl⟩
  have hq : Xq = (if (sh_X5_isPrinter x1) = 0 then (-1 : Int32) else (if x2 = 0 then (if (sv (16 + x1).toNatClampNeg) = (-1) then (-4 : Int32) else (sv (16 + x1).toNatClampNeg)) else (if x2 = 1 then (sv (18 + x1).toNatClampNeg) else (if x2 = 2 then (sv (20 + x1).toNatClampNeg) else (if x2 = 3 then (sv (22 + x1).toNatClampNeg) else (if x2 = 4 then (sv (24 + x1).toNatClampNeg) else (if x2 = 5 then (if (sv (26 + x1).toNatClampNeg) = (-1) then (-4 : Int32) else (sv (26 + x1).toNatClampNeg)) else (-1 : Int32)))))))) := hX
  refine lv_iload_n hx hb dX5_printer_0 rfl (lv_at hl 1 rfl) ?_
  have hPs : va_P D vwCl ([] ++ ([] ++ (MO cI h0 a sv pa pn sn kp pd ln so po wr lt fr sc tm hd st))) H := hP
  have hDs : va_D A ([] ++ ([] ++ (MO cI h0 a sv pa pn sn kp pd ln so po wr lt fr sc tm hd st))) := hD
  refine k_behi (X := []) (Y := (MO cI h0 a sv pa pn sn kp pd ln so po wr lt fr sc tm hd st)) (va_runS (As := [.int x1]) (rest := []) ⟨hx, hb, hml, hown, hts⟩ (c_X5_isPrinter l D cI cC cQ H.size x1) (kcwS hts wd_ml_RX5_48 wd_st_yX5_isPrinter wd_ini_RX5 wd_code_yX5_isPrinter rfl rfl hd_X5_isPrinter ⟨Nat.le_of_ble_eq_true rfl, Nat.le_of_ble_eq_true rfl⟩) ⟨in_blind, k_pre hK (pa_l (pa_r hPs)) (da_l (da_r hDs)) hN⟩ rfl rfl hl.1 rfl (lv_room (Nat.le_of_ble_eq_true rfl)) dX5_printer_1 ⟨Nat.le_of_ble_eq_true rfl, Nat.le_of_ble_eq_true rfl⟩) hPs hDs hS hA (fun r1 u2 H locs hw3 hP hD hS => ?_)
  have hP : va_P D vwCl (MO cI h0 a sv pa pn sn kp pd ln so po wr lt fr sc tm hd st) H := hP
  have hD : va_D A (MO cI h0 a sv pa pn sn kp pd ln so po wr lt fr sc tm hd st) := hD
  have hw3 : r1 = (sh_X5_isPrinter x1) := hw3
  subst hw3
  refine lv_if_ne (tgt := 9) hx hb dX5_printer_4 (by decide) (fun c4 => ?_) (fun c4 => ?_)
  · have hq := it_neg hq c4
    refine lv_iload_n hx hb dX5_printer_9 rfl (lv_at hl 2 rfl) ?_
    by_cases c5 : x2 = 0
    · have hq := it_pos hq c5
      refine lv_tableIn (tgt := 48) hx hb dX5_printer_10 (by rw [c5]; decide) (by rw [c5]; decide) (by rw [c5] <;> rfl) (by decide) ?_
      refine lv_aload_n hx hb dX5_printer_48 rfl (lv_at hl 0 rfl) ?_
      refine va_get (D := D) (ci := 5) (v := .ref (a 0)) (C := RX5) (T := TX5) (N := 16) hx hb hts inA5 hown hK hP 0 rfl rfl 0 (by decide) (hts _ wd_fl_RX5_7) (fun _ h9 => h9) rfl dX5_printer_49 ?_
      refine lv_bipush (v := 16) hx hb dX5_printer_52 (by decide) ?_
      refine lv_iload_n hx hb dX5_printer_54 rfl (lv_at hl 1 rfl) ?_
      refine lv_iadd hx hb dX5_printer_55 ?_
      refine va_iald hx hb hK hP 1 0 rfl rfl (vp_add (mIn2 c4) (by decide) (by decide) (by decide)) dX5_printer_56 ?_
      refine lv_iconst (v := (-1)) hx hb dX5_printer_57 (by decide) ?_
      refine lv_icmp_ne (tgt := 66) hx hb dX5_printer_58 (by decide) (fun c11 => ?_) (fun c11 => ?_)
      · have hq := it_neg hq c11
        refine lv_aload_n hx hb dX5_printer_66 rfl (lv_at hl 0 rfl) ?_
        refine va_get (D := D) (ci := 5) (v := .ref (a 0)) (C := RX5) (T := TX5) (N := 16) hx hb hts inA5 hown hK hP 0 rfl rfl 0 (by decide) (hts _ wd_fl_RX5_7) (fun _ h9 => h9) rfl dX5_printer_67 ?_
        refine lv_bipush (v := 16) hx hb dX5_printer_70 (by decide) ?_
        refine lv_iload_n hx hb dX5_printer_72 rfl (lv_at hl 1 rfl) ?_
        refine lv_iadd hx hb dX5_printer_73 ?_
        refine va_iald hx hb hK hP 1 0 rfl rfl (vp_add (mIn2 c4) (by decide) (by decide) (by decide)) dX5_printer_74 ?_
        exact hret _ _ _ _ ((sv (16 + x1).toNatClampNeg)) () dX5_printer_75 rfl (hq.symm.trans hX) hP hD hS
      · have hq := it_pos hq c11
        refine lv_bipush (v := (-4)) hx hb dX5_printer_61 (by decide) ?_
        refine lv_goto (tgt := 75) hx hb dX5_printer_63 (by decide) ?_
        exact hret _ _ _ _ ((-4)) () dX5_printer_75 rfl (hq.symm.trans hX) hP hD hS
    have hq := it_neg hq c5
    by_cases c6 : x2 = 1
    · have hq := it_pos hq c6
      refine lv_tableIn (tgt := 76) hx hb dX5_printer_10 (by rw [c6]; decide) (by rw [c6]; decide) (by rw [c6] <;> rfl) (by decide) ?_
      refine lv_aload_n hx hb dX5_printer_76 rfl (lv_at hl 0 rfl) ?_
      refine va_get (D := D) (ci := 5) (v := .ref (a 0)) (C := RX5) (T := TX5) (N := 16) hx hb hts inA5 hown hK hP 0 rfl rfl 0 (by decide) (hts _ wd_fl_RX5_7) (fun _ h9 => h9) rfl dX5_printer_77 ?_
      refine lv_bipush (v := 18) hx hb dX5_printer_80 (by decide) ?_
      refine lv_iload_n hx hb dX5_printer_82 rfl (lv_at hl 1 rfl) ?_
      refine lv_iadd hx hb dX5_printer_83 ?_
      refine va_iald hx hb hK hP 1 0 rfl rfl (vp_add (mIn2 c4) (by decide) (by decide) (by decide)) dX5_printer_84 ?_
      exact hret _ _ _ _ ((sv (18 + x1).toNatClampNeg)) () dX5_printer_85 rfl (hq.symm.trans hX) hP hD hS
    have hq := it_neg hq c6
    by_cases c7 : x2 = 2
    · have hq := it_pos hq c7
      refine lv_tableIn (tgt := 86) hx hb dX5_printer_10 (by rw [c7]; decide) (by rw [c7]; decide) (by rw [c7] <;> rfl) (by decide) ?_
      refine lv_aload_n hx hb dX5_printer_86 rfl (lv_at hl 0 rfl) ?_
      refine va_get (D := D) (ci := 5) (v := .ref (a 0)) (C := RX5) (T := TX5) (N := 16) hx hb hts inA5 hown hK hP 0 rfl rfl 0 (by decide) (hts _ wd_fl_RX5_7) (fun _ h9 => h9) rfl dX5_printer_87 ?_
      refine lv_bipush (v := 20) hx hb dX5_printer_90 (by decide) ?_
      refine lv_iload_n hx hb dX5_printer_92 rfl (lv_at hl 1 rfl) ?_
      refine lv_iadd hx hb dX5_printer_93 ?_
      refine va_iald hx hb hK hP 1 0 rfl rfl (vp_add (mIn2 c4) (by decide) (by decide) (by decide)) dX5_printer_94 ?_
      exact hret _ _ _ _ ((sv (20 + x1).toNatClampNeg)) () dX5_printer_95 rfl (hq.symm.trans hX) hP hD hS
    have hq := it_neg hq c7
    by_cases c8 : x2 = 3
    · have hq := it_pos hq c8
      refine lv_tableIn (tgt := 96) hx hb dX5_printer_10 (by rw [c8]; decide) (by rw [c8]; decide) (by rw [c8] <;> rfl) (by decide) ?_
      refine lv_aload_n hx hb dX5_printer_96 rfl (lv_at hl 0 rfl) ?_
      refine va_get (D := D) (ci := 5) (v := .ref (a 0)) (C := RX5) (T := TX5) (N := 16) hx hb hts inA5 hown hK hP 0 rfl rfl 0 (by decide) (hts _ wd_fl_RX5_7) (fun _ h9 => h9) rfl dX5_printer_97 ?_
      refine lv_bipush (v := 22) hx hb dX5_printer_100 (by decide) ?_
      refine lv_iload_n hx hb dX5_printer_102 rfl (lv_at hl 1 rfl) ?_
      refine lv_iadd hx hb dX5_printer_103 ?_
      refine va_iald hx hb hK hP 1 0 rfl rfl (vp_add (mIn2 c4) (by decide) (by decide) (by decide)) dX5_printer_104 ?_
      exact hret _ _ _ _ ((sv (22 + x1).toNatClampNeg)) () dX5_printer_105 rfl (hq.symm.trans hX) hP hD hS
    have hq := it_neg hq c8
    by_cases c9 : x2 = 4
    · have hq := it_pos hq c9
      refine lv_tableIn (tgt := 106) hx hb dX5_printer_10 (by rw [c9]; decide) (by rw [c9]; decide) (by rw [c9] <;> rfl) (by decide) ?_
      refine lv_aload_n hx hb dX5_printer_106 rfl (lv_at hl 0 rfl) ?_
      refine va_get (D := D) (ci := 5) (v := .ref (a 0)) (C := RX5) (T := TX5) (N := 16) hx hb hts inA5 hown hK hP 0 rfl rfl 0 (by decide) (hts _ wd_fl_RX5_7) (fun _ h9 => h9) rfl dX5_printer_107 ?_
      refine lv_bipush (v := 24) hx hb dX5_printer_110 (by decide) ?_
      refine lv_iload_n hx hb dX5_printer_112 rfl (lv_at hl 1 rfl) ?_
      refine lv_iadd hx hb dX5_printer_113 ?_
      refine va_iald hx hb hK hP 1 0 rfl rfl (vp_add (mIn2 c4) (by decide) (by decide) (by decide)) dX5_printer_114 ?_
      exact hret _ _ _ _ ((sv (24 + x1).toNatClampNeg)) () dX5_printer_115 rfl (hq.symm.trans hX) hP hD hS
    have hq := it_neg hq c9
    by_cases c10 : x2 = 5
    · have hq := it_pos hq c10
      refine lv_tableIn (tgt := 116) hx hb dX5_printer_10 (by rw [c10]; decide) (by rw [c10]; decide) (by rw [c10] <;> rfl) (by decide) ?_
      refine lv_aload_n hx hb dX5_printer_116 rfl (lv_at hl 0 rfl) ?_
      refine va_get (D := D) (ci := 5) (v := .ref (a 0)) (C := RX5) (T := TX5) (N := 16) hx hb hts inA5 hown hK hP 0 rfl rfl 0 (by decide) (hts _ wd_fl_RX5_7) (fun _ h9 => h9) rfl dX5_printer_117 ?_
      refine lv_bipush (v := 26) hx hb dX5_printer_120 (by decide) ?_
      refine lv_iload_n hx hb dX5_printer_122 rfl (lv_at hl 1 rfl) ?_
      refine lv_iadd hx hb dX5_printer_123 ?_
      refine va_iald hx hb hK hP 1 0 rfl rfl (vp_add (mIn2 c4) (by decide) (by decide) (by decide)) dX5_printer_124 ?_
      refine lv_iconst (v := (-1)) hx hb dX5_printer_125 (by decide) ?_
      refine lv_icmp_ne (tgt := 134) hx hb dX5_printer_126 (by decide) (fun c12 => ?_) (fun c12 => ?_)
      · have hq := it_neg hq c12
        refine lv_aload_n hx hb dX5_printer_134 rfl (lv_at hl 0 rfl) ?_
        refine va_get (D := D) (ci := 5) (v := .ref (a 0)) (C := RX5) (T := TX5) (N := 16) hx hb hts inA5 hown hK hP 0 rfl rfl 0 (by decide) (hts _ wd_fl_RX5_7) (fun _ h9 => h9) rfl dX5_printer_135 ?_
        refine lv_bipush (v := 26) hx hb dX5_printer_138 (by decide) ?_
        refine lv_iload_n hx hb dX5_printer_140 rfl (lv_at hl 1 rfl) ?_
        refine lv_iadd hx hb dX5_printer_141 ?_
        refine va_iald hx hb hK hP 1 0 rfl rfl (vp_add (mIn2 c4) (by decide) (by decide) (by decide)) dX5_printer_142 ?_
        exact hret _ _ _ _ ((sv (26 + x1).toNatClampNeg)) () dX5_printer_143 rfl (hq.symm.trans hX) hP hD hS
      · have hq := it_pos hq c12
        refine lv_bipush (v := (-4)) hx hb dX5_printer_129 (by decide) ?_
        refine lv_goto (tgt := 143) hx hb dX5_printer_131 (by decide) ?_
        exact hret _ _ _ _ ((-4)) () dX5_printer_143 rfl (hq.symm.trans hX) hP hD hS
    have hq := it_neg hq c10
    refine lv_tableOut (tgt := 144) hx hb dX5_printer_10 (k_out6 c5 c6 c7 c8 c9 c10) (by decide) ?_
    refine lv_iconst (v := (-1)) hx hb dX5_printer_144 (by decide) ?_
    exact hret _ _ _ _ ((-1)) () dX5_printer_145 rfl (hq.symm.trans hX) hP hD hS
  · have hq := it_pos hq c4
    refine lv_iconst (v := (-1)) hx hb dX5_printer_7 (by decide) ?_
    exact hret _ _ _ _ ((-1)) () dX5_printer_8 rfl (hq.symm.trans hX) hP hD hS
def sh_X5_needs (sv : Nat → Int32) (x1 : Int32) (x2 : Int32) (x3 : Int32) : Int32 := (if (sh_X5_isCup x1) = 0 then (-1 : Int32) else (if (sh_X5_areDots x2) = 0 then (-1 : Int32) else (if (sh_X5_in x3 0 1) = 0 then (-1 : Int32) else (if x3 = 0 then (sh_X5_need sv x1 x2 (sv (31 : Int32).toNatClampNeg)) else (sh_X5_counted sv x1 x2)))))
abbrev rm_X5_needs : Room := { frames := 2, cells := 0, slots := 0, locals := 46 }
theorem hd_X5_needs : hdT yX5_needs 3 := by decide +kernel
set_option maxHeartbeats 40000000 in
set_option maxRecDepth 100000 in
theorem c_X5_needs (l : Launch) (D : va_G) (cI cC cQ : ClassId) (sz : Nat) (h0 : Nat) (a : Nat → Nat) (sv : Nat → Int32) (pa : Nat → Int32) (pn : Int32) (sn : Nat → Int32) (kp : Int32) (pd : Nat → Int32) (ln : Int32) (so : Nat → Int32) (po : Int32) (wr : Int32) (lt : Int32) (fr : Int32) (sc : Int32) (tm : Int32) (hd : Int32) (st : Int32) (x1 : Int32) (x2 : Int32) (x3 : Int32)  : Met l yX5_needs (wsO yX5_needs cX5_needs 4 (some .int)) rm_X5_needs (va_Pc [.ref h0, .int x1, .int x2, .int x3] (inW D (TYS cI cC cQ) (MO cI h0 a sv pa pn sn kp pd ln so po wr lt fr sc tm hd st) sz)) (va_Qi (fun (r : Int32) (_ : Unit) => r = sh_X5_needs sv x1 x2 x3) (fun (u : Unit) => atW D (TYS cI cC cQ) (va_A (MO cI h0 a sv pa pn sn kp pd ln so po wr lt fr sc tm hd st) sz) (MO cI h0 a sv pa pn sn kp pd ln so po wr lt fr sc tm hd st)) (va_A (MO cI h0 a sv pa pn sn kp pd ln so po wr lt fr sc tm hd st) sz)) 0 0 (va_A (MO cI h0 a sv pa pn sn kp pd ln so po wr lt fr sc tm hd st) sz) := by
  refine k_meti .int rfl (by decide) (Nat.le_of_ble_eq_true rfl) ?_
  intro p e s m args below meth c A ls Q H locs hargs hret hx hb hts hown hml hname hN hA hS hP hK hD hl
  have hl : lv_has ls 4 [(0, .ref h0), (1, .int x1), (2, .int x2), (3, .int x3)] := hl
  obtain ⟨Xq, hX⟩ : ∃ Xq, Xq = sh_X5_needs sv x1 x2 x3 := ⟨_, rfl⟩
  have hq : Xq = (if (sh_X5_isCup x1) = 0 then (-1 : Int32) else (if (sh_X5_areDots x2) = 0 then (-1 : Int32) else (if (sh_X5_in x3 0 1) = 0 then (-1 : Int32) else (if x3 = 0 then (sh_X5_need sv x1 x2 (sv (31 : Int32).toNatClampNeg)) else (sh_X5_counted sv x1 x2))))) := hX
  refine lv_iload_n hx hb dX5_needs_0 rfl (lv_at hl 1 rfl) ?_
  have hPs : va_P D vwCl ([] ++ ([] ++ (MO cI h0 a sv pa pn sn kp pd ln so po wr lt fr sc tm hd st))) H := hP
  have hDs : va_D A ([] ++ ([] ++ (MO cI h0 a sv pa pn sn kp pd ln so po wr lt fr sc tm hd st))) := hD
  refine k_behi (X := []) (Y := (MO cI h0 a sv pa pn sn kp pd ln so po wr lt fr sc tm hd st)) (va_runS (As := [.int x1]) (rest := []) ⟨hx, hb, hml, hown, hts⟩ (c_X5_isCup l D cI cC cQ H.size x1) (kcwS hts wd_ml_RX5_61 wd_st_yX5_isCup wd_ini_RX5 wd_code_yX5_isCup rfl rfl hd_X5_isCup ⟨Nat.le_of_ble_eq_true rfl, Nat.le_of_ble_eq_true rfl⟩) ⟨in_blind, k_pre hK (pa_l (pa_r hPs)) (da_l (da_r hDs)) hN⟩ rfl rfl hl.1 rfl (lv_room (Nat.le_of_ble_eq_true rfl)) dX5_needs_1 ⟨Nat.le_of_ble_eq_true rfl, Nat.le_of_ble_eq_true rfl⟩) hPs hDs hS hA (fun r1 u2 H locs hw3 hP hD hS => ?_)
  have hP : va_P D vwCl (MO cI h0 a sv pa pn sn kp pd ln so po wr lt fr sc tm hd st) H := hP
  have hD : va_D A (MO cI h0 a sv pa pn sn kp pd ln so po wr lt fr sc tm hd st) := hD
  have hw3 : r1 = (sh_X5_isCup x1) := hw3
  subst hw3
  refine lv_if_eq (tgt := 23) hx hb dX5_needs_4 (by decide) (fun c4 => ?_) (fun c4 => ?_)
  · have hq := it_pos hq c4
    refine lv_iconst (v := (-1)) hx hb dX5_needs_23 (by decide) ?_
    exact hret _ _ _ _ ((-1)) () dX5_needs_24 rfl (hq.symm.trans hX) hP hD hS
  · have hq := it_neg hq c4
    refine lv_iload_n hx hb dX5_needs_7 rfl (lv_at hl 2 rfl) ?_
    have hPs : va_P D vwCl ([] ++ ([] ++ (MO cI h0 a sv pa pn sn kp pd ln so po wr lt fr sc tm hd st))) H := hP
    have hDs : va_D A ([] ++ ([] ++ (MO cI h0 a sv pa pn sn kp pd ln so po wr lt fr sc tm hd st))) := hD
    refine k_behi (X := []) (Y := (MO cI h0 a sv pa pn sn kp pd ln so po wr lt fr sc tm hd st)) (va_runS (As := [.int x2]) (rest := []) ⟨hx, hb, hml, hown, hts⟩ (c_X5_areDots l D cI cC cQ H.size x2) (kcwS hts wd_ml_RX5_52 wd_st_yX5_areDots wd_ini_RX5 wd_code_yX5_areDots rfl rfl hd_X5_areDots ⟨Nat.le_of_ble_eq_true rfl, Nat.le_of_ble_eq_true rfl⟩) ⟨in_blind, k_pre hK (pa_l (pa_r hPs)) (da_l (da_r hDs)) hN⟩ rfl rfl hl.1 rfl (lv_room (Nat.le_of_ble_eq_true rfl)) dX5_needs_8 ⟨Nat.le_of_ble_eq_true rfl, Nat.le_of_ble_eq_true rfl⟩) hPs hDs hS hA (fun r5 u6 H locs hw7 hP hD hS => ?_)
    have hP : va_P D vwCl (MO cI h0 a sv pa pn sn kp pd ln so po wr lt fr sc tm hd st) H := hP
    have hD : va_D A (MO cI h0 a sv pa pn sn kp pd ln so po wr lt fr sc tm hd st) := hD
    have hw7 : r5 = (sh_X5_areDots x2) := hw7
    subst hw7
    refine lv_if_eq (tgt := 23) hx hb dX5_needs_11 (by decide) (fun c8 => ?_) (fun c8 => ?_)
    · have hq := it_pos hq c8
      refine lv_iconst (v := (-1)) hx hb dX5_needs_23 (by decide) ?_
      exact hret _ _ _ _ ((-1)) () dX5_needs_24 rfl (hq.symm.trans hX) hP hD hS
    · have hq := it_neg hq c8
      refine lv_iload_n hx hb dX5_needs_14 rfl (lv_at hl 3 rfl) ?_
      refine lv_iconst (v := 0) hx hb dX5_needs_15 (by decide) ?_
      refine lv_iconst (v := 1) hx hb dX5_needs_16 (by decide) ?_
      have hPs : va_P D vwCl ([] ++ ([] ++ (MO cI h0 a sv pa pn sn kp pd ln so po wr lt fr sc tm hd st))) H := hP
      have hDs : va_D A ([] ++ ([] ++ (MO cI h0 a sv pa pn sn kp pd ln so po wr lt fr sc tm hd st))) := hD
      refine k_behi (X := []) (Y := (MO cI h0 a sv pa pn sn kp pd ln so po wr lt fr sc tm hd st)) (va_runS (As := [.int x3, .int 0, .int 1]) (rest := []) ⟨hx, hb, hml, hown, hts⟩ (c_X5_in l D cI cC cQ H.size x3 0 1) (kcwS hts wd_ml_RX5_25 wd_st_yX5_in wd_ini_RX5 wd_code_yX5_in rfl rfl hd_X5_in ⟨Nat.le_of_ble_eq_true rfl, Nat.le_of_ble_eq_true rfl⟩) ⟨in_blind, k_pre hK (pa_l (pa_r hPs)) (da_l (da_r hDs)) hN⟩ rfl rfl hl.1 rfl (lv_room (Nat.le_of_ble_eq_true rfl)) dX5_needs_17 ⟨Nat.le_of_ble_eq_true rfl, Nat.le_of_ble_eq_true rfl⟩) hPs hDs hS hA (fun r9 u10 H locs hw11 hP hD hS => ?_)
      have hP : va_P D vwCl (MO cI h0 a sv pa pn sn kp pd ln so po wr lt fr sc tm hd st) H := hP
      have hD : va_D A (MO cI h0 a sv pa pn sn kp pd ln so po wr lt fr sc tm hd st) := hD
      have hw11 : r9 = (sh_X5_in x3 0 1) := hw11
      subst hw11
      refine lv_if_ne (tgt := 25) hx hb dX5_needs_20 (by decide) (fun c12 => ?_) (fun c12 => ?_)
      · have hq := it_neg hq c12
        refine lv_iload_n hx hb dX5_needs_25 rfl (lv_at hl 3 rfl) ?_
        refine lv_if_ne (tgt := 45) hx hb dX5_needs_26 (by decide) (fun c13 => ?_) (fun c13 => ?_)
        · have hq := it_neg hq c13
          refine lv_aload_n hx hb dX5_needs_45 rfl (lv_at hl 0 rfl) ?_
          refine lv_iload_n hx hb dX5_needs_46 rfl (lv_at hl 1 rfl) ?_
          refine lv_iload_n hx hb dX5_needs_47 rfl (lv_at hl 2 rfl) ?_
          have hPs := k_self hP
          have hDs := k_selfD hD
          refine k_behi (X := []) (Y := []) (va_runV (As := [.int x1, .int x2]) (rest := []) ⟨hx, hb, hml, hown, hts⟩ (c_X5_counted l D cI cC cQ H.size h0 a sv pa pn sn kp pd ln so po wr lt fr sc tm hd st x1 x2 ((mIn4 c4))) (kcwV hts wd_ml_RX5_44 wd_im_yX5_counted wd_sel_yX5_counted wd_ini_RX5 wd_code_yX5_counted rfl rfl rfl hd_X5_counted ⟨Nat.le_of_ble_eq_true rfl, Nat.le_of_ble_eq_true rfl⟩) ⟨in_blind, va_recv hK (pa_l (pa_r hPs)) (ci := 5) (q0 := 0) rfl rfl, k_pre hK (pa_l (pa_r hPs)) (da_l (da_r hDs)) hN⟩ rfl rfl hl.1 rfl (lv_room (Nat.le_of_ble_eq_true rfl)) dX5_needs_48 ⟨Nat.le_of_ble_eq_true rfl, Nat.le_of_ble_eq_true rfl⟩) hPs hDs hS hA (fun r14 u15 H locs hw16 hP hD hS => ?_)
          have hP := k_unP hP
          have hD := k_unD hD
          have hP : va_P D vwCl (MO cI h0 a sv pa pn sn kp pd ln so po wr lt fr sc tm hd st) H := hP
          have hD : va_D A (MO cI h0 a sv pa pn sn kp pd ln so po wr lt fr sc tm hd st) := hD
          have hw16 : r14 = (sh_X5_counted sv x1 x2) := hw16
          subst hw16
          exact hret _ _ _ _ ((sh_X5_counted sv x1 x2)) () dX5_needs_51 rfl (hq.symm.trans hX) hP hD hS
        · have hq := it_pos hq c13
          refine lv_aload_n hx hb dX5_needs_29 rfl (lv_at hl 0 rfl) ?_
          refine lv_iload_n hx hb dX5_needs_30 rfl (lv_at hl 1 rfl) ?_
          refine lv_iload_n hx hb dX5_needs_31 rfl (lv_at hl 2 rfl) ?_
          refine lv_aload_n hx hb dX5_needs_32 rfl (lv_at hl 0 rfl) ?_
          refine va_get (D := D) (ci := 5) (v := .ref (a 0)) (C := RX5) (T := TX5) (N := 16) hx hb hts inA5 hown hK hP 0 rfl rfl 0 (by decide) (hts _ wd_fl_RX5_7) (fun _ h9 => h9) rfl dX5_needs_33 ?_
          refine lv_bipush (v := 31) hx hb dX5_needs_36 (by decide) ?_
          refine va_iald hx hb hK hP 1 0 rfl rfl (k_in (by decide)) dX5_needs_38 ?_
          have hPs := k_self hP
          have hDs := k_selfD hD
          refine k_behi (X := []) (Y := []) (va_runV (As := [.int x1, .int x2, .int (sv (31 : Int32).toNatClampNeg)]) (rest := []) ⟨hx, hb, hml, hown, hts⟩ (c_X5_need l D cI cC cQ H.size h0 a sv pa pn sn kp pd ln so po wr lt fr sc tm hd st x1 x2 (sv (31 : Int32).toNatClampNeg) ((mIn4 c4))) (kcwV hts wd_ml_RX5_33 wd_im_yX5_need wd_sel_yX5_need wd_ini_RX5 wd_code_yX5_need rfl rfl rfl hd_X5_need ⟨Nat.le_of_ble_eq_true rfl, Nat.le_of_ble_eq_true rfl⟩) ⟨in_blind, va_recv hK (pa_l (pa_r hPs)) (ci := 5) (q0 := 0) rfl rfl, k_pre hK (pa_l (pa_r hPs)) (da_l (da_r hDs)) hN⟩ rfl rfl hl.1 rfl (lv_room (Nat.le_of_ble_eq_true rfl)) dX5_needs_39 ⟨Nat.le_of_ble_eq_true rfl, Nat.le_of_ble_eq_true rfl⟩) hPs hDs hS hA (fun r17 u18 H locs hw19 hP hD hS => ?_)
          have hP := k_unP hP
          have hD := k_unD hD
          have hP : va_P D vwCl (MO cI h0 a sv pa pn sn kp pd ln so po wr lt fr sc tm hd st) H := hP
          have hD : va_D A (MO cI h0 a sv pa pn sn kp pd ln so po wr lt fr sc tm hd st) := hD
          have hw19 : r17 = (sh_X5_need sv x1 x2 (sv (31 : Int32).toNatClampNeg)) := hw19
          subst hw19
          refine lv_goto (tgt := 51) hx hb dX5_needs_42 (by decide) ?_
          exact hret _ _ _ _ ((sh_X5_need sv x1 x2 (sv (31 : Int32).toNatClampNeg))) () dX5_needs_51 rfl (hq.symm.trans hX) hP hD hS
      · have hq := it_pos hq c12
        refine lv_iconst (v := (-1)) hx hb dX5_needs_23 (by decide) ?_
        exact hret _ _ _ _ ((-1)) () dX5_needs_24 rfl (hq.symm.trans hX) hP hD hS
def sh_X5_whyNot (sv : Nat → Int32) (x1 : Int32) : Int32 := (if (sh_X5_isPrinter x1) = 0 then (-1 : Int32) else (sh_X5_reason sv x1))
abbrev rm_X5_whyNot : Room := { frames := 2, cells := 0, slots := 0, locals := 42 }
theorem hd_X5_whyNot : hdT yX5_whyNot 1 := by decide +kernel
set_option maxHeartbeats 40000000 in
set_option maxRecDepth 100000 in
theorem c_X5_whyNot (l : Launch) (D : va_G) (cI cC cQ : ClassId) (sz : Nat) (h0 : Nat) (a : Nat → Nat) (sv : Nat → Int32) (pa : Nat → Int32) (pn : Int32) (sn : Nat → Int32) (kp : Int32) (pd : Nat → Int32) (ln : Int32) (so : Nat → Int32) (po : Int32) (wr : Int32) (lt : Int32) (fr : Int32) (sc : Int32) (tm : Int32) (hd : Int32) (st : Int32) (x1 : Int32) (hiv : iv sv) : Met l yX5_whyNot (wsO yX5_whyNot cX5_whyNot 2 (some .int)) rm_X5_whyNot (va_Pc [.ref h0, .int x1] (inW D (TYS cI cC cQ) (MO cI h0 a sv pa pn sn kp pd ln so po wr lt fr sc tm hd st) sz)) (va_Qi (fun (r : Int32) (_ : Unit) => r = sh_X5_whyNot sv x1) (fun (u : Unit) => atW D (TYS cI cC cQ) (va_A (MO cI h0 a sv pa pn sn kp pd ln so po wr lt fr sc tm hd st) sz) (MO cI h0 a sv pa pn sn kp pd ln so po wr lt fr sc tm hd st)) (va_A (MO cI h0 a sv pa pn sn kp pd ln so po wr lt fr sc tm hd st) sz)) 0 0 (va_A (MO cI h0 a sv pa pn sn kp pd ln so po wr lt fr sc tm hd st) sz) := by
  refine k_meti .int rfl (by decide) (Nat.le_of_ble_eq_true rfl) ?_
  intro p e s m args below meth c A ls Q H locs hargs hret hx hb hts hown hml hname hN hA hS hP hK hD hl
  have hl : lv_has ls 2 [(0, .ref h0), (1, .int x1)] := hl
  obtain ⟨Xq, hX⟩ : ∃ Xq, Xq = sh_X5_whyNot sv x1 := ⟨_, rfl⟩
  have hq : Xq = (if (sh_X5_isPrinter x1) = 0 then (-1 : Int32) else (sh_X5_reason sv x1)) := hX
  refine lv_iload_n hx hb dX5_whyNot_0 rfl (lv_at hl 1 rfl) ?_
  have hPs : va_P D vwCl ([] ++ ([] ++ (MO cI h0 a sv pa pn sn kp pd ln so po wr lt fr sc tm hd st))) H := hP
  have hDs : va_D A ([] ++ ([] ++ (MO cI h0 a sv pa pn sn kp pd ln so po wr lt fr sc tm hd st))) := hD
  refine k_behi (X := []) (Y := (MO cI h0 a sv pa pn sn kp pd ln so po wr lt fr sc tm hd st)) (va_runS (As := [.int x1]) (rest := []) ⟨hx, hb, hml, hown, hts⟩ (c_X5_isPrinter l D cI cC cQ H.size x1) (kcwS hts wd_ml_RX5_48 wd_st_yX5_isPrinter wd_ini_RX5 wd_code_yX5_isPrinter rfl rfl hd_X5_isPrinter ⟨Nat.le_of_ble_eq_true rfl, Nat.le_of_ble_eq_true rfl⟩) ⟨in_blind, k_pre hK (pa_l (pa_r hPs)) (da_l (da_r hDs)) hN⟩ rfl rfl hl.1 rfl (lv_room (Nat.le_of_ble_eq_true rfl)) dX5_whyNot_1 ⟨Nat.le_of_ble_eq_true rfl, Nat.le_of_ble_eq_true rfl⟩) hPs hDs hS hA (fun r1 u2 H locs hw3 hP hD hS => ?_)
  have hP : va_P D vwCl (MO cI h0 a sv pa pn sn kp pd ln so po wr lt fr sc tm hd st) H := hP
  have hD : va_D A (MO cI h0 a sv pa pn sn kp pd ln so po wr lt fr sc tm hd st) := hD
  have hw3 : r1 = (sh_X5_isPrinter x1) := hw3
  subst hw3
  refine lv_if_eq (tgt := 15) hx hb dX5_whyNot_4 (by decide) (fun c4 => ?_) (fun c4 => ?_)
  · have hq := it_pos hq c4
    refine lv_iconst (v := (-1)) hx hb dX5_whyNot_15 (by decide) ?_
    exact hret _ _ _ _ ((-1)) () dX5_whyNot_16 rfl (hq.symm.trans hX) hP hD hS
  · have hq := it_neg hq c4
    refine lv_aload_n hx hb dX5_whyNot_7 rfl (lv_at hl 0 rfl) ?_
    refine lv_iload_n hx hb dX5_whyNot_8 rfl (lv_at hl 1 rfl) ?_
    have hPs := k_self hP
    have hDs := k_selfD hD
    refine k_behi (X := []) (Y := []) (va_runV (As := [.int x1]) (rest := []) ⟨hx, hb, hml, hown, hts⟩ (c_X5_reason l D cI cC cQ H.size h0 a sv pa pn sn kp pd ln so po wr lt fr sc tm hd st x1 ((mIn2 c4)) (hiv)) (kcwV hts wd_ml_RX5_41 wd_im_yX5_reason wd_sel_yX5_reason wd_ini_RX5 wd_code_yX5_reason rfl rfl rfl hd_X5_reason ⟨Nat.le_of_ble_eq_true rfl, Nat.le_of_ble_eq_true rfl⟩) ⟨in_blind, va_recv hK (pa_l (pa_r hPs)) (ci := 5) (q0 := 0) rfl rfl, k_pre hK (pa_l (pa_r hPs)) (da_l (da_r hDs)) hN⟩ rfl rfl hl.1 rfl (lv_room (Nat.le_of_ble_eq_true rfl)) dX5_whyNot_9 ⟨Nat.le_of_ble_eq_true rfl, Nat.le_of_ble_eq_true rfl⟩) hPs hDs hS hA (fun r5 u6 H locs hw7 hP hD hS => ?_)
    have hP := k_unP hP
    have hD := k_unD hD
    have hP : va_P D vwCl (MO cI h0 a sv pa pn sn kp pd ln so po wr lt fr sc tm hd st) H := hP
    have hD : va_D A (MO cI h0 a sv pa pn sn kp pd ln so po wr lt fr sc tm hd st) := hD
    have hw7 : r5 = (sh_X5_reason sv x1) := hw7
    subst hw7
    refine lv_goto (tgt := 16) hx hb dX5_whyNot_12 (by decide) ?_
    exact hret _ _ _ _ ((sh_X5_reason sv x1)) () dX5_whyNot_16 rfl (hq.symm.trans hX) hP hD hS
def sh_X5_count (sv : Nat → Int32) (pn : Int32) (ln : Int32) (x1 : Int32) : Int32 := (if x1 = 0 then (sh_X5_toner sv) else (if x1 = 1 then (sv (28 : Int32).toNatClampNeg) else (if x1 = 2 then (sv (29 : Int32).toNatClampNeg) else (if x1 = 3 then (sv (30 : Int32).toNatClampNeg) else (if x1 = 4 then (sh_X5_allPages sv) else (if x1 = 5 then (kb (α := (Int32)) (if (sv (16 : Int32).toNatClampNeg) = (-1) then 0 else 1) (fun z_v23 => (kb (α := (Int32)) (if (sv (17 : Int32).toNatClampNeg) = (-1) then 0 else 1) (fun z_v26 => (z_v23 + z_v26))))) else (if x1 = 6 then (sh_X5_allLeft sv) else (if x1 = 7 then (sh_X5_boasts sv) else (if x1 = 8 then (sv ((31 + x1) - 8).toNatClampNeg) else (if x1 = 9 then (sv ((31 + x1) - 8).toNatClampNeg) else (if x1 = 10 then (sv ((31 + x1) - 8).toNatClampNeg) else (if x1 = 11 then (sv ((31 + x1) - 8).toNatClampNeg) else (if x1 = 12 then ln else (if x1 = 13 then pn else (-1 : Int32)))))))))))))))
abbrev rm_X5_count : Room := { frames := 4, cells := 0, slots := 0, locals := 85 }
theorem hd_X5_count : hdT yX5_count 1 := by decide +kernel
set_option maxHeartbeats 40000000 in
set_option maxRecDepth 100000 in
theorem c_X5_count (l : Launch) (D : va_G) (cI cC cQ : ClassId) (sz : Nat) (h0 : Nat) (a : Nat → Nat) (sv : Nat → Int32) (pa : Nat → Int32) (pn : Int32) (sn : Nat → Int32) (kp : Int32) (pd : Nat → Int32) (ln : Int32) (so : Nat → Int32) (po : Int32) (wr : Int32) (lt : Int32) (fr : Int32) (sc : Int32) (tm : Int32) (hd : Int32) (st : Int32) (x1 : Int32) (hiv : iv sv) : Met l yX5_count (wsO yX5_count cX5_count 2 (some .int)) rm_X5_count (va_Pc [.ref h0, .int x1] (inW D (TYS cI cC cQ) (MO cI h0 a sv pa pn sn kp pd ln so po wr lt fr sc tm hd st) sz)) (va_Qi (fun (r : Int32) (_ : Unit) => r = sh_X5_count sv pn ln x1) (fun (u : Unit) => atW D (TYS cI cC cQ) (va_A (MO cI h0 a sv pa pn sn kp pd ln so po wr lt fr sc tm hd st) sz) (MO cI h0 a sv pa pn sn kp pd ln so po wr lt fr sc tm hd st)) (va_A (MO cI h0 a sv pa pn sn kp pd ln so po wr lt fr sc tm hd st) sz)) 0 0 (va_A (MO cI h0 a sv pa pn sn kp pd ln so po wr lt fr sc tm hd st) sz) := by
  refine k_meti .int rfl (by decide) (Nat.le_of_ble_eq_true rfl) ?_
  intro p e s m args below meth c A ls Q H locs hargs hret hx hb hts hown hml hname hN hA hS hP hK hD hl
  have hl : lv_has ls 2 [(0, .ref h0), (1, .int x1)] := hl
  obtain ⟨Xq, hX⟩ : ∃ Xq, Xq = sh_X5_count sv pn ln x1 := ⟨_, rfl⟩
  have hq : Xq = (if x1 = 0 then (sh_X5_toner sv) else (if x1 = 1 then (sv (28 : Int32).toNatClampNeg) else (if x1 = 2 then (sv (29 : Int32).toNatClampNeg) else (if x1 = 3 then (sv (30 : Int32).toNatClampNeg) else (if x1 = 4 then (sh_X5_allPages sv) else (if x1 = 5 then (kb (α := (Int32)) (if (sv (16 : Int32).toNatClampNeg) = (-1) then 0 else 1) (fun z_v23 => (kb (α := (Int32)) (if (sv (17 : Int32).toNatClampNeg) = (-1) then 0 else 1) (fun z_v26 => (z_v23 + z_v26))))) else (if x1 = 6 then (sh_X5_allLeft sv) else (if x1 = 7 then (sh_X5_boasts sv) else (if x1 = 8 then (sv ((31 + x1) - 8).toNatClampNeg) else (if x1 = 9 then (sv ((31 + x1) - 8).toNatClampNeg) else (if x1 = 10 then (sv ((31 + x1) - 8).toNatClampNeg) else (if x1 = 11 then (sv ((31 + x1) - 8).toNatClampNeg) else (if x1 = 12 then ln else (if x1 = 13 then pn else (-1 : Int32))))))))))))))) := hX
  refine lv_iload_n hx hb dX5_count_0 rfl (lv_at hl 1 rfl) ?_
  by_cases c1 : x1 = 0
  · have hq := it_pos hq c1
    refine lv_tableIn (tgt := 72) hx hb dX5_count_1 (by rw [c1]; decide) (by rw [c1]; decide) (by rw [c1] <;> rfl) (by decide) ?_
    refine lv_aload_n hx hb dX5_count_72 rfl (lv_at hl 0 rfl) ?_
    have hPs := k_self hP
    have hDs := k_selfD hD
    refine k_behi (X := []) (Y := []) (va_runV (As := []) (rest := []) ⟨hx, hb, hml, hown, hts⟩ (c_X5_toner l D cI cC cQ H.size h0 a sv pa pn sn kp pd ln so po wr lt fr sc tm hd st ) (kcwV hts wd_ml_RX5_138 wd_im_yX5_toner wd_sel_yX5_toner wd_ini_RX5 wd_code_yX5_toner rfl rfl rfl hd_X5_toner ⟨Nat.le_of_ble_eq_true rfl, Nat.le_of_ble_eq_true rfl⟩) ⟨in_blind, va_recv hK (pa_l (pa_r hPs)) (ci := 5) (q0 := 0) rfl rfl, k_pre hK (pa_l (pa_r hPs)) (da_l (da_r hDs)) hN⟩ rfl rfl hl.1 rfl (lv_room (Nat.le_of_ble_eq_true rfl)) dX5_count_73 ⟨Nat.le_of_ble_eq_true rfl, Nat.le_of_ble_eq_true rfl⟩) hPs hDs hS hA (fun r15 u16 H locs hw17 hP hD hS => ?_)
    have hP := k_unP hP
    have hD := k_unD hD
    have hP : va_P D vwCl (MO cI h0 a sv pa pn sn kp pd ln so po wr lt fr sc tm hd st) H := hP
    have hD : va_D A (MO cI h0 a sv pa pn sn kp pd ln so po wr lt fr sc tm hd st) := hD
    have hw17 : r15 = (sh_X5_toner sv) := hw17
    subst hw17
    exact hret _ _ _ _ ((sh_X5_toner sv)) () dX5_count_76 rfl (hq.symm.trans hX) hP hD hS
  have hq := it_neg hq c1
  by_cases c2 : x1 = 1
  · have hq := it_pos hq c2
    refine lv_tableIn (tgt := 77) hx hb dX5_count_1 (by rw [c2]; decide) (by rw [c2]; decide) (by rw [c2] <;> rfl) (by decide) ?_
    refine lv_aload_n hx hb dX5_count_77 rfl (lv_at hl 0 rfl) ?_
    refine va_get (D := D) (ci := 5) (v := .ref (a 0)) (C := RX5) (T := TX5) (N := 16) hx hb hts inA5 hown hK hP 0 rfl rfl 0 (by decide) (hts _ wd_fl_RX5_7) (fun _ h9 => h9) rfl dX5_count_78 ?_
    refine lv_bipush (v := 28) hx hb dX5_count_81 (by decide) ?_
    refine va_iald hx hb hK hP 1 0 rfl rfl (k_in (by decide)) dX5_count_83 ?_
    exact hret _ _ _ _ ((sv (28 : Int32).toNatClampNeg)) () dX5_count_84 rfl (hq.symm.trans hX) hP hD hS
  have hq := it_neg hq c2
  by_cases c3 : x1 = 2
  · have hq := it_pos hq c3
    refine lv_tableIn (tgt := 85) hx hb dX5_count_1 (by rw [c3]; decide) (by rw [c3]; decide) (by rw [c3] <;> rfl) (by decide) ?_
    refine lv_aload_n hx hb dX5_count_85 rfl (lv_at hl 0 rfl) ?_
    refine va_get (D := D) (ci := 5) (v := .ref (a 0)) (C := RX5) (T := TX5) (N := 16) hx hb hts inA5 hown hK hP 0 rfl rfl 0 (by decide) (hts _ wd_fl_RX5_7) (fun _ h9 => h9) rfl dX5_count_86 ?_
    refine lv_bipush (v := 29) hx hb dX5_count_89 (by decide) ?_
    refine va_iald hx hb hK hP 1 0 rfl rfl (k_in (by decide)) dX5_count_91 ?_
    exact hret _ _ _ _ ((sv (29 : Int32).toNatClampNeg)) () dX5_count_92 rfl (hq.symm.trans hX) hP hD hS
  have hq := it_neg hq c3
  by_cases c4 : x1 = 3
  · have hq := it_pos hq c4
    refine lv_tableIn (tgt := 93) hx hb dX5_count_1 (by rw [c4]; decide) (by rw [c4]; decide) (by rw [c4] <;> rfl) (by decide) ?_
    refine lv_aload_n hx hb dX5_count_93 rfl (lv_at hl 0 rfl) ?_
    refine va_get (D := D) (ci := 5) (v := .ref (a 0)) (C := RX5) (T := TX5) (N := 16) hx hb hts inA5 hown hK hP 0 rfl rfl 0 (by decide) (hts _ wd_fl_RX5_7) (fun _ h9 => h9) rfl dX5_count_94 ?_
    refine lv_bipush (v := 30) hx hb dX5_count_97 (by decide) ?_
    refine va_iald hx hb hK hP 1 0 rfl rfl (k_in (by decide)) dX5_count_99 ?_
    exact hret _ _ _ _ ((sv (30 : Int32).toNatClampNeg)) () dX5_count_100 rfl (hq.symm.trans hX) hP hD hS
  have hq := it_neg hq c4
  by_cases c5 : x1 = 4
  · have hq := it_pos hq c5
    refine lv_tableIn (tgt := 101) hx hb dX5_count_1 (by rw [c5]; decide) (by rw [c5]; decide) (by rw [c5] <;> rfl) (by decide) ?_
    refine lv_aload_n hx hb dX5_count_101 rfl (lv_at hl 0 rfl) ?_
    have hPs := k_self hP
    have hDs := k_selfD hD
    refine k_behi (X := []) (Y := []) (va_runV (As := []) (rest := []) ⟨hx, hb, hml, hown, hts⟩ (c_X5_allPages l D cI cC cQ H.size h0 a sv pa pn sn kp pd ln so po wr lt fr sc tm hd st ) (kcwV hts wd_ml_RX5_141 wd_im_yX5_allPages wd_sel_yX5_allPages wd_ini_RX5 wd_code_yX5_allPages rfl rfl rfl hd_X5_allPages ⟨Nat.le_of_ble_eq_true rfl, Nat.le_of_ble_eq_true rfl⟩) ⟨in_blind, va_recv hK (pa_l (pa_r hPs)) (ci := 5) (q0 := 0) rfl rfl, k_pre hK (pa_l (pa_r hPs)) (da_l (da_r hDs)) hN⟩ rfl rfl hl.1 rfl (lv_room (Nat.le_of_ble_eq_true rfl)) dX5_count_102 ⟨Nat.le_of_ble_eq_true rfl, Nat.le_of_ble_eq_true rfl⟩) hPs hDs hS hA (fun r18 u19 H locs hw20 hP hD hS => ?_)
    have hP := k_unP hP
    have hD := k_unD hD
    have hP : va_P D vwCl (MO cI h0 a sv pa pn sn kp pd ln so po wr lt fr sc tm hd st) H := hP
    have hD : va_D A (MO cI h0 a sv pa pn sn kp pd ln so po wr lt fr sc tm hd st) := hD
    have hw20 : r18 = (sh_X5_allPages sv) := hw20
    subst hw20
    exact hret _ _ _ _ ((sh_X5_allPages sv)) () dX5_count_105 rfl (hq.symm.trans hX) hP hD hS
  have hq := it_neg hq c5
  by_cases c6 : x1 = 5
  · have hq := it_pos hq c6
    refine lv_tableIn (tgt := 106) hx hb dX5_count_1 (by rw [c6]; decide) (by rw [c6]; decide) (by rw [c6] <;> rfl) (by decide) ?_
    refine lv_aload_n hx hb dX5_count_106 rfl (lv_at hl 0 rfl) ?_
    refine va_get (D := D) (ci := 5) (v := .ref (a 0)) (C := RX5) (T := TX5) (N := 16) hx hb hts inA5 hown hK hP 0 rfl rfl 0 (by decide) (hts _ wd_fl_RX5_7) (fun _ h9 => h9) rfl dX5_count_107 ?_
    refine lv_bipush (v := 16) hx hb dX5_count_110 (by decide) ?_
    refine va_iald hx hb hK hP 1 0 rfl rfl (k_in (by decide)) dX5_count_112 ?_
    refine lv_iconst (v := (-1)) hx hb dX5_count_113 (by decide) ?_
    have K : ∀ (v23 : Int32) (H : Heap) (locs : List Loc) (ls : Array Slot), v23 = (if (sv (16 : Int32).toNatClampNeg) = (-1) then 0 else 1) → va_P D vwCl (MO cI h0 a sv pa pn sn kp pd ln so po wr lt fr sc tm hd st) H → va_D A (MO cI h0 a sv pa pn sn kp pd ln so po wr lt fr sc tm hd st) → va_S A s.heap H locs → lv_has ls 2 [(0, .ref h0), (1, .int x1)] → W p l e rm_X5_count s m args below meth c H locs 0 0 Q (F0 m 122 ls [.int v23]) := by
      intro v23 H locs ls hv22 hP hD hS hl
      have hq := kb_to hq hv22
      refine lv_aload_n hx hb dX5_count_122 rfl (lv_at hl 0 rfl) ?_
      refine va_get (D := D) (ci := 5) (v := .ref (a 0)) (C := RX5) (T := TX5) (N := 16) hx hb hts inA5 hown hK hP 0 rfl rfl 0 (by decide) (hts _ wd_fl_RX5_7) (fun _ h9 => h9) rfl dX5_count_123 ?_
      refine lv_bipush (v := 17) hx hb dX5_count_126 (by decide) ?_
      refine va_iald hx hb hK hP 1 0 rfl rfl (k_in (by decide)) dX5_count_128 ?_
      refine lv_iconst (v := (-1)) hx hb dX5_count_129 (by decide) ?_
      have K : ∀ (v26 : Int32) (H : Heap) (locs : List Loc) (ls : Array Slot), v26 = (if (sv (17 : Int32).toNatClampNeg) = (-1) then 0 else 1) → va_P D vwCl (MO cI h0 a sv pa pn sn kp pd ln so po wr lt fr sc tm hd st) H → va_D A (MO cI h0 a sv pa pn sn kp pd ln so po wr lt fr sc tm hd st) → va_S A s.heap H locs → lv_has ls 2 [(0, .ref h0), (1, .int x1)] → W p l e rm_X5_count s m args below meth c H locs 0 0 Q (F0 m 138 ls [.int v26, .int v23]) := by
        intro v26 H locs ls hv25 hP hD hS hl
        have hq := kb_to hq hv25
        refine lv_iadd hx hb dX5_count_138 ?_
        exact hret _ _ _ _ ((v23 + v26)) () dX5_count_139 rfl (hq.symm.trans hX) hP hD hS
      refine lv_icmp_ne (tgt := 137) hx hb dX5_count_130 (by decide) (fun c24 => ?_) (fun c24 => ?_)
      · skip
        refine lv_iconst (v := 1) hx hb dX5_count_137 (by decide) ?_
        exact K (1) _ _ _ (by rw [if_neg c24]) hP hD hS (lv_sub hl [0, 1] rfl)
      · skip
        refine lv_iconst (v := 0) hx hb dX5_count_133 (by decide) ?_
        refine lv_goto (tgt := 138) hx hb dX5_count_134 (by decide) ?_
        exact K (0) _ _ _ (by rw [if_pos c24]) hP hD hS (lv_sub hl [0, 1] rfl)
    refine lv_icmp_ne (tgt := 121) hx hb dX5_count_114 (by decide) (fun c21 => ?_) (fun c21 => ?_)
    · skip
      refine lv_iconst (v := 1) hx hb dX5_count_121 (by decide) ?_
      exact K (1) _ _ _ (by rw [if_neg c21]) hP hD hS (lv_sub hl [0, 1] rfl)
    · skip
      refine lv_iconst (v := 0) hx hb dX5_count_117 (by decide) ?_
      refine lv_goto (tgt := 122) hx hb dX5_count_118 (by decide) ?_
      exact K (0) _ _ _ (by rw [if_pos c21]) hP hD hS (lv_sub hl [0, 1] rfl)
  have hq := it_neg hq c6
  by_cases c7 : x1 = 6
  · have hq := it_pos hq c7
    refine lv_tableIn (tgt := 140) hx hb dX5_count_1 (by rw [c7]; decide) (by rw [c7]; decide) (by rw [c7] <;> rfl) (by decide) ?_
    refine lv_aload_n hx hb dX5_count_140 rfl (lv_at hl 0 rfl) ?_
    have hPs := k_self hP
    have hDs := k_selfD hD
    refine k_behi (X := []) (Y := []) (va_runV (As := []) (rest := []) ⟨hx, hb, hml, hown, hts⟩ (c_X5_allLeft l D cI cC cQ H.size h0 a sv pa pn sn kp pd ln so po wr lt fr sc tm hd st (hiv)) (kcwV hts wd_ml_RX5_144 wd_im_yX5_allLeft wd_sel_yX5_allLeft wd_ini_RX5 wd_code_yX5_allLeft rfl rfl rfl hd_X5_allLeft ⟨Nat.le_of_ble_eq_true rfl, Nat.le_of_ble_eq_true rfl⟩) ⟨in_blind, va_recv hK (pa_l (pa_r hPs)) (ci := 5) (q0 := 0) rfl rfl, k_pre hK (pa_l (pa_r hPs)) (da_l (da_r hDs)) hN⟩ rfl rfl hl.1 rfl (lv_room (Nat.le_of_ble_eq_true rfl)) dX5_count_141 ⟨Nat.le_of_ble_eq_true rfl, Nat.le_of_ble_eq_true rfl⟩) hPs hDs hS hA (fun r27 u28 H locs hw29 hP hD hS => ?_)
    have hP := k_unP hP
    have hD := k_unD hD
    have hP : va_P D vwCl (MO cI h0 a sv pa pn sn kp pd ln so po wr lt fr sc tm hd st) H := hP
    have hD : va_D A (MO cI h0 a sv pa pn sn kp pd ln so po wr lt fr sc tm hd st) := hD
    have hw29 : r27 = (sh_X5_allLeft sv) := hw29
    subst hw29
    exact hret _ _ _ _ ((sh_X5_allLeft sv)) () dX5_count_144 rfl (hq.symm.trans hX) hP hD hS
  have hq := it_neg hq c7
  by_cases c8 : x1 = 7
  · have hq := it_pos hq c8
    refine lv_tableIn (tgt := 145) hx hb dX5_count_1 (by rw [c8]; decide) (by rw [c8]; decide) (by rw [c8] <;> rfl) (by decide) ?_
    refine lv_aload_n hx hb dX5_count_145 rfl (lv_at hl 0 rfl) ?_
    have hPs := k_self hP
    have hDs := k_selfD hD
    refine k_behi (X := []) (Y := []) (va_runV (As := []) (rest := []) ⟨hx, hb, hml, hown, hts⟩ (c_X5_boasts l D cI cC cQ H.size h0 a sv pa pn sn kp pd ln so po wr lt fr sc tm hd st (hiv)) (kcwV hts wd_ml_RX5_147 wd_im_yX5_boasts wd_sel_yX5_boasts wd_ini_RX5 wd_code_yX5_boasts rfl rfl rfl hd_X5_boasts ⟨Nat.le_of_ble_eq_true rfl, Nat.le_of_ble_eq_true rfl⟩) ⟨in_blind, va_recv hK (pa_l (pa_r hPs)) (ci := 5) (q0 := 0) rfl rfl, k_pre hK (pa_l (pa_r hPs)) (da_l (da_r hDs)) hN⟩ rfl rfl hl.1 rfl (lv_room (Nat.le_of_ble_eq_true rfl)) dX5_count_146 ⟨Nat.le_of_ble_eq_true rfl, Nat.le_of_ble_eq_true rfl⟩) hPs hDs hS hA (fun r30 u31 H locs hw32 hP hD hS => ?_)
    have hP := k_unP hP
    have hD := k_unD hD
    have hP : va_P D vwCl (MO cI h0 a sv pa pn sn kp pd ln so po wr lt fr sc tm hd st) H := hP
    have hD : va_D A (MO cI h0 a sv pa pn sn kp pd ln so po wr lt fr sc tm hd st) := hD
    have hw32 : r30 = (sh_X5_boasts sv) := hw32
    subst hw32
    exact hret _ _ _ _ ((sh_X5_boasts sv)) () dX5_count_149 rfl (hq.symm.trans hX) hP hD hS
  have hq := it_neg hq c8
  by_cases c9 : x1 = 8
  · have hq := it_pos hq c9
    refine lv_tableIn (tgt := 150) hx hb dX5_count_1 (by rw [c9]; decide) (by rw [c9]; decide) (by rw [c9] <;> rfl) (by decide) ?_
    refine lv_aload_n hx hb dX5_count_150 rfl (lv_at hl 0 rfl) ?_
    refine va_get (D := D) (ci := 5) (v := .ref (a 0)) (C := RX5) (T := TX5) (N := 16) hx hb hts inA5 hown hK hP 0 rfl rfl 0 (by decide) (hts _ wd_fl_RX5_7) (fun _ h9 => h9) rfl dX5_count_151 ?_
    refine lv_bipush (v := 31) hx hb dX5_count_154 (by decide) ?_
    refine lv_iload_n hx hb dX5_count_156 rfl (lv_at hl 1 rfl) ?_
    refine lv_iadd hx hb dX5_count_157 ?_
    refine lv_bipush (v := 8) hx hb dX5_count_158 (by decide) ?_
    refine lv_isub hx hb dX5_count_160 ?_
    refine va_iald hx hb hK hP 1 0 rfl rfl (by rw [c9]; exact k_in (by decide)) dX5_count_161 ?_
    exact hret _ _ _ _ ((sv ((31 + x1) - 8).toNatClampNeg)) () dX5_count_162 rfl (hq.symm.trans hX) hP hD hS
  have hq := it_neg hq c9
  by_cases c10 : x1 = 9
  · have hq := it_pos hq c10
    refine lv_tableIn (tgt := 150) hx hb dX5_count_1 (by rw [c10]; decide) (by rw [c10]; decide) (by rw [c10] <;> rfl) (by decide) ?_
    refine lv_aload_n hx hb dX5_count_150 rfl (lv_at hl 0 rfl) ?_
    refine va_get (D := D) (ci := 5) (v := .ref (a 0)) (C := RX5) (T := TX5) (N := 16) hx hb hts inA5 hown hK hP 0 rfl rfl 0 (by decide) (hts _ wd_fl_RX5_7) (fun _ h9 => h9) rfl dX5_count_151 ?_
    refine lv_bipush (v := 31) hx hb dX5_count_154 (by decide) ?_
    refine lv_iload_n hx hb dX5_count_156 rfl (lv_at hl 1 rfl) ?_
    refine lv_iadd hx hb dX5_count_157 ?_
    refine lv_bipush (v := 8) hx hb dX5_count_158 (by decide) ?_
    refine lv_isub hx hb dX5_count_160 ?_
    refine va_iald hx hb hK hP 1 0 rfl rfl (by rw [c10]; exact k_in (by decide)) dX5_count_161 ?_
    exact hret _ _ _ _ ((sv ((31 + x1) - 8).toNatClampNeg)) () dX5_count_162 rfl (hq.symm.trans hX) hP hD hS
  have hq := it_neg hq c10
  by_cases c11 : x1 = 10
  · have hq := it_pos hq c11
    refine lv_tableIn (tgt := 150) hx hb dX5_count_1 (by rw [c11]; decide) (by rw [c11]; decide) (by rw [c11] <;> rfl) (by decide) ?_
    refine lv_aload_n hx hb dX5_count_150 rfl (lv_at hl 0 rfl) ?_
    refine va_get (D := D) (ci := 5) (v := .ref (a 0)) (C := RX5) (T := TX5) (N := 16) hx hb hts inA5 hown hK hP 0 rfl rfl 0 (by decide) (hts _ wd_fl_RX5_7) (fun _ h9 => h9) rfl dX5_count_151 ?_
    refine lv_bipush (v := 31) hx hb dX5_count_154 (by decide) ?_
    refine lv_iload_n hx hb dX5_count_156 rfl (lv_at hl 1 rfl) ?_
    refine lv_iadd hx hb dX5_count_157 ?_
    refine lv_bipush (v := 8) hx hb dX5_count_158 (by decide) ?_
    refine lv_isub hx hb dX5_count_160 ?_
    refine va_iald hx hb hK hP 1 0 rfl rfl (by rw [c11]; exact k_in (by decide)) dX5_count_161 ?_
    exact hret _ _ _ _ ((sv ((31 + x1) - 8).toNatClampNeg)) () dX5_count_162 rfl (hq.symm.trans hX) hP hD hS
  have hq := it_neg hq c11
  by_cases c12 : x1 = 11
  · have hq := it_pos hq c12
    refine lv_tableIn (tgt := 150) hx hb dX5_count_1 (by rw [c12]; decide) (by rw [c12]; decide) (by rw [c12] <;> rfl) (by decide) ?_
    refine lv_aload_n hx hb dX5_count_150 rfl (lv_at hl 0 rfl) ?_
    refine va_get (D := D) (ci := 5) (v := .ref (a 0)) (C := RX5) (T := TX5) (N := 16) hx hb hts inA5 hown hK hP 0 rfl rfl 0 (by decide) (hts _ wd_fl_RX5_7) (fun _ h9 => h9) rfl dX5_count_151 ?_
    refine lv_bipush (v := 31) hx hb dX5_count_154 (by decide) ?_
    refine lv_iload_n hx hb dX5_count_156 rfl (lv_at hl 1 rfl) ?_
    refine lv_iadd hx hb dX5_count_157 ?_
    refine lv_bipush (v := 8) hx hb dX5_count_158 (by decide) ?_
    refine lv_isub hx hb dX5_count_160 ?_
    refine va_iald hx hb hK hP 1 0 rfl rfl (by rw [c12]; exact k_in (by decide)) dX5_count_161 ?_
    exact hret _ _ _ _ ((sv ((31 + x1) - 8).toNatClampNeg)) () dX5_count_162 rfl (hq.symm.trans hX) hP hD hS
  have hq := it_neg hq c12
  by_cases c13 : x1 = 12
  · have hq := it_pos hq c13
    refine lv_tableIn (tgt := 163) hx hb dX5_count_1 (by rw [c13]; decide) (by rw [c13]; decide) (by rw [c13] <;> rfl) (by decide) ?_
    refine lv_aload_n hx hb dX5_count_163 rfl (lv_at hl 0 rfl) ?_
    refine va_get (D := D) (ci := 5) (v := .int ln) (C := RX5) (T := TX5) (N := 16) hx hb hts inA5 hown hK hP 0 rfl rfl 6 (by decide) (hts _ wd_fl_RX5_82) (fun _ h9 => h9) rfl dX5_count_164 ?_
    exact hret _ _ _ _ (ln) () dX5_count_167 rfl (hq.symm.trans hX) hP hD hS
  have hq := it_neg hq c13
  by_cases c14 : x1 = 13
  · have hq := it_pos hq c14
    refine lv_tableIn (tgt := 168) hx hb dX5_count_1 (by rw [c14]; decide) (by rw [c14]; decide) (by rw [c14] <;> rfl) (by decide) ?_
    refine lv_aload_n hx hb dX5_count_168 rfl (lv_at hl 0 rfl) ?_
    refine va_get (D := D) (ci := 5) (v := .int pn) (C := RX5) (T := TX5) (N := 16) hx hb hts inA5 hown hK hP 0 rfl rfl 2 (by decide) (hts _ wd_fl_RX5_29) (fun _ h9 => h9) rfl dX5_count_169 ?_
    exact hret _ _ _ _ (pn) () dX5_count_172 rfl (hq.symm.trans hX) hP hD hS
  have hq := it_neg hq c14
  refine lv_tableOut (tgt := 173) hx hb dX5_count_1 (k_out14 c1 c2 c3 c4 c5 c6 c7 c8 c9 c10 c11 c12 c13 c14) (by decide) ?_
  refine lv_iconst (v := (-1)) hx hb dX5_count_173 (by decide) ?_
  exact hret _ _ _ _ ((-1)) () dX5_count_174 rfl (hq.symm.trans hX) hP hD hS
theorem k_mu0 {x v g z : Int32} {n : Nat} (h : (x.toInt - v.toInt).toNat + (if g = 0 then 0 else 1) < n + 1) (c : ¬ g = 0) (hz : z = 0) : (x.toInt - v.toInt).toNat + (if z = 0 then 0 else 1) < n := by
  rw [if_neg c] at h; rw [if_pos hz]; omega
theorem k_mu1 {x v g z : Int32} {n : Nat} (h : (x.toInt - v.toInt).toNat + (if g = 0 then 0 else 1) < n + 1) (c1 : ¬ x ≤ v) (c : ¬ g = 0) (hz : ¬ z = 0) : (x.toInt - (v + 1).toInt).toNat + (if z = 0 then 0 else 1) < n := by
  rw [if_neg c] at h; rw [if_neg hz]
  have h1 : (x.toInt - v.toInt).toNat < n + 1 := by omega
  have := k_mu h1 c1
  rw [Int32.le_iff_toInt_le] at c1
  have h1 := x.toInt_lt
  have h2 := v.le_toInt
  have e : (v + 1).toInt = v.toInt + 1 := by
    rw [Int32.toInt_add]
    exact Int.bmod_eq_of_le (by simp; omega) (by simp; omega)
  omega
def lp_X5_lastsFor_40 (sv : Nat → Int32) (x1 : Int32) (x2 : Int32) (x3 : Int32) (x4 : Int32) (x5 : Int32) : Nat → (Int32) → (Int32) → (Int32) → (Int32) → (Int32 × (Int32) × (Int32))
  | 0, _, _, _, _ => default
  | fu + 1, n7, g8, l_hd, l_st => (if g8 = 0 then (n7, l_hd, l_st) else (if x5 ≤ n7 then (n7, l_hd, l_st) else (kb (α := (Int32) × (Int32)) (if (sh_X5_isDark l_hd (sh_X5_need sv x1 x2 x3)) = 0 then (if x4 = 0 then (l_hd, l_st) else ((l_hd + (l_st / 2)), (l_st - (l_st / 2)))) else (l_hd, l_st)) (fun z_v37 => (if (sh_X5_isDark z_v37.1 (sh_X5_need sv x1 x2 x3)) = 0 then (lp_X5_lastsFor_40 sv x1 x2 x3 x4 x5 fu n7 (sh_X5_isDark z_v37.1 (sh_X5_need sv x1 x2 x3)) z_v37.1 z_v37.2) else (lp_X5_lastsFor_40 sv x1 x2 x3 x4 x5 fu (n7 + 1) (sh_X5_isDark z_v37.1 (sh_X5_need sv x1 x2 x3)) ((z_v37.1 - (sh_X5_need sv x1 x2 x3)) - ((z_v37.1 - (sh_X5_need sv x1 x2 x3)) / (sv (32 : Int32).toNatClampNeg))) (z_v37.2 + ((z_v37.1 - (sh_X5_need sv x1 x2 x3)) / (sv (32 : Int32).toNatClampNeg)))))))))
def sh_X5_lastsFor (sv : Nat → Int32) (x1 : Int32) (x2 : Int32) (x3 : Int32) (x4 : Int32) (x5 : Int32) : Int32 × (Int32) × (Int32) := (lp_X5_lastsFor_40 sv x1 x2 x3 x4 x5 (((x5.toInt - (0 : Int32).toInt).toNat + (if (1 : Int32) = 0 then 0 else 1)) + 1) 0 1 (sv (4 + x1).toNatClampNeg) (sv (8 + x1).toNatClampNeg))
abbrev rm_X5_lastsFor : Room := { frames := 1, cells := 0, slots := 0, locals := 24 }
theorem hd_X5_lastsFor : hdT yX5_lastsFor 5 := by decide +kernel
set_option maxHeartbeats 40000000 in
set_option maxRecDepth 100000 in
theorem c_X5_lastsFor (l : Launch) (D : va_G) (cI cC cQ : ClassId) (sz : Nat) (h0 : Nat) (a : Nat → Nat) (sv : Nat → Int32) (pa : Nat → Int32) (pn : Int32) (sn : Nat → Int32) (kp : Int32) (pd : Nat → Int32) (ln : Int32) (so : Nat → Int32) (po : Int32) (wr : Int32) (lt : Int32) (fr : Int32) (sc : Int32) (tm : Int32) (hd : Int32) (st : Int32) (x1 : Int32) (x2 : Int32) (x3 : Int32) (x4 : Int32) (x5 : Int32) (hi_x1 : vp_in x1 4) (hiv : iv sv) : Met l yX5_lastsFor (wsO yX5_lastsFor cX5_lastsFor 10 (some .int)) rm_X5_lastsFor (va_Pc [.ref h0, .int x1, .int x2, .int x3, .int x4, .int x5] (inW D (TYS cI cC cQ) (MO cI h0 a sv pa pn sn kp pd ln so po wr lt fr sc tm hd st) sz)) (va_Qi (fun (r : Int32) (u : (Int32) × (Int32)) => (r, u) = sh_X5_lastsFor sv x1 x2 x3 x4 x5) (fun (u : (Int32) × (Int32)) => atW D (TYS cI cC cQ) (va_A (MO cI h0 a sv pa pn sn kp pd ln so po wr lt fr sc tm hd st) sz) (MO cI h0 a sv pa pn sn kp pd ln so po wr lt fr sc tm u.1 u.2)) (va_A (MO cI h0 a sv pa pn sn kp pd ln so po wr lt fr sc tm hd st) sz)) 0 0 (va_A (MO cI h0 a sv pa pn sn kp pd ln so po wr lt fr sc tm hd st) sz) := by
  refine k_meti .int rfl (by decide) (Nat.le_of_ble_eq_true rfl) ?_
  intro p e s m args below meth c A ls Q H locs hargs hret hx hb hts hown hml hname hN hA hS hP hK hD hl
  have hl : lv_has ls 10 [(0, .ref h0), (1, .int x1), (2, .int x2), (3, .int x3), (4, .int x4), (5, .int x5)] := hl
  obtain ⟨Xq, hX⟩ : ∃ Xq, Xq = sh_X5_lastsFor sv x1 x2 x3 x4 x5 := ⟨_, rfl⟩
  have hq : Xq = (lp_X5_lastsFor_40 sv x1 x2 x3 x4 x5 (((x5.toInt - (0 : Int32).toInt).toNat + (if (1 : Int32) = 0 then 0 else 1)) + 1) 0 1 (sv (4 + x1).toNatClampNeg) (sv (8 + x1).toNatClampNeg)) := hX
  refine lv_aload_n hx hb dX5_lastsFor_0 rfl (lv_at hl 0 rfl) ?_
  refine lv_iload_n hx hb dX5_lastsFor_1 rfl (lv_at hl 1 rfl) ?_
  refine lv_iload_n hx hb dX5_lastsFor_2 rfl (lv_at hl 2 rfl) ?_
  refine lv_iload_n hx hb dX5_lastsFor_3 rfl (lv_at hl 3 rfl) ?_
  have hPs := k_self hP
  have hDs := k_selfD hD
  refine k_behi (X := []) (Y := []) (va_runV (As := [.int x1, .int x2, .int x3]) (rest := []) ⟨hx, hb, hml, hown, hts⟩ (c_X5_need l D cI cC cQ H.size h0 a sv pa pn sn kp pd ln so po wr lt fr sc tm hd st x1 x2 x3 (hi_x1)) (kcwV hts wd_ml_RX5_33 wd_im_yX5_need wd_sel_yX5_need wd_ini_RX5 wd_code_yX5_need rfl rfl rfl hd_X5_need ⟨Nat.le_of_ble_eq_true rfl, Nat.le_of_ble_eq_true rfl⟩) ⟨in_blind, va_recv hK (pa_l (pa_r hPs)) (ci := 5) (q0 := 0) rfl rfl, k_pre hK (pa_l (pa_r hPs)) (da_l (da_r hDs)) hN⟩ rfl rfl hl.1 rfl (lv_room (Nat.le_of_ble_eq_true rfl)) dX5_lastsFor_4 ⟨Nat.le_of_ble_eq_true rfl, Nat.le_of_ble_eq_true rfl⟩) hPs hDs hS hA (fun r1 u2 H locs hw3 hP hD hS => ?_)
  have hP := k_unP hP
  have hD := k_unD hD
  have hP : va_P D vwCl (MO cI h0 a sv pa pn sn kp pd ln so po wr lt fr sc tm hd st) H := hP
  have hD : va_D A (MO cI h0 a sv pa pn sn kp pd ln so po wr lt fr sc tm hd st) := hD
  have hw3 : r1 = (sh_X5_need sv x1 x2 x3) := hw3
  subst hw3
  refine lv_istore (lv' := [(6, .int (sh_X5_need sv x1 x2 x3)), (0, .ref h0), (1, .int x1), (2, .int x2), (3, .int x3), (4, .int x4), (5, .int x5)]) hx hb dX5_lastsFor_7 hl (by decide) rfl (fun ls hl => ?_)
  refine lv_aload_n hx hb dX5_lastsFor_9 rfl (lv_at hl 1 rfl) ?_
  refine lv_aload_n hx hb dX5_lastsFor_10 rfl (lv_at hl 1 rfl) ?_
  refine va_get (D := D) (ci := 5) (v := .ref (a 0)) (C := RX5) (T := TX5) (N := 16) hx hb hts inA5 hown hK hP 0 rfl rfl 0 (by decide) (hts _ wd_fl_RX5_7) (fun _ h9 => h9) rfl dX5_lastsFor_11 ?_
  refine lv_iconst (v := 4) hx hb dX5_lastsFor_14 (by decide) ?_
  refine lv_iload_n hx hb dX5_lastsFor_15 rfl (lv_at hl 2 rfl) ?_
  refine lv_iadd hx hb dX5_lastsFor_16 ?_
  refine va_iald hx hb hK hP 1 0 rfl rfl (vp_add hi_x1 (by decide) (by decide) (by decide)) dX5_lastsFor_17 ?_
  refine va_put (D := D) (ci := 5) (v := .int (sv (4 + x1).toNatClampNeg)) (ty := .int) (C := RX5) (T := TX5) (N := 16) hx hb hts inA5 tyX5 tyX5_ok nmX5 hown hK hP hD hS 0 rfl rfl 14 (by decide) (hts _ wd_fl_RX5_150) (fun _ h9 => h9) rfl (by decide +kernel) rfl rfl (Nat.le_of_ble_eq_true rfl) dX5_lastsFor_18 (fun H locs hP hD hS => ?_)
  have hP : va_P D vwCl (MO cI h0 a sv pa pn sn kp pd ln so po wr lt fr sc tm (sv (4 + x1).toNatClampNeg) st) H := hP
  have hD : va_D A (MO cI h0 a sv pa pn sn kp pd ln so po wr lt fr sc tm (sv (4 + x1).toNatClampNeg) st) := hD
  refine lv_aload_n hx hb dX5_lastsFor_21 rfl (lv_at hl 1 rfl) ?_
  refine lv_aload_n hx hb dX5_lastsFor_22 rfl (lv_at hl 1 rfl) ?_
  refine va_get (D := D) (ci := 5) (v := .ref (a 0)) (C := RX5) (T := TX5) (N := 16) hx hb hts inA5 hown hK hP 0 rfl rfl 0 (by decide) (hts _ wd_fl_RX5_7) (fun _ h9 => h9) rfl dX5_lastsFor_23 ?_
  refine lv_bipush (v := 8) hx hb dX5_lastsFor_26 (by decide) ?_
  refine lv_iload_n hx hb dX5_lastsFor_28 rfl (lv_at hl 2 rfl) ?_
  refine lv_iadd hx hb dX5_lastsFor_29 ?_
  refine va_iald hx hb hK hP 1 0 rfl rfl (vp_add hi_x1 (by decide) (by decide) (by decide)) dX5_lastsFor_30 ?_
  refine va_put (D := D) (ci := 5) (v := .int (sv (8 + x1).toNatClampNeg)) (ty := .int) (C := RX5) (T := TX5) (N := 16) hx hb hts inA5 tyX5 tyX5_ok nmX5 hown hK hP hD hS 0 rfl rfl 15 (by decide) (hts _ wd_fl_RX5_153) (fun _ h9 => h9) rfl (by decide +kernel) rfl rfl (Nat.le_of_ble_eq_true rfl) dX5_lastsFor_31 (fun H locs hP hD hS => ?_)
  have hP : va_P D vwCl (MO cI h0 a sv pa pn sn kp pd ln so po wr lt fr sc tm (sv (4 + x1).toNatClampNeg) (sv (8 + x1).toNatClampNeg)) H := hP
  have hD : va_D A (MO cI h0 a sv pa pn sn kp pd ln so po wr lt fr sc tm (sv (4 + x1).toNatClampNeg) (sv (8 + x1).toNatClampNeg)) := hD
  refine lv_iconst (v := 0) hx hb dX5_lastsFor_34 (by decide) ?_
  refine lv_istore (lv' := [(7, .int 0), (6, .int (sh_X5_need sv x1 x2 x3)), (0, .ref h0), (1, .int x1), (2, .int x2), (3, .int x3), (4, .int x4), (5, .int x5)]) hx hb dX5_lastsFor_35 hl (by decide) rfl (fun ls hl => ?_)
  refine lv_iconst (v := 1) hx hb dX5_lastsFor_37 (by decide) ?_
  refine lv_istore (lv' := [(8, .int 1), (7, .int 0), (6, .int (sh_X5_need sv x1 x2 x3)), (0, .ref h0), (1, .int x1), (2, .int x2), (3, .int x3), (4, .int x4), (5, .int x5)]) hx hb dX5_lastsFor_38 hl (by decide) rfl (fun ls hl => ?_)
  have L40 : ∀ (fu : Nat) (n7 : Int32) (g8 : Int32) (l_hd : Int32) (l_st : Int32) (H : Heap) (locs : List Loc) (ls : Array Slot), ((x5.toInt - (n7 : Int32).toInt).toNat + (if (g8 : Int32) = 0 then 0 else 1)) < fu → Xq = lp_X5_lastsFor_40 sv x1 x2 x3 x4 x5 fu n7 g8 l_hd l_st → va_P D vwCl (MO cI h0 a sv pa pn sn kp pd ln so po wr lt fr sc tm l_hd l_st) H → va_D A (MO cI h0 a sv pa pn sn kp pd ln so po wr lt fr sc tm l_hd l_st) → va_S A s.heap H locs → lv_has ls 10 [(8, .int g8), (7, .int n7), (6, .int (sh_X5_need sv x1 x2 x3)), (0, .ref h0), (1, .int x1), (2, .int x2), (3, .int x3), (4, .int x4), (5, .int x5)] → W p l e rm_X5_lastsFor s m args below meth c H locs 0 0 Q (F0 m 40 ls []) := by
    intro fu
    induction fu with
    | zero => intro n7 g8 l_hd l_st H locs ls hmu; exact absurd hmu (Nat.not_lt_zero _)
    | succ fu ih =>
      intro n7 g8 l_hd l_st H locs ls hmu  hq hP hD hS hl
      have hq : Xq = (if g8 = 0 then (n7, l_hd, l_st) else (if x5 ≤ n7 then (n7, l_hd, l_st) else (kb (α := (Int32) × (Int32)) (if (sh_X5_isDark l_hd (sh_X5_need sv x1 x2 x3)) = 0 then (if x4 = 0 then (l_hd, l_st) else ((l_hd + (l_st / 2)), (l_st - (l_st / 2)))) else (l_hd, l_st)) (fun z_v37 => (if (sh_X5_isDark z_v37.1 (sh_X5_need sv x1 x2 x3)) = 0 then (lp_X5_lastsFor_40 sv x1 x2 x3 x4 x5 fu n7 (sh_X5_isDark z_v37.1 (sh_X5_need sv x1 x2 x3)) z_v37.1 z_v37.2) else (lp_X5_lastsFor_40 sv x1 x2 x3 x4 x5 fu (n7 + 1) (sh_X5_isDark z_v37.1 (sh_X5_need sv x1 x2 x3)) ((z_v37.1 - (sh_X5_need sv x1 x2 x3)) - ((z_v37.1 - (sh_X5_need sv x1 x2 x3)) / (sv (32 : Int32).toNatClampNeg))) (z_v37.2 + ((z_v37.1 - (sh_X5_need sv x1 x2 x3)) / (sv (32 : Int32).toNatClampNeg))))))))) := hq
      refine lv_iload hx hb dX5_lastsFor_40 (lv_at hl 0 rfl) ?_
      refine lv_if_eq (tgt := 162) hx hb dX5_lastsFor_42 (by decide) (fun c4 => ?_) (fun c4 => ?_)
      · have hq := it_pos hq c4
        refine lv_iload hx hb dX5_lastsFor_162 (lv_at hl 1 rfl) ?_
        exact hret _ _ _ _ (n7) (l_hd, l_st) dX5_lastsFor_164 rfl (hq.symm.trans hX) hP hD hS
      · have hq := it_neg hq c4
        refine lv_iload hx hb dX5_lastsFor_45 (lv_at hl 1 rfl) ?_
        refine lv_iload hx hb dX5_lastsFor_47 (lv_at hl 8 rfl) ?_
        refine lv_icmp_ge (tgt := 162) hx hb dX5_lastsFor_49 (by decide) (fun c18 => ?_) (fun c18 => ?_)
        · have hq := it_pos hq c18
          refine lv_iload hx hb dX5_lastsFor_162 (lv_at hl 1 rfl) ?_
          exact hret _ _ _ _ (n7) (l_hd, l_st) dX5_lastsFor_164 rfl (hq.symm.trans hX) hP hD hS
        · have hq := it_neg hq c18
          refine lv_aload_n hx hb dX5_lastsFor_52 rfl (lv_at hl 3 rfl) ?_
          refine lv_iload hx hb dX5_lastsFor_53 (lv_at hl 2 rfl) ?_
          have hPs := k_self hP
          have hDs := k_selfD hD
          refine k_behi (X := []) (Y := []) (va_runV (As := [.int (sh_X5_need sv x1 x2 x3)]) (rest := []) ⟨hx, hb, hml, hown, hts⟩ (c_X5_isDark l D cI cC cQ H.size h0 a sv pa pn sn kp pd ln so po wr lt fr sc tm l_hd l_st (sh_X5_need sv x1 x2 x3)) (kcwV hts wd_ml_RX5_156 wd_im_yX5_isDark wd_sel_yX5_isDark wd_ini_RX5 wd_code_yX5_isDark rfl rfl rfl hd_X5_isDark ⟨Nat.le_of_ble_eq_true rfl, Nat.le_of_ble_eq_true rfl⟩) ⟨in_blind, va_recv hK (pa_l (pa_r hPs)) (ci := 5) (q0 := 0) rfl rfl, k_pre hK (pa_l (pa_r hPs)) (da_l (da_r hDs)) hN⟩ rfl rfl hl.1 rfl (lv_room (Nat.le_of_ble_eq_true rfl)) dX5_lastsFor_55 ⟨Nat.le_of_ble_eq_true rfl, Nat.le_of_ble_eq_true rfl⟩) hPs hDs hS hA (fun r31 u32 H locs hw33 hP hD hS => ?_)
          have hP := k_unP hP
          have hD := k_unD hD
          have hP : va_P D vwCl (MO cI h0 a sv pa pn sn kp pd ln so po wr lt fr sc tm l_hd l_st) H := hP
          have hD : va_D A (MO cI h0 a sv pa pn sn kp pd ln so po wr lt fr sc tm l_hd l_st) := hD
          have hw33 : r31 = (sh_X5_isDark l_hd (sh_X5_need sv x1 x2 x3)) := hw33
          subst hw33
          have K : ∀ (v37 : Int32) (v38 : Int32) (H : Heap) (locs : List Loc) (ls : Array Slot), (v37, v38) = (if (sh_X5_isDark l_hd (sh_X5_need sv x1 x2 x3)) = 0 then (if x4 = 0 then (l_hd, l_st) else ((l_hd + (l_st / 2)), (l_st - (l_st / 2)))) else (l_hd, l_st)) → va_P D vwCl (MO cI h0 a sv pa pn sn kp pd ln so po wr lt fr sc tm v37 v38) H → va_D A (MO cI h0 a sv pa pn sn kp pd ln so po wr lt fr sc tm v37 v38) → va_S A s.heap H locs → lv_has ls 10 [(0, .ref h0), (1, .int x1), (2, .int x2), (3, .int x3), (4, .int x4), (5, .int x5), (6, .int (sh_X5_need sv x1 x2 x3)), (7, .int n7), (8, .int g8)] → W p l e rm_X5_lastsFor s m args below meth c H locs 0 0 Q (F0 m 96 ls []) := by
            intro v37 v38 H locs ls hv36 hP hD hS hl
            have hq := kb_to hq hv36
            refine lv_aload_n hx hb dX5_lastsFor_96 rfl (lv_at hl 0 rfl) ?_
            refine lv_iload hx hb dX5_lastsFor_97 (lv_at hl 6 rfl) ?_
            have hPs := k_self hP
            have hDs := k_selfD hD
            refine k_behi (X := []) (Y := []) (va_runV (As := [.int (sh_X5_need sv x1 x2 x3)]) (rest := []) ⟨hx, hb, hml, hown, hts⟩ (c_X5_isDark l D cI cC cQ H.size h0 a sv pa pn sn kp pd ln so po wr lt fr sc tm v37 v38 (sh_X5_need sv x1 x2 x3)) (kcwV hts wd_ml_RX5_156 wd_im_yX5_isDark wd_sel_yX5_isDark wd_ini_RX5 wd_code_yX5_isDark rfl rfl rfl hd_X5_isDark ⟨Nat.le_of_ble_eq_true rfl, Nat.le_of_ble_eq_true rfl⟩) ⟨in_blind, va_recv hK (pa_l (pa_r hPs)) (ci := 5) (q0 := 0) rfl rfl, k_pre hK (pa_l (pa_r hPs)) (da_l (da_r hDs)) hN⟩ rfl rfl hl.1 rfl (lv_room (Nat.le_of_ble_eq_true rfl)) dX5_lastsFor_99 ⟨Nat.le_of_ble_eq_true rfl, Nat.le_of_ble_eq_true rfl⟩) hPs hDs hS hA (fun r39 u40 H locs hw41 hP hD hS => ?_)
            have hP := k_unP hP
            have hD := k_unD hD
            have hP : va_P D vwCl (MO cI h0 a sv pa pn sn kp pd ln so po wr lt fr sc tm v37 v38) H := hP
            have hD : va_D A (MO cI h0 a sv pa pn sn kp pd ln so po wr lt fr sc tm v37 v38) := hD
            have hw41 : r39 = (sh_X5_isDark v37 (sh_X5_need sv x1 x2 x3)) := hw41
            subst hw41
            refine lv_istore (lv' := [(8, .int (sh_X5_isDark v37 (sh_X5_need sv x1 x2 x3))), (0, .ref h0), (1, .int x1), (2, .int x2), (3, .int x3), (4, .int x4), (5, .int x5), (6, .int (sh_X5_need sv x1 x2 x3)), (7, .int n7)]) hx hb dX5_lastsFor_102 hl (by decide) rfl (fun ls hl => ?_)
            refine lv_iload hx hb dX5_lastsFor_104 (lv_at hl 0 rfl) ?_
            refine lv_if_eq (tgt := 40) hx hb dX5_lastsFor_106 (by decide) (fun c42 => ?_) (fun c42 => ?_)
            · have hq := it_pos hq c42
              exact ih (n7) ((sh_X5_isDark v37 (sh_X5_need sv x1 x2 x3))) (v37) (v38) _ _ _ (k_mu0 hmu c4 c42)  hq hP hD hS (lv_sub hl [0, 8, 7, 1, 2, 3, 4, 5, 6] rfl)
            · have hq := it_neg hq c42
              refine lv_aload_n hx hb dX5_lastsFor_109 rfl (lv_at hl 1 rfl) ?_
              refine lv_dup hx hb dX5_lastsFor_110 rfl ?_
              refine va_get (D := D) (ci := 5) (v := .int v37) (C := RX5) (T := TX5) (N := 16) hx hb hts inA5 hown hK hP 0 rfl rfl 14 (by decide) (hts _ wd_fl_RX5_150) (fun _ h9 => h9) rfl dX5_lastsFor_111 ?_
              refine lv_iload hx hb dX5_lastsFor_114 (lv_at hl 7 rfl) ?_
              refine lv_isub hx hb dX5_lastsFor_116 ?_
              refine va_put (D := D) (ci := 5) (v := .int (v37 - (sh_X5_need sv x1 x2 x3))) (ty := .int) (C := RX5) (T := TX5) (N := 16) hx hb hts inA5 tyX5 tyX5_ok nmX5 hown hK hP hD hS 0 rfl rfl 14 (by decide) (hts _ wd_fl_RX5_150) (fun _ h9 => h9) rfl (by decide +kernel) rfl rfl (Nat.le_of_ble_eq_true rfl) dX5_lastsFor_117 (fun H locs hP hD hS => ?_)
              have hP : va_P D vwCl (MO cI h0 a sv pa pn sn kp pd ln so po wr lt fr sc tm (v37 - (sh_X5_need sv x1 x2 x3)) v38) H := hP
              have hD : va_D A (MO cI h0 a sv pa pn sn kp pd ln so po wr lt fr sc tm (v37 - (sh_X5_need sv x1 x2 x3)) v38) := hD
              refine lv_aload_n hx hb dX5_lastsFor_120 rfl (lv_at hl 1 rfl) ?_
              refine va_get (D := D) (ci := 5) (v := .int (v37 - (sh_X5_need sv x1 x2 x3))) (C := RX5) (T := TX5) (N := 16) hx hb hts inA5 hown hK hP 0 rfl rfl 14 (by decide) (hts _ wd_fl_RX5_150) (fun _ h9 => h9) rfl dX5_lastsFor_121 ?_
              refine lv_aload_n hx hb dX5_lastsFor_124 rfl (lv_at hl 1 rfl) ?_
              refine va_get (D := D) (ci := 5) (v := .ref (a 0)) (C := RX5) (T := TX5) (N := 16) hx hb hts inA5 hown hK hP 0 rfl rfl 0 (by decide) (hts _ wd_fl_RX5_7) (fun _ h9 => h9) rfl dX5_lastsFor_125 ?_
              refine lv_bipush (v := 32) hx hb dX5_lastsFor_128 (by decide) ?_
              refine va_iald hx hb hK hP 1 0 rfl rfl (k_in (by decide)) dX5_lastsFor_130 ?_
              refine lv_idiv hx hb dX5_lastsFor_131 (iv_32 hiv) ?_
              refine lv_istore (lv' := [(9, .int ((v37 - (sh_X5_need sv x1 x2 x3)) / (sv (32 : Int32).toNatClampNeg))), (8, .int (sh_X5_isDark v37 (sh_X5_need sv x1 x2 x3))), (0, .ref h0), (1, .int x1), (2, .int x2), (3, .int x3), (4, .int x4), (5, .int x5), (6, .int (sh_X5_need sv x1 x2 x3)), (7, .int n7)]) hx hb dX5_lastsFor_132 hl (by decide) rfl (fun ls hl => ?_)
              refine lv_aload_n hx hb dX5_lastsFor_134 rfl (lv_at hl 2 rfl) ?_
              refine lv_dup hx hb dX5_lastsFor_135 rfl ?_
              refine va_get (D := D) (ci := 5) (v := .int (v37 - (sh_X5_need sv x1 x2 x3))) (C := RX5) (T := TX5) (N := 16) hx hb hts inA5 hown hK hP 0 rfl rfl 14 (by decide) (hts _ wd_fl_RX5_150) (fun _ h9 => h9) rfl dX5_lastsFor_136 ?_
              refine lv_iload hx hb dX5_lastsFor_139 (lv_at hl 0 rfl) ?_
              refine lv_isub hx hb dX5_lastsFor_141 ?_
              refine va_put (D := D) (ci := 5) (v := .int ((v37 - (sh_X5_need sv x1 x2 x3)) - ((v37 - (sh_X5_need sv x1 x2 x3)) / (sv (32 : Int32).toNatClampNeg)))) (ty := .int) (C := RX5) (T := TX5) (N := 16) hx hb hts inA5 tyX5 tyX5_ok nmX5 hown hK hP hD hS 0 rfl rfl 14 (by decide) (hts _ wd_fl_RX5_150) (fun _ h9 => h9) rfl (by decide +kernel) rfl rfl (Nat.le_of_ble_eq_true rfl) dX5_lastsFor_142 (fun H locs hP hD hS => ?_)
              have hP : va_P D vwCl (MO cI h0 a sv pa pn sn kp pd ln so po wr lt fr sc tm ((v37 - (sh_X5_need sv x1 x2 x3)) - ((v37 - (sh_X5_need sv x1 x2 x3)) / (sv (32 : Int32).toNatClampNeg))) v38) H := hP
              have hD : va_D A (MO cI h0 a sv pa pn sn kp pd ln so po wr lt fr sc tm ((v37 - (sh_X5_need sv x1 x2 x3)) - ((v37 - (sh_X5_need sv x1 x2 x3)) / (sv (32 : Int32).toNatClampNeg))) v38) := hD
              refine lv_aload_n hx hb dX5_lastsFor_145 rfl (lv_at hl 2 rfl) ?_
              refine lv_dup hx hb dX5_lastsFor_146 rfl ?_
              refine va_get (D := D) (ci := 5) (v := .int v38) (C := RX5) (T := TX5) (N := 16) hx hb hts inA5 hown hK hP 0 rfl rfl 15 (by decide) (hts _ wd_fl_RX5_153) (fun _ h9 => h9) rfl dX5_lastsFor_147 ?_
              refine lv_iload hx hb dX5_lastsFor_150 (lv_at hl 0 rfl) ?_
              refine lv_iadd hx hb dX5_lastsFor_152 ?_
              refine va_put (D := D) (ci := 5) (v := .int (v38 + ((v37 - (sh_X5_need sv x1 x2 x3)) / (sv (32 : Int32).toNatClampNeg)))) (ty := .int) (C := RX5) (T := TX5) (N := 16) hx hb hts inA5 tyX5 tyX5_ok nmX5 hown hK hP hD hS 0 rfl rfl 15 (by decide) (hts _ wd_fl_RX5_153) (fun _ h9 => h9) rfl (by decide +kernel) rfl rfl (Nat.le_of_ble_eq_true rfl) dX5_lastsFor_153 (fun H locs hP hD hS => ?_)
              have hP : va_P D vwCl (MO cI h0 a sv pa pn sn kp pd ln so po wr lt fr sc tm ((v37 - (sh_X5_need sv x1 x2 x3)) - ((v37 - (sh_X5_need sv x1 x2 x3)) / (sv (32 : Int32).toNatClampNeg))) (v38 + ((v37 - (sh_X5_need sv x1 x2 x3)) / (sv (32 : Int32).toNatClampNeg)))) H := hP
              have hD : va_D A (MO cI h0 a sv pa pn sn kp pd ln so po wr lt fr sc tm ((v37 - (sh_X5_need sv x1 x2 x3)) - ((v37 - (sh_X5_need sv x1 x2 x3)) / (sv (32 : Int32).toNatClampNeg))) (v38 + ((v37 - (sh_X5_need sv x1 x2 x3)) / (sv (32 : Int32).toNatClampNeg)))) := hD
              refine lv_iinc (v := (n7 + 1)) (lv' := [(7, .int (n7 + 1)), (9, .int ((v37 - (sh_X5_need sv x1 x2 x3)) / (sv (32 : Int32).toNatClampNeg))), (8, .int (sh_X5_isDark v37 (sh_X5_need sv x1 x2 x3))), (0, .ref h0), (1, .int x1), (2, .int x2), (3, .int x3), (4, .int x4), (5, .int x5), (6, .int (sh_X5_need sv x1 x2 x3))]) hx hb dX5_lastsFor_156 hl (k := 9) rfl rfl (by decide) rfl (fun ls hl => ?_)
              refine lv_goto (tgt := 40) hx hb dX5_lastsFor_159 (by decide) ?_
              exact ih ((n7 + 1)) ((sh_X5_isDark v37 (sh_X5_need sv x1 x2 x3))) (((v37 - (sh_X5_need sv x1 x2 x3)) - ((v37 - (sh_X5_need sv x1 x2 x3)) / (sv (32 : Int32).toNatClampNeg)))) ((v38 + ((v37 - (sh_X5_need sv x1 x2 x3)) / (sv (32 : Int32).toNatClampNeg)))) _ _ _ (k_mu1 hmu c18 c4 c42)  hq hP hD hS (lv_sub hl [2, 0, 9, 3, 4, 5, 6, 7, 8] rfl)
          refine lv_if_ne (tgt := 96) hx hb dX5_lastsFor_58 (by decide) (fun c34 => ?_) (fun c34 => ?_)
          · skip
            exact K (l_hd) (l_st) _ _ _ (by rw [if_neg c34]) hP hD hS (lv_sub hl [3, 4, 5, 6, 7, 8, 2, 1, 0] rfl)
          · skip
            refine lv_iload hx hb dX5_lastsFor_61 (lv_at hl 7 rfl) ?_
            refine lv_if_eq (tgt := 96) hx hb dX5_lastsFor_63 (by decide) (fun c35 => ?_) (fun c35 => ?_)
            · skip
              exact K (l_hd) (l_st) _ _ _ (by rw [if_pos c34, if_pos c35]) hP hD hS (lv_sub hl [3, 4, 5, 6, 7, 8, 2, 1, 0] rfl)
            · skip
              refine lv_aload_n hx hb dX5_lastsFor_66 rfl (lv_at hl 3 rfl) ?_
              refine lv_dup hx hb dX5_lastsFor_67 rfl ?_
              refine va_get (D := D) (ci := 5) (v := .int l_hd) (C := RX5) (T := TX5) (N := 16) hx hb hts inA5 hown hK hP 0 rfl rfl 14 (by decide) (hts _ wd_fl_RX5_150) (fun _ h9 => h9) rfl dX5_lastsFor_68 ?_
              refine lv_aload_n hx hb dX5_lastsFor_71 rfl (lv_at hl 3 rfl) ?_
              refine va_get (D := D) (ci := 5) (v := .int l_st) (C := RX5) (T := TX5) (N := 16) hx hb hts inA5 hown hK hP 0 rfl rfl 15 (by decide) (hts _ wd_fl_RX5_153) (fun _ h9 => h9) rfl dX5_lastsFor_72 ?_
              refine lv_iconst (v := 2) hx hb dX5_lastsFor_75 (by decide) ?_
              refine lv_idiv hx hb dX5_lastsFor_76 (by decide) ?_
              refine lv_iadd hx hb dX5_lastsFor_77 ?_
              refine va_put (D := D) (ci := 5) (v := .int (l_hd + (l_st / 2))) (ty := .int) (C := RX5) (T := TX5) (N := 16) hx hb hts inA5 tyX5 tyX5_ok nmX5 hown hK hP hD hS 0 rfl rfl 14 (by decide) (hts _ wd_fl_RX5_150) (fun _ h9 => h9) rfl (by decide +kernel) rfl rfl (Nat.le_of_ble_eq_true rfl) dX5_lastsFor_78 (fun H locs hP hD hS => ?_)
              have hP : va_P D vwCl (MO cI h0 a sv pa pn sn kp pd ln so po wr lt fr sc tm (l_hd + (l_st / 2)) l_st) H := hP
              have hD : va_D A (MO cI h0 a sv pa pn sn kp pd ln so po wr lt fr sc tm (l_hd + (l_st / 2)) l_st) := hD
              refine lv_aload_n hx hb dX5_lastsFor_81 rfl (lv_at hl 3 rfl) ?_
              refine lv_dup hx hb dX5_lastsFor_82 rfl ?_
              refine va_get (D := D) (ci := 5) (v := .int l_st) (C := RX5) (T := TX5) (N := 16) hx hb hts inA5 hown hK hP 0 rfl rfl 15 (by decide) (hts _ wd_fl_RX5_153) (fun _ h9 => h9) rfl dX5_lastsFor_83 ?_
              refine lv_aload_n hx hb dX5_lastsFor_86 rfl (lv_at hl 3 rfl) ?_
              refine va_get (D := D) (ci := 5) (v := .int l_st) (C := RX5) (T := TX5) (N := 16) hx hb hts inA5 hown hK hP 0 rfl rfl 15 (by decide) (hts _ wd_fl_RX5_153) (fun _ h9 => h9) rfl dX5_lastsFor_87 ?_
              refine lv_iconst (v := 2) hx hb dX5_lastsFor_90 (by decide) ?_
              refine lv_idiv hx hb dX5_lastsFor_91 (by decide) ?_
              refine lv_isub hx hb dX5_lastsFor_92 ?_
              refine va_put (D := D) (ci := 5) (v := .int (l_st - (l_st / 2))) (ty := .int) (C := RX5) (T := TX5) (N := 16) hx hb hts inA5 tyX5 tyX5_ok nmX5 hown hK hP hD hS 0 rfl rfl 15 (by decide) (hts _ wd_fl_RX5_153) (fun _ h9 => h9) rfl (by decide +kernel) rfl rfl (Nat.le_of_ble_eq_true rfl) dX5_lastsFor_93 (fun H locs hP hD hS => ?_)
              have hP : va_P D vwCl (MO cI h0 a sv pa pn sn kp pd ln so po wr lt fr sc tm (l_hd + (l_st / 2)) (l_st - (l_st / 2))) H := hP
              have hD : va_D A (MO cI h0 a sv pa pn sn kp pd ln so po wr lt fr sc tm (l_hd + (l_st / 2)) (l_st - (l_st / 2))) := hD
              exact K ((l_hd + (l_st / 2))) ((l_st - (l_st / 2))) _ _ _ (by rw [if_pos c34, if_neg c35]) hP hD hS (lv_sub hl [3, 4, 5, 6, 7, 8, 2, 1, 0] rfl)
  exact L40 (((x5.toInt - (0 : Int32).toInt).toNat + (if (1 : Int32) = 0 then 0 else 1)) + 1) (0) (1) ((sv (4 + x1).toNatClampNeg)) ((sv (8 + x1).toNatClampNeg)) _ _ _ (Nat.lt_succ_self _)  hq hP hD hS (lv_sub hl [0, 1, 2, 3, 4, 5, 6, 7, 8] rfl)
def sh_X5_lasts (sv : Nat → Int32) (hd : Int32) (st : Int32) (x1 : Int32) (x2 : Int32) (x3 : Int32) : Int32 × (Int32) × (Int32) := (if (sh_X5_isCup x1) = 0 then ((-1 : Int32), hd, st) else (if (sh_X5_areDots x2) = 0 then ((-1 : Int32), hd, st) else (kb (sh_X5_lastsFor sv x1 x2 (sv (31 : Int32).toNatClampNeg) x3 999) (fun z_r9 => (z_r9.1, z_r9.2.1, z_r9.2.2)))))
abbrev rm_X5_lasts : Room := { frames := 2, cells := 0, slots := 0, locals := 53 }
theorem hd_X5_lasts : hdT yX5_lasts 3 := by decide +kernel
set_option maxHeartbeats 40000000 in
set_option maxRecDepth 100000 in
theorem c_X5_lasts (l : Launch) (D : va_G) (cI cC cQ : ClassId) (sz : Nat) (h0 : Nat) (a : Nat → Nat) (sv : Nat → Int32) (pa : Nat → Int32) (pn : Int32) (sn : Nat → Int32) (kp : Int32) (pd : Nat → Int32) (ln : Int32) (so : Nat → Int32) (po : Int32) (wr : Int32) (lt : Int32) (fr : Int32) (sc : Int32) (tm : Int32) (hd : Int32) (st : Int32) (x1 : Int32) (x2 : Int32) (x3 : Int32) (hiv : iv sv) : Met l yX5_lasts (wsO yX5_lasts cX5_lasts 4 (some .int)) rm_X5_lasts (va_Pc [.ref h0, .int x1, .int x2, .int x3] (inW D (TYS cI cC cQ) (MO cI h0 a sv pa pn sn kp pd ln so po wr lt fr sc tm hd st) sz)) (va_Qi (fun (r : Int32) (u : (Int32) × (Int32)) => (r, u) = sh_X5_lasts sv hd st x1 x2 x3) (fun (u : (Int32) × (Int32)) => atW D (TYS cI cC cQ) (va_A (MO cI h0 a sv pa pn sn kp pd ln so po wr lt fr sc tm hd st) sz) (MO cI h0 a sv pa pn sn kp pd ln so po wr lt fr sc tm u.1 u.2)) (va_A (MO cI h0 a sv pa pn sn kp pd ln so po wr lt fr sc tm hd st) sz)) 0 0 (va_A (MO cI h0 a sv pa pn sn kp pd ln so po wr lt fr sc tm hd st) sz) := by
  refine k_meti .int rfl (by decide) (Nat.le_of_ble_eq_true rfl) ?_
  intro p e s m args below meth c A ls Q H locs hargs hret hx hb hts hown hml hname hN hA hS hP hK hD hl
  have hl : lv_has ls 4 [(0, .ref h0), (1, .int x1), (2, .int x2), (3, .int x3)] := hl
  obtain ⟨Xq, hX⟩ : ∃ Xq, Xq = sh_X5_lasts sv hd st x1 x2 x3 := ⟨_, rfl⟩
  have hq : Xq = (if (sh_X5_isCup x1) = 0 then ((-1 : Int32), hd, st) else (if (sh_X5_areDots x2) = 0 then ((-1 : Int32), hd, st) else (kb (sh_X5_lastsFor sv x1 x2 (sv (31 : Int32).toNatClampNeg) x3 999) (fun z_r9 => (z_r9.1, z_r9.2.1, z_r9.2.2))))) := hX
  refine lv_iload_n hx hb dX5_lasts_0 rfl (lv_at hl 1 rfl) ?_
  have hPs : va_P D vwCl ([] ++ ([] ++ (MO cI h0 a sv pa pn sn kp pd ln so po wr lt fr sc tm hd st))) H := hP
  have hDs : va_D A ([] ++ ([] ++ (MO cI h0 a sv pa pn sn kp pd ln so po wr lt fr sc tm hd st))) := hD
  refine k_behi (X := []) (Y := (MO cI h0 a sv pa pn sn kp pd ln so po wr lt fr sc tm hd st)) (va_runS (As := [.int x1]) (rest := []) ⟨hx, hb, hml, hown, hts⟩ (c_X5_isCup l D cI cC cQ H.size x1) (kcwS hts wd_ml_RX5_61 wd_st_yX5_isCup wd_ini_RX5 wd_code_yX5_isCup rfl rfl hd_X5_isCup ⟨Nat.le_of_ble_eq_true rfl, Nat.le_of_ble_eq_true rfl⟩) ⟨in_blind, k_pre hK (pa_l (pa_r hPs)) (da_l (da_r hDs)) hN⟩ rfl rfl hl.1 rfl (lv_room (Nat.le_of_ble_eq_true rfl)) dX5_lasts_1 ⟨Nat.le_of_ble_eq_true rfl, Nat.le_of_ble_eq_true rfl⟩) hPs hDs hS hA (fun r1 u2 H locs hw3 hP hD hS => ?_)
  have hP : va_P D vwCl (MO cI h0 a sv pa pn sn kp pd ln so po wr lt fr sc tm hd st) H := hP
  have hD : va_D A (MO cI h0 a sv pa pn sn kp pd ln so po wr lt fr sc tm hd st) := hD
  have hw3 : r1 = (sh_X5_isCup x1) := hw3
  subst hw3
  refine lv_if_eq (tgt := 34) hx hb dX5_lasts_4 (by decide) (fun c4 => ?_) (fun c4 => ?_)
  · have hq := it_pos hq c4
    refine lv_iconst (v := (-1)) hx hb dX5_lasts_34 (by decide) ?_
    exact hret _ _ _ _ ((-1)) (hd, st) dX5_lasts_35 rfl (hq.symm.trans hX) hP hD hS
  · have hq := it_neg hq c4
    refine lv_iload_n hx hb dX5_lasts_7 rfl (lv_at hl 2 rfl) ?_
    have hPs : va_P D vwCl ([] ++ ([] ++ (MO cI h0 a sv pa pn sn kp pd ln so po wr lt fr sc tm hd st))) H := hP
    have hDs : va_D A ([] ++ ([] ++ (MO cI h0 a sv pa pn sn kp pd ln so po wr lt fr sc tm hd st))) := hD
    refine k_behi (X := []) (Y := (MO cI h0 a sv pa pn sn kp pd ln so po wr lt fr sc tm hd st)) (va_runS (As := [.int x2]) (rest := []) ⟨hx, hb, hml, hown, hts⟩ (c_X5_areDots l D cI cC cQ H.size x2) (kcwS hts wd_ml_RX5_52 wd_st_yX5_areDots wd_ini_RX5 wd_code_yX5_areDots rfl rfl hd_X5_areDots ⟨Nat.le_of_ble_eq_true rfl, Nat.le_of_ble_eq_true rfl⟩) ⟨in_blind, k_pre hK (pa_l (pa_r hPs)) (da_l (da_r hDs)) hN⟩ rfl rfl hl.1 rfl (lv_room (Nat.le_of_ble_eq_true rfl)) dX5_lasts_8 ⟨Nat.le_of_ble_eq_true rfl, Nat.le_of_ble_eq_true rfl⟩) hPs hDs hS hA (fun r5 u6 H locs hw7 hP hD hS => ?_)
    have hP : va_P D vwCl (MO cI h0 a sv pa pn sn kp pd ln so po wr lt fr sc tm hd st) H := hP
    have hD : va_D A (MO cI h0 a sv pa pn sn kp pd ln so po wr lt fr sc tm hd st) := hD
    have hw7 : r5 = (sh_X5_areDots x2) := hw7
    subst hw7
    refine lv_if_eq (tgt := 34) hx hb dX5_lasts_11 (by decide) (fun c8 => ?_) (fun c8 => ?_)
    · have hq := it_pos hq c8
      refine lv_iconst (v := (-1)) hx hb dX5_lasts_34 (by decide) ?_
      exact hret _ _ _ _ ((-1)) (hd, st) dX5_lasts_35 rfl (hq.symm.trans hX) hP hD hS
    · have hq := it_neg hq c8
      refine lv_aload_n hx hb dX5_lasts_14 rfl (lv_at hl 0 rfl) ?_
      refine lv_iload_n hx hb dX5_lasts_15 rfl (lv_at hl 1 rfl) ?_
      refine lv_iload_n hx hb dX5_lasts_16 rfl (lv_at hl 2 rfl) ?_
      refine lv_aload_n hx hb dX5_lasts_17 rfl (lv_at hl 0 rfl) ?_
      refine va_get (D := D) (ci := 5) (v := .ref (a 0)) (C := RX5) (T := TX5) (N := 16) hx hb hts inA5 hown hK hP 0 rfl rfl 0 (by decide) (hts _ wd_fl_RX5_7) (fun _ h9 => h9) rfl dX5_lasts_18 ?_
      refine lv_bipush (v := 31) hx hb dX5_lasts_21 (by decide) ?_
      refine va_iald hx hb hK hP 1 0 rfl rfl (k_in (by decide)) dX5_lasts_23 ?_
      refine lv_iload_n hx hb dX5_lasts_24 rfl (lv_at hl 3 rfl) ?_
      refine lv_sipush (v := 999) hx hb dX5_lasts_25 (by decide) ?_
      have hPs := k_self hP
      have hDs := k_selfD hD
      refine k_behi (X := []) (Y := []) (va_runV (As := [.int x1, .int x2, .int (sv (31 : Int32).toNatClampNeg), .int x3, .int 999]) (rest := []) ⟨hx, hb, hml, hown, hts⟩ (c_X5_lastsFor l D cI cC cQ H.size h0 a sv pa pn sn kp pd ln so po wr lt fr sc tm hd st x1 x2 (sv (31 : Int32).toNatClampNeg) x3 999 ((mIn4 c4)) (hiv)) (kcwV hts wd_ml_RX5_159 wd_im_yX5_lastsFor wd_sel_yX5_lastsFor wd_ini_RX5 wd_code_yX5_lastsFor rfl rfl rfl hd_X5_lastsFor ⟨Nat.le_of_ble_eq_true rfl, Nat.le_of_ble_eq_true rfl⟩) ⟨in_blind, va_recv hK (pa_l (pa_r hPs)) (ci := 5) (q0 := 0) rfl rfl, k_pre hK (pa_l (pa_r hPs)) (da_l (da_r hDs)) hN⟩ rfl rfl hl.1 rfl (lv_room (Nat.le_of_ble_eq_true rfl)) dX5_lasts_28 ⟨Nat.le_of_ble_eq_true rfl, Nat.le_of_ble_eq_true rfl⟩) hPs hDs hS hA (fun r9 u10 H locs hw11 hP hD hS => ?_)
      obtain ⟨v12, v13⟩ := u10
      have hP := k_unP hP
      have hD := k_unD hD
      have hP : va_P D vwCl (MO cI h0 a sv pa pn sn kp pd ln so po wr lt fr sc tm v12 v13) H := hP
      have hD : va_D A (MO cI h0 a sv pa pn sn kp pd ln so po wr lt fr sc tm v12 v13) := hD
      have hw11 : (r9, v12, v13) = (sh_X5_lastsFor sv x1 x2 (sv (31 : Int32).toNatClampNeg) x3 999) := hw11
      have hq := kb_to hq hw11
      refine lv_goto (tgt := 35) hx hb dX5_lasts_31 (by decide) ?_
      exact hret _ _ _ _ (r9) (v12, v13) dX5_lasts_35 rfl (hq.symm.trans hX) hP hD hS
def sh_X5_atHand (sv : Nat → Int32) (hd : Int32) (st : Int32) (x1 : Int32) (x2 : Int32) (x3 : Int32) (x4 : Int32) : Int32 × (Int32) × (Int32) := (if (sh_X5_isCup x1) = 0 then ((-1 : Int32), hd, st) else (if (sh_X5_areDots x2) = 0 then ((-1 : Int32), hd, st) else (if (sh_X5_in x3 0 50) = 0 then ((-1 : Int32), hd, st) else (if (sh_X5_in x4 0 1) = 0 then ((-1 : Int32), hd, st) else (kb (sh_X5_lastsFor sv x1 x2 (sv (31 : Int32).toNatClampNeg) 0 x3) (fun z_r17 => (if z_r17.1 = x3 then (z_r17.2.1, z_r17.2.1, z_r17.2.2) else ((-4 : Int32), z_r17.2.1, z_r17.2.2))))))))
abbrev rm_X5_atHand : Room := { frames := 2, cells := 0, slots := 0, locals := 53 }
theorem hd_X5_atHand : hdT yX5_atHand 4 := by decide +kernel
set_option maxHeartbeats 40000000 in
set_option maxRecDepth 100000 in
theorem c_X5_atHand (l : Launch) (D : va_G) (cI cC cQ : ClassId) (sz : Nat) (h0 : Nat) (a : Nat → Nat) (sv : Nat → Int32) (pa : Nat → Int32) (pn : Int32) (sn : Nat → Int32) (kp : Int32) (pd : Nat → Int32) (ln : Int32) (so : Nat → Int32) (po : Int32) (wr : Int32) (lt : Int32) (fr : Int32) (sc : Int32) (tm : Int32) (hd : Int32) (st : Int32) (x1 : Int32) (x2 : Int32) (x3 : Int32) (x4 : Int32) (hiv : iv sv) : Met l yX5_atHand (wsO yX5_atHand cX5_atHand 5 (some .int)) rm_X5_atHand (va_Pc [.ref h0, .int x1, .int x2, .int x3, .int x4] (inW D (TYS cI cC cQ) (MO cI h0 a sv pa pn sn kp pd ln so po wr lt fr sc tm hd st) sz)) (va_Qi (fun (r : Int32) (u : (Int32) × (Int32)) => (r, u) = sh_X5_atHand sv hd st x1 x2 x3 x4) (fun (u : (Int32) × (Int32)) => atW D (TYS cI cC cQ) (va_A (MO cI h0 a sv pa pn sn kp pd ln so po wr lt fr sc tm hd st) sz) (MO cI h0 a sv pa pn sn kp pd ln so po wr lt fr sc tm u.1 u.2)) (va_A (MO cI h0 a sv pa pn sn kp pd ln so po wr lt fr sc tm hd st) sz)) 0 0 (va_A (MO cI h0 a sv pa pn sn kp pd ln so po wr lt fr sc tm hd st) sz) := by
  refine k_meti .int rfl (by decide) (Nat.le_of_ble_eq_true rfl) ?_
  intro p e s m args below meth c A ls Q H locs hargs hret hx hb hts hown hml hname hN hA hS hP hK hD hl
  have hl : lv_has ls 5 [(0, .ref h0), (1, .int x1), (2, .int x2), (3, .int x3), (4, .int x4)] := hl
  obtain ⟨Xq, hX⟩ : ∃ Xq, Xq = sh_X5_atHand sv hd st x1 x2 x3 x4 := ⟨_, rfl⟩
  have hq : Xq = (if (sh_X5_isCup x1) = 0 then ((-1 : Int32), hd, st) else (if (sh_X5_areDots x2) = 0 then ((-1 : Int32), hd, st) else (if (sh_X5_in x3 0 50) = 0 then ((-1 : Int32), hd, st) else (if (sh_X5_in x4 0 1) = 0 then ((-1 : Int32), hd, st) else (kb (sh_X5_lastsFor sv x1 x2 (sv (31 : Int32).toNatClampNeg) 0 x3) (fun z_r17 => (if z_r17.1 = x3 then (z_r17.2.1, z_r17.2.1, z_r17.2.2) else ((-4 : Int32), z_r17.2.1, z_r17.2.2)))))))) := hX
  refine lv_iload_n hx hb dX5_atHand_0 rfl (lv_at hl 1 rfl) ?_
  have hPs : va_P D vwCl ([] ++ ([] ++ (MO cI h0 a sv pa pn sn kp pd ln so po wr lt fr sc tm hd st))) H := hP
  have hDs : va_D A ([] ++ ([] ++ (MO cI h0 a sv pa pn sn kp pd ln so po wr lt fr sc tm hd st))) := hD
  refine k_behi (X := []) (Y := (MO cI h0 a sv pa pn sn kp pd ln so po wr lt fr sc tm hd st)) (va_runS (As := [.int x1]) (rest := []) ⟨hx, hb, hml, hown, hts⟩ (c_X5_isCup l D cI cC cQ H.size x1) (kcwS hts wd_ml_RX5_61 wd_st_yX5_isCup wd_ini_RX5 wd_code_yX5_isCup rfl rfl hd_X5_isCup ⟨Nat.le_of_ble_eq_true rfl, Nat.le_of_ble_eq_true rfl⟩) ⟨in_blind, k_pre hK (pa_l (pa_r hPs)) (da_l (da_r hDs)) hN⟩ rfl rfl hl.1 rfl (lv_room (Nat.le_of_ble_eq_true rfl)) dX5_atHand_1 ⟨Nat.le_of_ble_eq_true rfl, Nat.le_of_ble_eq_true rfl⟩) hPs hDs hS hA (fun r1 u2 H locs hw3 hP hD hS => ?_)
  have hP : va_P D vwCl (MO cI h0 a sv pa pn sn kp pd ln so po wr lt fr sc tm hd st) H := hP
  have hD : va_D A (MO cI h0 a sv pa pn sn kp pd ln so po wr lt fr sc tm hd st) := hD
  have hw3 : r1 = (sh_X5_isCup x1) := hw3
  subst hw3
  refine lv_if_eq (tgt := 34) hx hb dX5_atHand_4 (by decide) (fun c4 => ?_) (fun c4 => ?_)
  · have hq := it_pos hq c4
    refine lv_iconst (v := (-1)) hx hb dX5_atHand_34 (by decide) ?_
    exact hret _ _ _ _ ((-1)) (hd, st) dX5_atHand_35 rfl (hq.symm.trans hX) hP hD hS
  · have hq := it_neg hq c4
    refine lv_iload_n hx hb dX5_atHand_7 rfl (lv_at hl 2 rfl) ?_
    have hPs : va_P D vwCl ([] ++ ([] ++ (MO cI h0 a sv pa pn sn kp pd ln so po wr lt fr sc tm hd st))) H := hP
    have hDs : va_D A ([] ++ ([] ++ (MO cI h0 a sv pa pn sn kp pd ln so po wr lt fr sc tm hd st))) := hD
    refine k_behi (X := []) (Y := (MO cI h0 a sv pa pn sn kp pd ln so po wr lt fr sc tm hd st)) (va_runS (As := [.int x2]) (rest := []) ⟨hx, hb, hml, hown, hts⟩ (c_X5_areDots l D cI cC cQ H.size x2) (kcwS hts wd_ml_RX5_52 wd_st_yX5_areDots wd_ini_RX5 wd_code_yX5_areDots rfl rfl hd_X5_areDots ⟨Nat.le_of_ble_eq_true rfl, Nat.le_of_ble_eq_true rfl⟩) ⟨in_blind, k_pre hK (pa_l (pa_r hPs)) (da_l (da_r hDs)) hN⟩ rfl rfl hl.1 rfl (lv_room (Nat.le_of_ble_eq_true rfl)) dX5_atHand_8 ⟨Nat.le_of_ble_eq_true rfl, Nat.le_of_ble_eq_true rfl⟩) hPs hDs hS hA (fun r5 u6 H locs hw7 hP hD hS => ?_)
    have hP : va_P D vwCl (MO cI h0 a sv pa pn sn kp pd ln so po wr lt fr sc tm hd st) H := hP
    have hD : va_D A (MO cI h0 a sv pa pn sn kp pd ln so po wr lt fr sc tm hd st) := hD
    have hw7 : r5 = (sh_X5_areDots x2) := hw7
    subst hw7
    refine lv_if_eq (tgt := 34) hx hb dX5_atHand_11 (by decide) (fun c8 => ?_) (fun c8 => ?_)
    · have hq := it_pos hq c8
      refine lv_iconst (v := (-1)) hx hb dX5_atHand_34 (by decide) ?_
      exact hret _ _ _ _ ((-1)) (hd, st) dX5_atHand_35 rfl (hq.symm.trans hX) hP hD hS
    · have hq := it_neg hq c8
      refine lv_iload_n hx hb dX5_atHand_14 rfl (lv_at hl 3 rfl) ?_
      refine lv_iconst (v := 0) hx hb dX5_atHand_15 (by decide) ?_
      refine lv_bipush (v := 50) hx hb dX5_atHand_16 (by decide) ?_
      have hPs : va_P D vwCl ([] ++ ([] ++ (MO cI h0 a sv pa pn sn kp pd ln so po wr lt fr sc tm hd st))) H := hP
      have hDs : va_D A ([] ++ ([] ++ (MO cI h0 a sv pa pn sn kp pd ln so po wr lt fr sc tm hd st))) := hD
      refine k_behi (X := []) (Y := (MO cI h0 a sv pa pn sn kp pd ln so po wr lt fr sc tm hd st)) (va_runS (As := [.int x3, .int 0, .int 50]) (rest := []) ⟨hx, hb, hml, hown, hts⟩ (c_X5_in l D cI cC cQ H.size x3 0 50) (kcwS hts wd_ml_RX5_25 wd_st_yX5_in wd_ini_RX5 wd_code_yX5_in rfl rfl hd_X5_in ⟨Nat.le_of_ble_eq_true rfl, Nat.le_of_ble_eq_true rfl⟩) ⟨in_blind, k_pre hK (pa_l (pa_r hPs)) (da_l (da_r hDs)) hN⟩ rfl rfl hl.1 rfl (lv_room (Nat.le_of_ble_eq_true rfl)) dX5_atHand_18 ⟨Nat.le_of_ble_eq_true rfl, Nat.le_of_ble_eq_true rfl⟩) hPs hDs hS hA (fun r9 u10 H locs hw11 hP hD hS => ?_)
      have hP : va_P D vwCl (MO cI h0 a sv pa pn sn kp pd ln so po wr lt fr sc tm hd st) H := hP
      have hD : va_D A (MO cI h0 a sv pa pn sn kp pd ln so po wr lt fr sc tm hd st) := hD
      have hw11 : r9 = (sh_X5_in x3 0 50) := hw11
      subst hw11
      refine lv_if_eq (tgt := 34) hx hb dX5_atHand_21 (by decide) (fun c12 => ?_) (fun c12 => ?_)
      · have hq := it_pos hq c12
        refine lv_iconst (v := (-1)) hx hb dX5_atHand_34 (by decide) ?_
        exact hret _ _ _ _ ((-1)) (hd, st) dX5_atHand_35 rfl (hq.symm.trans hX) hP hD hS
      · have hq := it_neg hq c12
        refine lv_iload hx hb dX5_atHand_24 (lv_at hl 4 rfl) ?_
        refine lv_iconst (v := 0) hx hb dX5_atHand_26 (by decide) ?_
        refine lv_iconst (v := 1) hx hb dX5_atHand_27 (by decide) ?_
        have hPs : va_P D vwCl ([] ++ ([] ++ (MO cI h0 a sv pa pn sn kp pd ln so po wr lt fr sc tm hd st))) H := hP
        have hDs : va_D A ([] ++ ([] ++ (MO cI h0 a sv pa pn sn kp pd ln so po wr lt fr sc tm hd st))) := hD
        refine k_behi (X := []) (Y := (MO cI h0 a sv pa pn sn kp pd ln so po wr lt fr sc tm hd st)) (va_runS (As := [.int x4, .int 0, .int 1]) (rest := []) ⟨hx, hb, hml, hown, hts⟩ (c_X5_in l D cI cC cQ H.size x4 0 1) (kcwS hts wd_ml_RX5_25 wd_st_yX5_in wd_ini_RX5 wd_code_yX5_in rfl rfl hd_X5_in ⟨Nat.le_of_ble_eq_true rfl, Nat.le_of_ble_eq_true rfl⟩) ⟨in_blind, k_pre hK (pa_l (pa_r hPs)) (da_l (da_r hDs)) hN⟩ rfl rfl hl.1 rfl (lv_room (Nat.le_of_ble_eq_true rfl)) dX5_atHand_28 ⟨Nat.le_of_ble_eq_true rfl, Nat.le_of_ble_eq_true rfl⟩) hPs hDs hS hA (fun r13 u14 H locs hw15 hP hD hS => ?_)
        have hP : va_P D vwCl (MO cI h0 a sv pa pn sn kp pd ln so po wr lt fr sc tm hd st) H := hP
        have hD : va_D A (MO cI h0 a sv pa pn sn kp pd ln so po wr lt fr sc tm hd st) := hD
        have hw15 : r13 = (sh_X5_in x4 0 1) := hw15
        subst hw15
        refine lv_if_ne (tgt := 36) hx hb dX5_atHand_31 (by decide) (fun c16 => ?_) (fun c16 => ?_)
        · have hq := it_neg hq c16
          refine lv_aload_n hx hb dX5_atHand_36 rfl (lv_at hl 0 rfl) ?_
          refine lv_iload_n hx hb dX5_atHand_37 rfl (lv_at hl 1 rfl) ?_
          refine lv_iload_n hx hb dX5_atHand_38 rfl (lv_at hl 2 rfl) ?_
          refine lv_aload_n hx hb dX5_atHand_39 rfl (lv_at hl 0 rfl) ?_
          refine va_get (D := D) (ci := 5) (v := .ref (a 0)) (C := RX5) (T := TX5) (N := 16) hx hb hts inA5 hown hK hP 0 rfl rfl 0 (by decide) (hts _ wd_fl_RX5_7) (fun _ h9 => h9) rfl dX5_atHand_40 ?_
          refine lv_bipush (v := 31) hx hb dX5_atHand_43 (by decide) ?_
          refine va_iald hx hb hK hP 1 0 rfl rfl (k_in (by decide)) dX5_atHand_45 ?_
          refine lv_iconst (v := 0) hx hb dX5_atHand_46 (by decide) ?_
          refine lv_iload_n hx hb dX5_atHand_47 rfl (lv_at hl 3 rfl) ?_
          have hPs := k_self hP
          have hDs := k_selfD hD
          refine k_behi (X := []) (Y := []) (va_runV (As := [.int x1, .int x2, .int (sv (31 : Int32).toNatClampNeg), .int 0, .int x3]) (rest := []) ⟨hx, hb, hml, hown, hts⟩ (c_X5_lastsFor l D cI cC cQ H.size h0 a sv pa pn sn kp pd ln so po wr lt fr sc tm hd st x1 x2 (sv (31 : Int32).toNatClampNeg) 0 x3 ((mIn4 c4)) (hiv)) (kcwV hts wd_ml_RX5_159 wd_im_yX5_lastsFor wd_sel_yX5_lastsFor wd_ini_RX5 wd_code_yX5_lastsFor rfl rfl rfl hd_X5_lastsFor ⟨Nat.le_of_ble_eq_true rfl, Nat.le_of_ble_eq_true rfl⟩) ⟨in_blind, va_recv hK (pa_l (pa_r hPs)) (ci := 5) (q0 := 0) rfl rfl, k_pre hK (pa_l (pa_r hPs)) (da_l (da_r hDs)) hN⟩ rfl rfl hl.1 rfl (lv_room (Nat.le_of_ble_eq_true rfl)) dX5_atHand_48 ⟨Nat.le_of_ble_eq_true rfl, Nat.le_of_ble_eq_true rfl⟩) hPs hDs hS hA (fun r17 u18 H locs hw19 hP hD hS => ?_)
          obtain ⟨v20, v21⟩ := u18
          have hP := k_unP hP
          have hD := k_unD hD
          have hP : va_P D vwCl (MO cI h0 a sv pa pn sn kp pd ln so po wr lt fr sc tm v20 v21) H := hP
          have hD : va_D A (MO cI h0 a sv pa pn sn kp pd ln so po wr lt fr sc tm v20 v21) := hD
          have hw19 : (r17, v20, v21) = (sh_X5_lastsFor sv x1 x2 (sv (31 : Int32).toNatClampNeg) 0 x3) := hw19
          have hq := kb_to hq hw19
          refine lv_iload_n hx hb dX5_atHand_51 rfl (lv_at hl 3 rfl) ?_
          refine lv_icmp_ne (tgt := 62) hx hb dX5_atHand_52 (by decide) (fun c22 => ?_) (fun c22 => ?_)
          · have hq := it_neg hq c22
            refine lv_bipush (v := (-4)) hx hb dX5_atHand_62 (by decide) ?_
            exact hret _ _ _ _ ((-4)) (v20, v21) dX5_atHand_64 rfl (hq.symm.trans hX) hP hD hS
          · have hq := it_pos hq c22
            refine lv_aload_n hx hb dX5_atHand_55 rfl (lv_at hl 0 rfl) ?_
            refine va_get (D := D) (ci := 5) (v := .int v20) (C := RX5) (T := TX5) (N := 16) hx hb hts inA5 hown hK hP 0 rfl rfl 14 (by decide) (hts _ wd_fl_RX5_150) (fun _ h9 => h9) rfl dX5_atHand_56 ?_
            refine lv_goto (tgt := 64) hx hb dX5_atHand_59 (by decide) ?_
            exact hret _ _ _ _ (v20) (v20, v21) dX5_atHand_64 rfl (hq.symm.trans hX) hP hD hS
        · have hq := it_pos hq c16
          refine lv_iconst (v := (-1)) hx hb dX5_atHand_34 (by decide) ?_
          exact hret _ _ _ _ ((-1)) (hd, st) dX5_atHand_35 rfl (hq.symm.trans hX) hP hD hS
def sh_X5_darkest (sv : Nat → Int32) (hd : Int32) (st : Int32) (x1 : Int32) (x2 : Int32) (x3 : Int32) : Int32 × (Int32) × (Int32) := (if (sh_X5_isCup x1) = 0 then ((-1 : Int32), hd, st) else (if (sh_X5_areDots x2) = 0 then ((-1 : Int32), hd, st) else (if (sh_X5_in x3 1 50) = 0 then ((-1 : Int32), hd, st) else (kb (sh_X5_lastsFor sv x1 x2 1 1 x3) (fun z_r13 => (kb (α := (Int32)) (if z_r13.1 = x3 then 1 else (-4)) (fun z_v20 => (kb (sh_X5_lastsFor sv x1 x2 2 1 x3) (fun z_r21 => (kb (α := (Int32)) (if z_r21.1 = x3 then 2 else z_v20) (fun z_v28 => (kb (sh_X5_lastsFor sv x1 x2 3 1 x3) (fun z_r29 => (kb (α := (Int32)) (if z_r29.1 = x3 then 3 else z_v28) (fun z_v36 => (kb (sh_X5_lastsFor sv x1 x2 4 1 x3) (fun z_r37 => (kb (α := (Int32)) (if z_r37.1 = x3 then 4 else z_v36) (fun z_v44 => (kb (sh_X5_lastsFor sv x1 x2 5 1 x3) (fun z_r45 => (kb (α := (Int32)) (if z_r45.1 = x3 then 5 else z_v44) (fun z_v52 => (z_v52, z_r45.2.1, z_r45.2.2))))))))))))))))))))))))
abbrev rm_X5_darkest : Room := { frames := 2, cells := 0, slots := 0, locals := 53 }
theorem hd_X5_darkest : hdT yX5_darkest 3 := by decide +kernel
set_option maxHeartbeats 40000000 in
set_option maxRecDepth 100000 in
theorem c_X5_darkest (l : Launch) (D : va_G) (cI cC cQ : ClassId) (sz : Nat) (h0 : Nat) (a : Nat → Nat) (sv : Nat → Int32) (pa : Nat → Int32) (pn : Int32) (sn : Nat → Int32) (kp : Int32) (pd : Nat → Int32) (ln : Int32) (so : Nat → Int32) (po : Int32) (wr : Int32) (lt : Int32) (fr : Int32) (sc : Int32) (tm : Int32) (hd : Int32) (st : Int32) (x1 : Int32) (x2 : Int32) (x3 : Int32) (hiv : iv sv) : Met l yX5_darkest (wsO yX5_darkest cX5_darkest 6 (some .int)) rm_X5_darkest (va_Pc [.ref h0, .int x1, .int x2, .int x3] (inW D (TYS cI cC cQ) (MO cI h0 a sv pa pn sn kp pd ln so po wr lt fr sc tm hd st) sz)) (va_Qi (fun (r : Int32) (u : (Int32) × (Int32)) => (r, u) = sh_X5_darkest sv hd st x1 x2 x3) (fun (u : (Int32) × (Int32)) => atW D (TYS cI cC cQ) (va_A (MO cI h0 a sv pa pn sn kp pd ln so po wr lt fr sc tm hd st) sz) (MO cI h0 a sv pa pn sn kp pd ln so po wr lt fr sc tm u.1 u.2)) (va_A (MO cI h0 a sv pa pn sn kp pd ln so po wr lt fr sc tm hd st) sz)) 0 0 (va_A (MO cI h0 a sv pa pn sn kp pd ln so po wr lt fr sc tm hd st) sz) := by
  refine k_meti .int rfl (by decide) (Nat.le_of_ble_eq_true rfl) ?_
  intro p e s m args below meth c A ls Q H locs hargs hret hx hb hts hown hml hname hN hA hS hP hK hD hl
  have hl : lv_has ls 6 [(0, .ref h0), (1, .int x1), (2, .int x2), (3, .int x3)] := hl
  obtain ⟨Xq, hX⟩ : ∃ Xq, Xq = sh_X5_darkest sv hd st x1 x2 x3 := ⟨_, rfl⟩
  have hq : Xq = (if (sh_X5_isCup x1) = 0 then ((-1 : Int32), hd, st) else (if (sh_X5_areDots x2) = 0 then ((-1 : Int32), hd, st) else (if (sh_X5_in x3 1 50) = 0 then ((-1 : Int32), hd, st) else (kb (sh_X5_lastsFor sv x1 x2 1 1 x3) (fun z_r13 => (kb (α := (Int32)) (if z_r13.1 = x3 then 1 else (-4)) (fun z_v20 => (kb (sh_X5_lastsFor sv x1 x2 2 1 x3) (fun z_r21 => (kb (α := (Int32)) (if z_r21.1 = x3 then 2 else z_v20) (fun z_v28 => (kb (sh_X5_lastsFor sv x1 x2 3 1 x3) (fun z_r29 => (kb (α := (Int32)) (if z_r29.1 = x3 then 3 else z_v28) (fun z_v36 => (kb (sh_X5_lastsFor sv x1 x2 4 1 x3) (fun z_r37 => (kb (α := (Int32)) (if z_r37.1 = x3 then 4 else z_v36) (fun z_v44 => (kb (sh_X5_lastsFor sv x1 x2 5 1 x3) (fun z_r45 => (kb (α := (Int32)) (if z_r45.1 = x3 then 5 else z_v44) (fun z_v52 => (z_v52, z_r45.2.1, z_r45.2.2)))))))))))))))))))))))) := hX
  refine lv_iload_n hx hb dX5_darkest_0 rfl (lv_at hl 1 rfl) ?_
  have hPs : va_P D vwCl ([] ++ ([] ++ (MO cI h0 a sv pa pn sn kp pd ln so po wr lt fr sc tm hd st))) H := hP
  have hDs : va_D A ([] ++ ([] ++ (MO cI h0 a sv pa pn sn kp pd ln so po wr lt fr sc tm hd st))) := hD
  refine k_behi (X := []) (Y := (MO cI h0 a sv pa pn sn kp pd ln so po wr lt fr sc tm hd st)) (va_runS (As := [.int x1]) (rest := []) ⟨hx, hb, hml, hown, hts⟩ (c_X5_isCup l D cI cC cQ H.size x1) (kcwS hts wd_ml_RX5_61 wd_st_yX5_isCup wd_ini_RX5 wd_code_yX5_isCup rfl rfl hd_X5_isCup ⟨Nat.le_of_ble_eq_true rfl, Nat.le_of_ble_eq_true rfl⟩) ⟨in_blind, k_pre hK (pa_l (pa_r hPs)) (da_l (da_r hDs)) hN⟩ rfl rfl hl.1 rfl (lv_room (Nat.le_of_ble_eq_true rfl)) dX5_darkest_1 ⟨Nat.le_of_ble_eq_true rfl, Nat.le_of_ble_eq_true rfl⟩) hPs hDs hS hA (fun r1 u2 H locs hw3 hP hD hS => ?_)
  have hP : va_P D vwCl (MO cI h0 a sv pa pn sn kp pd ln so po wr lt fr sc tm hd st) H := hP
  have hD : va_D A (MO cI h0 a sv pa pn sn kp pd ln so po wr lt fr sc tm hd st) := hD
  have hw3 : r1 = (sh_X5_isCup x1) := hw3
  subst hw3
  refine lv_if_eq (tgt := 24) hx hb dX5_darkest_4 (by decide) (fun c4 => ?_) (fun c4 => ?_)
  · have hq := it_pos hq c4
    refine lv_iconst (v := (-1)) hx hb dX5_darkest_24 (by decide) ?_
    exact hret _ _ _ _ ((-1)) (hd, st) dX5_darkest_25 rfl (hq.symm.trans hX) hP hD hS
  · have hq := it_neg hq c4
    refine lv_iload_n hx hb dX5_darkest_7 rfl (lv_at hl 2 rfl) ?_
    have hPs : va_P D vwCl ([] ++ ([] ++ (MO cI h0 a sv pa pn sn kp pd ln so po wr lt fr sc tm hd st))) H := hP
    have hDs : va_D A ([] ++ ([] ++ (MO cI h0 a sv pa pn sn kp pd ln so po wr lt fr sc tm hd st))) := hD
    refine k_behi (X := []) (Y := (MO cI h0 a sv pa pn sn kp pd ln so po wr lt fr sc tm hd st)) (va_runS (As := [.int x2]) (rest := []) ⟨hx, hb, hml, hown, hts⟩ (c_X5_areDots l D cI cC cQ H.size x2) (kcwS hts wd_ml_RX5_52 wd_st_yX5_areDots wd_ini_RX5 wd_code_yX5_areDots rfl rfl hd_X5_areDots ⟨Nat.le_of_ble_eq_true rfl, Nat.le_of_ble_eq_true rfl⟩) ⟨in_blind, k_pre hK (pa_l (pa_r hPs)) (da_l (da_r hDs)) hN⟩ rfl rfl hl.1 rfl (lv_room (Nat.le_of_ble_eq_true rfl)) dX5_darkest_8 ⟨Nat.le_of_ble_eq_true rfl, Nat.le_of_ble_eq_true rfl⟩) hPs hDs hS hA (fun r5 u6 H locs hw7 hP hD hS => ?_)
    have hP : va_P D vwCl (MO cI h0 a sv pa pn sn kp pd ln so po wr lt fr sc tm hd st) H := hP
    have hD : va_D A (MO cI h0 a sv pa pn sn kp pd ln so po wr lt fr sc tm hd st) := hD
    have hw7 : r5 = (sh_X5_areDots x2) := hw7
    subst hw7
    refine lv_if_eq (tgt := 24) hx hb dX5_darkest_11 (by decide) (fun c8 => ?_) (fun c8 => ?_)
    · have hq := it_pos hq c8
      refine lv_iconst (v := (-1)) hx hb dX5_darkest_24 (by decide) ?_
      exact hret _ _ _ _ ((-1)) (hd, st) dX5_darkest_25 rfl (hq.symm.trans hX) hP hD hS
    · have hq := it_neg hq c8
      refine lv_iload_n hx hb dX5_darkest_14 rfl (lv_at hl 3 rfl) ?_
      refine lv_iconst (v := 1) hx hb dX5_darkest_15 (by decide) ?_
      refine lv_bipush (v := 50) hx hb dX5_darkest_16 (by decide) ?_
      have hPs : va_P D vwCl ([] ++ ([] ++ (MO cI h0 a sv pa pn sn kp pd ln so po wr lt fr sc tm hd st))) H := hP
      have hDs : va_D A ([] ++ ([] ++ (MO cI h0 a sv pa pn sn kp pd ln so po wr lt fr sc tm hd st))) := hD
      refine k_behi (X := []) (Y := (MO cI h0 a sv pa pn sn kp pd ln so po wr lt fr sc tm hd st)) (va_runS (As := [.int x3, .int 1, .int 50]) (rest := []) ⟨hx, hb, hml, hown, hts⟩ (c_X5_in l D cI cC cQ H.size x3 1 50) (kcwS hts wd_ml_RX5_25 wd_st_yX5_in wd_ini_RX5 wd_code_yX5_in rfl rfl hd_X5_in ⟨Nat.le_of_ble_eq_true rfl, Nat.le_of_ble_eq_true rfl⟩) ⟨in_blind, k_pre hK (pa_l (pa_r hPs)) (da_l (da_r hDs)) hN⟩ rfl rfl hl.1 rfl (lv_room (Nat.le_of_ble_eq_true rfl)) dX5_darkest_18 ⟨Nat.le_of_ble_eq_true rfl, Nat.le_of_ble_eq_true rfl⟩) hPs hDs hS hA (fun r9 u10 H locs hw11 hP hD hS => ?_)
      have hP : va_P D vwCl (MO cI h0 a sv pa pn sn kp pd ln so po wr lt fr sc tm hd st) H := hP
      have hD : va_D A (MO cI h0 a sv pa pn sn kp pd ln so po wr lt fr sc tm hd st) := hD
      have hw11 : r9 = (sh_X5_in x3 1 50) := hw11
      subst hw11
      refine lv_if_ne (tgt := 26) hx hb dX5_darkest_21 (by decide) (fun c12 => ?_) (fun c12 => ?_)
      · have hq := it_neg hq c12
        refine lv_bipush (v := (-4)) hx hb dX5_darkest_26 (by decide) ?_
        refine lv_istore (lv' := [(4, .int (-4)), (0, .ref h0), (1, .int x1), (2, .int x2), (3, .int x3)]) hx hb dX5_darkest_28 hl (by decide) rfl (fun ls hl => ?_)
        refine lv_iconst (v := 1) hx hb dX5_darkest_30 (by decide) ?_
        refine lv_istore (lv' := [(5, .int 1), (4, .int (-4)), (0, .ref h0), (1, .int x1), (2, .int x2), (3, .int x3)]) hx hb dX5_darkest_31 hl (by decide) rfl (fun ls hl => ?_)
        refine lv_iload hx hb dX5_darkest_33 (lv_at hl 0 rfl) ?_
        refine lv_bipush (v := 6) hx hb dX5_darkest_35 (by decide) ?_
        refine lv_icmp_ge (tgt := 69) hx hb dX5_darkest_37 (by decide) (fun c9 => absurd c9 (by decide)) (fun _ => ?_)
        refine lv_aload_n hx hb dX5_darkest_40 rfl (lv_at hl 2 rfl) ?_
        refine lv_iload_n hx hb dX5_darkest_41 rfl (lv_at hl 3 rfl) ?_
        refine lv_iload_n hx hb dX5_darkest_42 rfl (lv_at hl 4 rfl) ?_
        refine lv_iload hx hb dX5_darkest_43 (lv_at hl 0 rfl) ?_
        refine lv_iconst (v := 1) hx hb dX5_darkest_45 (by decide) ?_
        refine lv_iload_n hx hb dX5_darkest_46 rfl (lv_at hl 5 rfl) ?_
        have hPs := k_self hP
        have hDs := k_selfD hD
        refine k_behi (X := []) (Y := []) (va_runV (As := [.int x1, .int x2, .int 1, .int 1, .int x3]) (rest := []) ⟨hx, hb, hml, hown, hts⟩ (c_X5_lastsFor l D cI cC cQ H.size h0 a sv pa pn sn kp pd ln so po wr lt fr sc tm hd st x1 x2 1 1 x3 ((mIn4 c4)) (hiv)) (kcwV hts wd_ml_RX5_159 wd_im_yX5_lastsFor wd_sel_yX5_lastsFor wd_ini_RX5 wd_code_yX5_lastsFor rfl rfl rfl hd_X5_lastsFor ⟨Nat.le_of_ble_eq_true rfl, Nat.le_of_ble_eq_true rfl⟩) ⟨in_blind, va_recv hK (pa_l (pa_r hPs)) (ci := 5) (q0 := 0) rfl rfl, k_pre hK (pa_l (pa_r hPs)) (da_l (da_r hDs)) hN⟩ rfl rfl hl.1 rfl (lv_room (Nat.le_of_ble_eq_true rfl)) dX5_darkest_47 ⟨Nat.le_of_ble_eq_true rfl, Nat.le_of_ble_eq_true rfl⟩) hPs hDs hS hA (fun r13 u14 H locs hw15 hP hD hS => ?_)
        obtain ⟨v16, v17⟩ := u14
        have hP := k_unP hP
        have hD := k_unD hD
        have hP : va_P D vwCl (MO cI h0 a sv pa pn sn kp pd ln so po wr lt fr sc tm v16 v17) H := hP
        have hD : va_D A (MO cI h0 a sv pa pn sn kp pd ln so po wr lt fr sc tm v16 v17) := hD
        have hw15 : (r13, v16, v17) = (sh_X5_lastsFor sv x1 x2 1 1 x3) := hw15
        have hq := kb_to hq hw15
        refine lv_iload_n hx hb dX5_darkest_50 rfl (lv_at hl 5 rfl) ?_
        have K : ∀ (v20 : Int32) (H : Heap) (locs : List Loc) (ls : Array Slot), v20 = (if r13 = x3 then 1 else (-4)) → va_P D vwCl (MO cI h0 a sv pa pn sn kp pd ln so po wr lt fr sc tm v16 v17) H → va_D A (MO cI h0 a sv pa pn sn kp pd ln so po wr lt fr sc tm v16 v17) → va_S A s.heap H locs → lv_has ls 6 [(0, .ref h0), (1, .int x1), (2, .int x2), (3, .int x3), (4, .int (-4)), (5, .int 1)] → W p l e rm_X5_darkest s m args below meth c H locs 0 0 Q (F0 m 61 ls [.int v20]) := by
          intro v20 H locs ls hv19 hP hD hS hl
          have hq := kb_to hq hv19
          refine lv_istore (lv' := [(4, .int v20), (0, .ref h0), (1, .int x1), (2, .int x2), (3, .int x3), (5, .int 1)]) hx hb dX5_darkest_61 hl (by decide) rfl (fun ls hl => ?_)
          refine lv_iinc (v := 2) (lv' := [(5, .int 2), (4, .int v20), (0, .ref h0), (1, .int x1), (2, .int x2), (3, .int x3)]) hx hb dX5_darkest_63 hl (k := 5) rfl (by decide) (by decide) rfl (fun ls hl => ?_)
          refine lv_goto (tgt := 33) hx hb dX5_darkest_66 (by decide) ?_
          refine lv_iload hx hb dX5_darkest_33 (lv_at hl 0 rfl) ?_
          refine lv_bipush (v := 6) hx hb dX5_darkest_35 (by decide) ?_
          refine lv_icmp_ge (tgt := 69) hx hb dX5_darkest_37 (by decide) (fun c9 => absurd c9 (by decide)) (fun _ => ?_)
          refine lv_aload_n hx hb dX5_darkest_40 rfl (lv_at hl 2 rfl) ?_
          refine lv_iload_n hx hb dX5_darkest_41 rfl (lv_at hl 3 rfl) ?_
          refine lv_iload_n hx hb dX5_darkest_42 rfl (lv_at hl 4 rfl) ?_
          refine lv_iload hx hb dX5_darkest_43 (lv_at hl 0 rfl) ?_
          refine lv_iconst (v := 1) hx hb dX5_darkest_45 (by decide) ?_
          refine lv_iload_n hx hb dX5_darkest_46 rfl (lv_at hl 5 rfl) ?_
          have hPs := k_self hP
          have hDs := k_selfD hD
          refine k_behi (X := []) (Y := []) (va_runV (As := [.int x1, .int x2, .int 2, .int 1, .int x3]) (rest := []) ⟨hx, hb, hml, hown, hts⟩ (c_X5_lastsFor l D cI cC cQ H.size h0 a sv pa pn sn kp pd ln so po wr lt fr sc tm v16 v17 x1 x2 2 1 x3 ((mIn4 c4)) (hiv)) (kcwV hts wd_ml_RX5_159 wd_im_yX5_lastsFor wd_sel_yX5_lastsFor wd_ini_RX5 wd_code_yX5_lastsFor rfl rfl rfl hd_X5_lastsFor ⟨Nat.le_of_ble_eq_true rfl, Nat.le_of_ble_eq_true rfl⟩) ⟨in_blind, va_recv hK (pa_l (pa_r hPs)) (ci := 5) (q0 := 0) rfl rfl, k_pre hK (pa_l (pa_r hPs)) (da_l (da_r hDs)) hN⟩ rfl rfl hl.1 rfl (lv_room (Nat.le_of_ble_eq_true rfl)) dX5_darkest_47 ⟨Nat.le_of_ble_eq_true rfl, Nat.le_of_ble_eq_true rfl⟩) hPs hDs hS hA (fun r21 u22 H locs hw23 hP hD hS => ?_)
          obtain ⟨v24, v25⟩ := u22
          have hP := k_unP hP
          have hD := k_unD hD
          have hP : va_P D vwCl (MO cI h0 a sv pa pn sn kp pd ln so po wr lt fr sc tm v24 v25) H := hP
          have hD : va_D A (MO cI h0 a sv pa pn sn kp pd ln so po wr lt fr sc tm v24 v25) := hD
          have hw23 : (r21, v24, v25) = (sh_X5_lastsFor sv x1 x2 2 1 x3) := hw23
          have hq := kb_to hq hw23
          refine lv_iload_n hx hb dX5_darkest_50 rfl (lv_at hl 5 rfl) ?_
          have K : ∀ (v28 : Int32) (H : Heap) (locs : List Loc) (ls : Array Slot), v28 = (if r21 = x3 then 2 else v20) → va_P D vwCl (MO cI h0 a sv pa pn sn kp pd ln so po wr lt fr sc tm v24 v25) H → va_D A (MO cI h0 a sv pa pn sn kp pd ln so po wr lt fr sc tm v24 v25) → va_S A s.heap H locs → lv_has ls 6 [(0, .ref h0), (1, .int x1), (2, .int x2), (3, .int x3), (4, .int v20), (5, .int 2)] → W p l e rm_X5_darkest s m args below meth c H locs 0 0 Q (F0 m 61 ls [.int v28]) := by
            intro v28 H locs ls hv27 hP hD hS hl
            have hq := kb_to hq hv27
            refine lv_istore (lv' := [(4, .int v28), (0, .ref h0), (1, .int x1), (2, .int x2), (3, .int x3), (5, .int 2)]) hx hb dX5_darkest_61 hl (by decide) rfl (fun ls hl => ?_)
            refine lv_iinc (v := 3) (lv' := [(5, .int 3), (4, .int v28), (0, .ref h0), (1, .int x1), (2, .int x2), (3, .int x3)]) hx hb dX5_darkest_63 hl (k := 5) rfl (by decide) (by decide) rfl (fun ls hl => ?_)
            refine lv_goto (tgt := 33) hx hb dX5_darkest_66 (by decide) ?_
            refine lv_iload hx hb dX5_darkest_33 (lv_at hl 0 rfl) ?_
            refine lv_bipush (v := 6) hx hb dX5_darkest_35 (by decide) ?_
            refine lv_icmp_ge (tgt := 69) hx hb dX5_darkest_37 (by decide) (fun c9 => absurd c9 (by decide)) (fun _ => ?_)
            refine lv_aload_n hx hb dX5_darkest_40 rfl (lv_at hl 2 rfl) ?_
            refine lv_iload_n hx hb dX5_darkest_41 rfl (lv_at hl 3 rfl) ?_
            refine lv_iload_n hx hb dX5_darkest_42 rfl (lv_at hl 4 rfl) ?_
            refine lv_iload hx hb dX5_darkest_43 (lv_at hl 0 rfl) ?_
            refine lv_iconst (v := 1) hx hb dX5_darkest_45 (by decide) ?_
            refine lv_iload_n hx hb dX5_darkest_46 rfl (lv_at hl 5 rfl) ?_
            have hPs := k_self hP
            have hDs := k_selfD hD
            refine k_behi (X := []) (Y := []) (va_runV (As := [.int x1, .int x2, .int 3, .int 1, .int x3]) (rest := []) ⟨hx, hb, hml, hown, hts⟩ (c_X5_lastsFor l D cI cC cQ H.size h0 a sv pa pn sn kp pd ln so po wr lt fr sc tm v24 v25 x1 x2 3 1 x3 ((mIn4 c4)) (hiv)) (kcwV hts wd_ml_RX5_159 wd_im_yX5_lastsFor wd_sel_yX5_lastsFor wd_ini_RX5 wd_code_yX5_lastsFor rfl rfl rfl hd_X5_lastsFor ⟨Nat.le_of_ble_eq_true rfl, Nat.le_of_ble_eq_true rfl⟩) ⟨in_blind, va_recv hK (pa_l (pa_r hPs)) (ci := 5) (q0 := 0) rfl rfl, k_pre hK (pa_l (pa_r hPs)) (da_l (da_r hDs)) hN⟩ rfl rfl hl.1 rfl (lv_room (Nat.le_of_ble_eq_true rfl)) dX5_darkest_47 ⟨Nat.le_of_ble_eq_true rfl, Nat.le_of_ble_eq_true rfl⟩) hPs hDs hS hA (fun r29 u30 H locs hw31 hP hD hS => ?_)
            obtain ⟨v32, v33⟩ := u30
            have hP := k_unP hP
            have hD := k_unD hD
            have hP : va_P D vwCl (MO cI h0 a sv pa pn sn kp pd ln so po wr lt fr sc tm v32 v33) H := hP
            have hD : va_D A (MO cI h0 a sv pa pn sn kp pd ln so po wr lt fr sc tm v32 v33) := hD
            have hw31 : (r29, v32, v33) = (sh_X5_lastsFor sv x1 x2 3 1 x3) := hw31
            have hq := kb_to hq hw31
            refine lv_iload_n hx hb dX5_darkest_50 rfl (lv_at hl 5 rfl) ?_
            have K : ∀ (v36 : Int32) (H : Heap) (locs : List Loc) (ls : Array Slot), v36 = (if r29 = x3 then 3 else v28) → va_P D vwCl (MO cI h0 a sv pa pn sn kp pd ln so po wr lt fr sc tm v32 v33) H → va_D A (MO cI h0 a sv pa pn sn kp pd ln so po wr lt fr sc tm v32 v33) → va_S A s.heap H locs → lv_has ls 6 [(0, .ref h0), (1, .int x1), (2, .int x2), (3, .int x3), (4, .int v28), (5, .int 3)] → W p l e rm_X5_darkest s m args below meth c H locs 0 0 Q (F0 m 61 ls [.int v36]) := by
              intro v36 H locs ls hv35 hP hD hS hl
              have hq := kb_to hq hv35
              refine lv_istore (lv' := [(4, .int v36), (0, .ref h0), (1, .int x1), (2, .int x2), (3, .int x3), (5, .int 3)]) hx hb dX5_darkest_61 hl (by decide) rfl (fun ls hl => ?_)
              refine lv_iinc (v := 4) (lv' := [(5, .int 4), (4, .int v36), (0, .ref h0), (1, .int x1), (2, .int x2), (3, .int x3)]) hx hb dX5_darkest_63 hl (k := 5) rfl (by decide) (by decide) rfl (fun ls hl => ?_)
              refine lv_goto (tgt := 33) hx hb dX5_darkest_66 (by decide) ?_
              refine lv_iload hx hb dX5_darkest_33 (lv_at hl 0 rfl) ?_
              refine lv_bipush (v := 6) hx hb dX5_darkest_35 (by decide) ?_
              refine lv_icmp_ge (tgt := 69) hx hb dX5_darkest_37 (by decide) (fun c9 => absurd c9 (by decide)) (fun _ => ?_)
              refine lv_aload_n hx hb dX5_darkest_40 rfl (lv_at hl 2 rfl) ?_
              refine lv_iload_n hx hb dX5_darkest_41 rfl (lv_at hl 3 rfl) ?_
              refine lv_iload_n hx hb dX5_darkest_42 rfl (lv_at hl 4 rfl) ?_
              refine lv_iload hx hb dX5_darkest_43 (lv_at hl 0 rfl) ?_
              refine lv_iconst (v := 1) hx hb dX5_darkest_45 (by decide) ?_
              refine lv_iload_n hx hb dX5_darkest_46 rfl (lv_at hl 5 rfl) ?_
              have hPs := k_self hP
              have hDs := k_selfD hD
              refine k_behi (X := []) (Y := []) (va_runV (As := [.int x1, .int x2, .int 4, .int 1, .int x3]) (rest := []) ⟨hx, hb, hml, hown, hts⟩ (c_X5_lastsFor l D cI cC cQ H.size h0 a sv pa pn sn kp pd ln so po wr lt fr sc tm v32 v33 x1 x2 4 1 x3 ((mIn4 c4)) (hiv)) (kcwV hts wd_ml_RX5_159 wd_im_yX5_lastsFor wd_sel_yX5_lastsFor wd_ini_RX5 wd_code_yX5_lastsFor rfl rfl rfl hd_X5_lastsFor ⟨Nat.le_of_ble_eq_true rfl, Nat.le_of_ble_eq_true rfl⟩) ⟨in_blind, va_recv hK (pa_l (pa_r hPs)) (ci := 5) (q0 := 0) rfl rfl, k_pre hK (pa_l (pa_r hPs)) (da_l (da_r hDs)) hN⟩ rfl rfl hl.1 rfl (lv_room (Nat.le_of_ble_eq_true rfl)) dX5_darkest_47 ⟨Nat.le_of_ble_eq_true rfl, Nat.le_of_ble_eq_true rfl⟩) hPs hDs hS hA (fun r37 u38 H locs hw39 hP hD hS => ?_)
              obtain ⟨v40, v41⟩ := u38
              have hP := k_unP hP
              have hD := k_unD hD
              have hP : va_P D vwCl (MO cI h0 a sv pa pn sn kp pd ln so po wr lt fr sc tm v40 v41) H := hP
              have hD : va_D A (MO cI h0 a sv pa pn sn kp pd ln so po wr lt fr sc tm v40 v41) := hD
              have hw39 : (r37, v40, v41) = (sh_X5_lastsFor sv x1 x2 4 1 x3) := hw39
              have hq := kb_to hq hw39
              refine lv_iload_n hx hb dX5_darkest_50 rfl (lv_at hl 5 rfl) ?_
              have K : ∀ (v44 : Int32) (H : Heap) (locs : List Loc) (ls : Array Slot), v44 = (if r37 = x3 then 4 else v36) → va_P D vwCl (MO cI h0 a sv pa pn sn kp pd ln so po wr lt fr sc tm v40 v41) H → va_D A (MO cI h0 a sv pa pn sn kp pd ln so po wr lt fr sc tm v40 v41) → va_S A s.heap H locs → lv_has ls 6 [(0, .ref h0), (1, .int x1), (2, .int x2), (3, .int x3), (4, .int v36), (5, .int 4)] → W p l e rm_X5_darkest s m args below meth c H locs 0 0 Q (F0 m 61 ls [.int v44]) := by
                intro v44 H locs ls hv43 hP hD hS hl
                have hq := kb_to hq hv43
                refine lv_istore (lv' := [(4, .int v44), (0, .ref h0), (1, .int x1), (2, .int x2), (3, .int x3), (5, .int 4)]) hx hb dX5_darkest_61 hl (by decide) rfl (fun ls hl => ?_)
                refine lv_iinc (v := 5) (lv' := [(5, .int 5), (4, .int v44), (0, .ref h0), (1, .int x1), (2, .int x2), (3, .int x3)]) hx hb dX5_darkest_63 hl (k := 5) rfl (by decide) (by decide) rfl (fun ls hl => ?_)
                refine lv_goto (tgt := 33) hx hb dX5_darkest_66 (by decide) ?_
                refine lv_iload hx hb dX5_darkest_33 (lv_at hl 0 rfl) ?_
                refine lv_bipush (v := 6) hx hb dX5_darkest_35 (by decide) ?_
                refine lv_icmp_ge (tgt := 69) hx hb dX5_darkest_37 (by decide) (fun c9 => absurd c9 (by decide)) (fun _ => ?_)
                refine lv_aload_n hx hb dX5_darkest_40 rfl (lv_at hl 2 rfl) ?_
                refine lv_iload_n hx hb dX5_darkest_41 rfl (lv_at hl 3 rfl) ?_
                refine lv_iload_n hx hb dX5_darkest_42 rfl (lv_at hl 4 rfl) ?_
                refine lv_iload hx hb dX5_darkest_43 (lv_at hl 0 rfl) ?_
                refine lv_iconst (v := 1) hx hb dX5_darkest_45 (by decide) ?_
                refine lv_iload_n hx hb dX5_darkest_46 rfl (lv_at hl 5 rfl) ?_
                have hPs := k_self hP
                have hDs := k_selfD hD
                refine k_behi (X := []) (Y := []) (va_runV (As := [.int x1, .int x2, .int 5, .int 1, .int x3]) (rest := []) ⟨hx, hb, hml, hown, hts⟩ (c_X5_lastsFor l D cI cC cQ H.size h0 a sv pa pn sn kp pd ln so po wr lt fr sc tm v40 v41 x1 x2 5 1 x3 ((mIn4 c4)) (hiv)) (kcwV hts wd_ml_RX5_159 wd_im_yX5_lastsFor wd_sel_yX5_lastsFor wd_ini_RX5 wd_code_yX5_lastsFor rfl rfl rfl hd_X5_lastsFor ⟨Nat.le_of_ble_eq_true rfl, Nat.le_of_ble_eq_true rfl⟩) ⟨in_blind, va_recv hK (pa_l (pa_r hPs)) (ci := 5) (q0 := 0) rfl rfl, k_pre hK (pa_l (pa_r hPs)) (da_l (da_r hDs)) hN⟩ rfl rfl hl.1 rfl (lv_room (Nat.le_of_ble_eq_true rfl)) dX5_darkest_47 ⟨Nat.le_of_ble_eq_true rfl, Nat.le_of_ble_eq_true rfl⟩) hPs hDs hS hA (fun r45 u46 H locs hw47 hP hD hS => ?_)
                obtain ⟨v48, v49⟩ := u46
                have hP := k_unP hP
                have hD := k_unD hD
                have hP : va_P D vwCl (MO cI h0 a sv pa pn sn kp pd ln so po wr lt fr sc tm v48 v49) H := hP
                have hD : va_D A (MO cI h0 a sv pa pn sn kp pd ln so po wr lt fr sc tm v48 v49) := hD
                have hw47 : (r45, v48, v49) = (sh_X5_lastsFor sv x1 x2 5 1 x3) := hw47
                have hq := kb_to hq hw47
                refine lv_iload_n hx hb dX5_darkest_50 rfl (lv_at hl 5 rfl) ?_
                have K : ∀ (v52 : Int32) (H : Heap) (locs : List Loc) (ls : Array Slot), v52 = (if r45 = x3 then 5 else v44) → va_P D vwCl (MO cI h0 a sv pa pn sn kp pd ln so po wr lt fr sc tm v48 v49) H → va_D A (MO cI h0 a sv pa pn sn kp pd ln so po wr lt fr sc tm v48 v49) → va_S A s.heap H locs → lv_has ls 6 [(0, .ref h0), (1, .int x1), (2, .int x2), (3, .int x3), (4, .int v44), (5, .int 5)] → W p l e rm_X5_darkest s m args below meth c H locs 0 0 Q (F0 m 61 ls [.int v52]) := by
                  intro v52 H locs ls hv51 hP hD hS hl
                  have hq := kb_to hq hv51
                  refine lv_istore (lv' := [(4, .int v52), (0, .ref h0), (1, .int x1), (2, .int x2), (3, .int x3), (5, .int 5)]) hx hb dX5_darkest_61 hl (by decide) rfl (fun ls hl => ?_)
                  refine lv_iinc (v := 6) (lv' := [(5, .int 6), (4, .int v52), (0, .ref h0), (1, .int x1), (2, .int x2), (3, .int x3)]) hx hb dX5_darkest_63 hl (k := 5) rfl (by decide) (by decide) rfl (fun ls hl => ?_)
                  refine lv_goto (tgt := 33) hx hb dX5_darkest_66 (by decide) ?_
                  refine lv_iload hx hb dX5_darkest_33 (lv_at hl 0 rfl) ?_
                  refine lv_bipush (v := 6) hx hb dX5_darkest_35 (by decide) ?_
                  refine lv_icmp_ge (tgt := 69) hx hb dX5_darkest_37 (by decide) (fun _ => ?_) (fun c9 => absurd c9 (by decide))
                  refine lv_iload hx hb dX5_darkest_69 (lv_at hl 1 rfl) ?_
                  exact hret _ _ _ _ (v52) (v48, v49) dX5_darkest_71 rfl (hq.symm.trans hX) hP hD hS
                refine lv_icmp_ne (tgt := 59) hx hb dX5_darkest_51 (by decide) (fun c50 => ?_) (fun c50 => ?_)
                · skip
                  refine lv_iload hx hb dX5_darkest_59 (lv_at hl 1 rfl) ?_
                  exact K (v44) _ _ _ (by rw [if_neg c50]) hP hD hS (lv_sub hl [2, 3, 4, 5, 1, 0] rfl)
                · skip
                  refine lv_iload hx hb dX5_darkest_54 (lv_at hl 0 rfl) ?_
                  refine lv_goto (tgt := 61) hx hb dX5_darkest_56 (by decide) ?_
                  exact K (5) _ _ _ (by rw [if_pos c50]) hP hD hS (lv_sub hl [2, 3, 4, 5, 1, 0] rfl)
              refine lv_icmp_ne (tgt := 59) hx hb dX5_darkest_51 (by decide) (fun c42 => ?_) (fun c42 => ?_)
              · skip
                refine lv_iload hx hb dX5_darkest_59 (lv_at hl 1 rfl) ?_
                exact K (v36) _ _ _ (by rw [if_neg c42]) hP hD hS (lv_sub hl [2, 3, 4, 5, 1, 0] rfl)
              · skip
                refine lv_iload hx hb dX5_darkest_54 (lv_at hl 0 rfl) ?_
                refine lv_goto (tgt := 61) hx hb dX5_darkest_56 (by decide) ?_
                exact K (4) _ _ _ (by rw [if_pos c42]) hP hD hS (lv_sub hl [2, 3, 4, 5, 1, 0] rfl)
            refine lv_icmp_ne (tgt := 59) hx hb dX5_darkest_51 (by decide) (fun c34 => ?_) (fun c34 => ?_)
            · skip
              refine lv_iload hx hb dX5_darkest_59 (lv_at hl 1 rfl) ?_
              exact K (v28) _ _ _ (by rw [if_neg c34]) hP hD hS (lv_sub hl [2, 3, 4, 5, 1, 0] rfl)
            · skip
              refine lv_iload hx hb dX5_darkest_54 (lv_at hl 0 rfl) ?_
              refine lv_goto (tgt := 61) hx hb dX5_darkest_56 (by decide) ?_
              exact K (3) _ _ _ (by rw [if_pos c34]) hP hD hS (lv_sub hl [2, 3, 4, 5, 1, 0] rfl)
          refine lv_icmp_ne (tgt := 59) hx hb dX5_darkest_51 (by decide) (fun c26 => ?_) (fun c26 => ?_)
          · skip
            refine lv_iload hx hb dX5_darkest_59 (lv_at hl 1 rfl) ?_
            exact K (v20) _ _ _ (by rw [if_neg c26]) hP hD hS (lv_sub hl [2, 3, 4, 5, 1, 0] rfl)
          · skip
            refine lv_iload hx hb dX5_darkest_54 (lv_at hl 0 rfl) ?_
            refine lv_goto (tgt := 61) hx hb dX5_darkest_56 (by decide) ?_
            exact K (2) _ _ _ (by rw [if_pos c26]) hP hD hS (lv_sub hl [2, 3, 4, 5, 1, 0] rfl)
        refine lv_icmp_ne (tgt := 59) hx hb dX5_darkest_51 (by decide) (fun c18 => ?_) (fun c18 => ?_)
        · skip
          refine lv_iload hx hb dX5_darkest_59 (lv_at hl 1 rfl) ?_
          exact K ((-4)) _ _ _ (by rw [if_neg c18]) hP hD hS (lv_sub hl [2, 3, 4, 5, 1, 0] rfl)
        · skip
          refine lv_iload hx hb dX5_darkest_54 (lv_at hl 0 rfl) ?_
          refine lv_goto (tgt := 61) hx hb dX5_darkest_56 (by decide) ?_
          exact K (1) _ _ _ (by rw [if_pos c18]) hP hD hS (lv_sub hl [2, 3, 4, 5, 1, 0] rfl)
      · have hq := it_pos hq c12
        refine lv_iconst (v := (-1)) hx hb dX5_darkest_24 (by decide) ?_
        exact hret _ _ _ _ ((-1)) (hd, st) dX5_darkest_25 rfl (hq.symm.trans hX) hP hD hS
def lp_X5_bestFor_25 (sv : Nat → Int32) (x1 : Int32) (x2 : Int32) : Nat → (Int32) → (Int32) → (Int32) → (Int32) → (Int32 × (Int32) × (Int32))
  | 0, _, _, _, _ => default
  | fu + 1, c4, b3, l_hd, l_st => (if 4 ≤ c4 then (b3, l_hd, l_st) else (kb (sh_X5_lastsFor sv c4 x1 (sv (31 : Int32).toNatClampNeg) 1 x2) (fun z_r10 => (kb (α := (Int32)) (if z_r10.1 = x2 then 1 else 0) (fun z_v17 => (kb (α := (Int32)) (if z_v17 = 0 then b3 else (if b3 = (-4) then c4 else (if (sh_X5_tonerOf sv b3) ≤ (sh_X5_tonerOf sv c4) then b3 else c4))) (fun z_v28 => (lp_X5_bestFor_25 sv x1 x2 fu (c4 + 1) z_v28 z_r10.2.1 z_r10.2.2))))))))
def sh_X5_bestFor (sv : Nat → Int32) (hd : Int32) (st : Int32) (x1 : Int32) (x2 : Int32) : Int32 × (Int32) × (Int32) := (if (sh_X5_areDots x1) = 0 then ((-1 : Int32), hd, st) else (if (sh_X5_in x2 1 50) = 0 then ((-1 : Int32), hd, st) else (lp_X5_bestFor_25 sv x1 x2 (((4 : Int32).toInt - (0 : Int32).toInt).toNat + 1) 0 (-4) hd st)))
abbrev rm_X5_bestFor : Room := { frames := 2, cells := 0, slots := 0, locals := 53 }
theorem hd_X5_bestFor : hdT yX5_bestFor 2 := by decide +kernel
set_option maxHeartbeats 40000000 in
set_option maxRecDepth 100000 in
theorem c_X5_bestFor (l : Launch) (D : va_G) (cI cC cQ : ClassId) (sz : Nat) (h0 : Nat) (a : Nat → Nat) (sv : Nat → Int32) (pa : Nat → Int32) (pn : Int32) (sn : Nat → Int32) (kp : Int32) (pd : Nat → Int32) (ln : Int32) (so : Nat → Int32) (po : Int32) (wr : Int32) (lt : Int32) (fr : Int32) (sc : Int32) (tm : Int32) (hd : Int32) (st : Int32) (x1 : Int32) (x2 : Int32) (hiv : iv sv) : Met l yX5_bestFor (wsO yX5_bestFor cX5_bestFor 6 (some .int)) rm_X5_bestFor (va_Pc [.ref h0, .int x1, .int x2] (inW D (TYS cI cC cQ) (MO cI h0 a sv pa pn sn kp pd ln so po wr lt fr sc tm hd st) sz)) (va_Qi (fun (r : Int32) (u : (Int32) × (Int32)) => (r, u) = sh_X5_bestFor sv hd st x1 x2) (fun (u : (Int32) × (Int32)) => atW D (TYS cI cC cQ) (va_A (MO cI h0 a sv pa pn sn kp pd ln so po wr lt fr sc tm hd st) sz) (MO cI h0 a sv pa pn sn kp pd ln so po wr lt fr sc tm u.1 u.2)) (va_A (MO cI h0 a sv pa pn sn kp pd ln so po wr lt fr sc tm hd st) sz)) 0 0 (va_A (MO cI h0 a sv pa pn sn kp pd ln so po wr lt fr sc tm hd st) sz) := by
  refine k_meti .int rfl (by decide) (Nat.le_of_ble_eq_true rfl) ?_
  intro p e s m args below meth c A ls Q H locs hargs hret hx hb hts hown hml hname hN hA hS hP hK hD hl
  have hl : lv_has ls 6 [(0, .ref h0), (1, .int x1), (2, .int x2)] := hl
  obtain ⟨Xq, hX⟩ : ∃ Xq, Xq = sh_X5_bestFor sv hd st x1 x2 := ⟨_, rfl⟩
  have hq : Xq = (if (sh_X5_areDots x1) = 0 then ((-1 : Int32), hd, st) else (if (sh_X5_in x2 1 50) = 0 then ((-1 : Int32), hd, st) else (lp_X5_bestFor_25 sv x1 x2 (((4 : Int32).toInt - (0 : Int32).toInt).toNat + 1) 0 (-4) hd st))) := hX
  refine lv_iload_n hx hb dX5_bestFor_0 rfl (lv_at hl 1 rfl) ?_
  have hPs : va_P D vwCl ([] ++ ([] ++ (MO cI h0 a sv pa pn sn kp pd ln so po wr lt fr sc tm hd st))) H := hP
  have hDs : va_D A ([] ++ ([] ++ (MO cI h0 a sv pa pn sn kp pd ln so po wr lt fr sc tm hd st))) := hD
  refine k_behi (X := []) (Y := (MO cI h0 a sv pa pn sn kp pd ln so po wr lt fr sc tm hd st)) (va_runS (As := [.int x1]) (rest := []) ⟨hx, hb, hml, hown, hts⟩ (c_X5_areDots l D cI cC cQ H.size x1) (kcwS hts wd_ml_RX5_52 wd_st_yX5_areDots wd_ini_RX5 wd_code_yX5_areDots rfl rfl hd_X5_areDots ⟨Nat.le_of_ble_eq_true rfl, Nat.le_of_ble_eq_true rfl⟩) ⟨in_blind, k_pre hK (pa_l (pa_r hPs)) (da_l (da_r hDs)) hN⟩ rfl rfl hl.1 rfl (lv_room (Nat.le_of_ble_eq_true rfl)) dX5_bestFor_1 ⟨Nat.le_of_ble_eq_true rfl, Nat.le_of_ble_eq_true rfl⟩) hPs hDs hS hA (fun r1 u2 H locs hw3 hP hD hS => ?_)
  have hP : va_P D vwCl (MO cI h0 a sv pa pn sn kp pd ln so po wr lt fr sc tm hd st) H := hP
  have hD : va_D A (MO cI h0 a sv pa pn sn kp pd ln so po wr lt fr sc tm hd st) := hD
  have hw3 : r1 = (sh_X5_areDots x1) := hw3
  subst hw3
  refine lv_if_eq (tgt := 17) hx hb dX5_bestFor_4 (by decide) (fun c4 => ?_) (fun c4 => ?_)
  · have hq := it_pos hq c4
    refine lv_iconst (v := (-1)) hx hb dX5_bestFor_17 (by decide) ?_
    exact hret _ _ _ _ ((-1)) (hd, st) dX5_bestFor_18 rfl (hq.symm.trans hX) hP hD hS
  · have hq := it_neg hq c4
    refine lv_iload_n hx hb dX5_bestFor_7 rfl (lv_at hl 2 rfl) ?_
    refine lv_iconst (v := 1) hx hb dX5_bestFor_8 (by decide) ?_
    refine lv_bipush (v := 50) hx hb dX5_bestFor_9 (by decide) ?_
    have hPs : va_P D vwCl ([] ++ ([] ++ (MO cI h0 a sv pa pn sn kp pd ln so po wr lt fr sc tm hd st))) H := hP
    have hDs : va_D A ([] ++ ([] ++ (MO cI h0 a sv pa pn sn kp pd ln so po wr lt fr sc tm hd st))) := hD
    refine k_behi (X := []) (Y := (MO cI h0 a sv pa pn sn kp pd ln so po wr lt fr sc tm hd st)) (va_runS (As := [.int x2, .int 1, .int 50]) (rest := []) ⟨hx, hb, hml, hown, hts⟩ (c_X5_in l D cI cC cQ H.size x2 1 50) (kcwS hts wd_ml_RX5_25 wd_st_yX5_in wd_ini_RX5 wd_code_yX5_in rfl rfl hd_X5_in ⟨Nat.le_of_ble_eq_true rfl, Nat.le_of_ble_eq_true rfl⟩) ⟨in_blind, k_pre hK (pa_l (pa_r hPs)) (da_l (da_r hDs)) hN⟩ rfl rfl hl.1 rfl (lv_room (Nat.le_of_ble_eq_true rfl)) dX5_bestFor_11 ⟨Nat.le_of_ble_eq_true rfl, Nat.le_of_ble_eq_true rfl⟩) hPs hDs hS hA (fun r5 u6 H locs hw7 hP hD hS => ?_)
    have hP : va_P D vwCl (MO cI h0 a sv pa pn sn kp pd ln so po wr lt fr sc tm hd st) H := hP
    have hD : va_D A (MO cI h0 a sv pa pn sn kp pd ln so po wr lt fr sc tm hd st) := hD
    have hw7 : r5 = (sh_X5_in x2 1 50) := hw7
    subst hw7
    refine lv_if_ne (tgt := 19) hx hb dX5_bestFor_14 (by decide) (fun c8 => ?_) (fun c8 => ?_)
    · have hq := it_neg hq c8
      refine lv_bipush (v := (-4)) hx hb dX5_bestFor_19 (by decide) ?_
      refine lv_istore_n (lv' := [(3, .int (-4)), (0, .ref h0), (1, .int x1), (2, .int x2)]) hx hb dX5_bestFor_21 rfl hl (by decide) rfl (fun ls hl => ?_)
      refine lv_iconst (v := 0) hx hb dX5_bestFor_22 (by decide) ?_
      refine lv_istore (lv' := [(4, .int 0), (3, .int (-4)), (0, .ref h0), (1, .int x1), (2, .int x2)]) hx hb dX5_bestFor_23 hl (by decide) rfl (fun ls hl => ?_)
      have L25 : ∀ (fu : Nat) (c4 : Int32) (b3 : Int32) (l_hd : Int32) (l_st : Int32) (H : Heap) (locs : List Loc) (ls : Array Slot), ((4 : Int32).toInt - (c4 : Int32).toInt).toNat < fu → (¬ c4 < 0) → (b3 = (-4) ∨ vp_in b3 4) → Xq = lp_X5_bestFor_25 sv x1 x2 fu c4 b3 l_hd l_st → va_P D vwCl (MO cI h0 a sv pa pn sn kp pd ln so po wr lt fr sc tm l_hd l_st) H → va_D A (MO cI h0 a sv pa pn sn kp pd ln so po wr lt fr sc tm l_hd l_st) → va_S A s.heap H locs → lv_has ls 6 [(4, .int c4), (3, .int b3), (0, .ref h0), (1, .int x1), (2, .int x2)] → W p l e rm_X5_bestFor s m args below meth c H locs 0 0 Q (F0 m 25 ls []) := by
        intro fu
        induction fu with
        | zero => intro c4 b3 l_hd l_st H locs ls hmu; exact absurd hmu (Nat.not_lt_zero _)
        | succ fu ih =>
          intro c4 b3 l_hd l_st H locs ls hmu hk hbest hq hP hD hS hl
          have hq : Xq = (if 4 ≤ c4 then (b3, l_hd, l_st) else (kb (sh_X5_lastsFor sv c4 x1 (sv (31 : Int32).toNatClampNeg) 1 x2) (fun z_r10 => (kb (α := (Int32)) (if z_r10.1 = x2 then 1 else 0) (fun z_v17 => (kb (α := (Int32)) (if z_v17 = 0 then b3 else (if b3 = (-4) then c4 else (if (sh_X5_tonerOf sv b3) ≤ (sh_X5_tonerOf sv c4) then b3 else c4))) (fun z_v28 => (lp_X5_bestFor_25 sv x1 x2 fu (c4 + 1) z_v28 z_r10.2.1 z_r10.2.2)))))))) := hq
          refine lv_iload hx hb dX5_bestFor_25 (lv_at hl 0 rfl) ?_
          refine lv_iconst (v := 4) hx hb dX5_bestFor_27 (by decide) ?_
          refine lv_icmp_ge (tgt := 96) hx hb dX5_bestFor_28 (by decide) (fun c9 => ?_) (fun c9 => ?_)
          · have hq := it_pos hq c9
            refine lv_iload_n hx hb dX5_bestFor_96 rfl (lv_at hl 1 rfl) ?_
            exact hret _ _ _ _ (b3) (l_hd, l_st) dX5_bestFor_97 rfl (hq.symm.trans hX) hP hD hS
          · have hq := it_neg hq c9
            refine lv_aload_n hx hb dX5_bestFor_31 rfl (lv_at hl 2 rfl) ?_
            refine lv_iload hx hb dX5_bestFor_32 (lv_at hl 0 rfl) ?_
            refine lv_iload_n hx hb dX5_bestFor_34 rfl (lv_at hl 3 rfl) ?_
            refine lv_aload_n hx hb dX5_bestFor_35 rfl (lv_at hl 2 rfl) ?_
            refine va_get (D := D) (ci := 5) (v := .ref (a 0)) (C := RX5) (T := TX5) (N := 16) hx hb hts inA5 hown hK hP 0 rfl rfl 0 (by decide) (hts _ wd_fl_RX5_7) (fun _ h9 => h9) rfl dX5_bestFor_36 ?_
            refine lv_bipush (v := 31) hx hb dX5_bestFor_39 (by decide) ?_
            refine va_iald hx hb hK hP 1 0 rfl rfl (k_in (by decide)) dX5_bestFor_41 ?_
            refine lv_iconst (v := 1) hx hb dX5_bestFor_42 (by decide) ?_
            refine lv_iload_n hx hb dX5_bestFor_43 rfl (lv_at hl 4 rfl) ?_
            have hPs := k_self hP
            have hDs := k_selfD hD
            refine k_behi (X := []) (Y := []) (va_runV (As := [.int c4, .int x1, .int (sv (31 : Int32).toNatClampNeg), .int 1, .int x2]) (rest := []) ⟨hx, hb, hml, hown, hts⟩ (c_X5_lastsFor l D cI cC cQ H.size h0 a sv pa pn sn kp pd ln so po wr lt fr sc tm l_hd l_st c4 x1 (sv (31 : Int32).toNatClampNeg) 1 x2 ((vp_of_le (n := 4) hk c9 (by decide))) (hiv)) (kcwV hts wd_ml_RX5_159 wd_im_yX5_lastsFor wd_sel_yX5_lastsFor wd_ini_RX5 wd_code_yX5_lastsFor rfl rfl rfl hd_X5_lastsFor ⟨Nat.le_of_ble_eq_true rfl, Nat.le_of_ble_eq_true rfl⟩) ⟨in_blind, va_recv hK (pa_l (pa_r hPs)) (ci := 5) (q0 := 0) rfl rfl, k_pre hK (pa_l (pa_r hPs)) (da_l (da_r hDs)) hN⟩ rfl rfl hl.1 rfl (lv_room (Nat.le_of_ble_eq_true rfl)) dX5_bestFor_44 ⟨Nat.le_of_ble_eq_true rfl, Nat.le_of_ble_eq_true rfl⟩) hPs hDs hS hA (fun r10 u11 H locs hw12 hP hD hS => ?_)
            obtain ⟨v13, v14⟩ := u11
            have hP := k_unP hP
            have hD := k_unD hD
            have hP : va_P D vwCl (MO cI h0 a sv pa pn sn kp pd ln so po wr lt fr sc tm v13 v14) H := hP
            have hD : va_D A (MO cI h0 a sv pa pn sn kp pd ln so po wr lt fr sc tm v13 v14) := hD
            have hw12 : (r10, v13, v14) = (sh_X5_lastsFor sv c4 x1 (sv (31 : Int32).toNatClampNeg) 1 x2) := hw12
            have hq := kb_to hq hw12
            refine lv_iload_n hx hb dX5_bestFor_47 rfl (lv_at hl 4 rfl) ?_
            have K : ∀ (v17 : Int32) (H : Heap) (locs : List Loc) (ls : Array Slot), v17 = (if r10 = x2 then 1 else 0) → va_P D vwCl (MO cI h0 a sv pa pn sn kp pd ln so po wr lt fr sc tm v13 v14) H → va_D A (MO cI h0 a sv pa pn sn kp pd ln so po wr lt fr sc tm v13 v14) → va_S A s.heap H locs → lv_has ls 6 [(0, .ref h0), (1, .int x1), (2, .int x2), (3, .int b3), (4, .int c4)] → W p l e rm_X5_bestFor s m args below meth c H locs 0 0 Q (F0 m 56 ls [.int v17]) := by
              intro v17 H locs ls hv16 hP hD hS hl
              have hq := kb_to hq hv16
              refine lv_istore (lv' := [(5, .int v17), (0, .ref h0), (1, .int x1), (2, .int x2), (3, .int b3), (4, .int c4)]) hx hb dX5_bestFor_56 hl (by decide) rfl (fun ls hl => ?_)
              refine lv_iload hx hb dX5_bestFor_58 (lv_at hl 0 rfl) ?_
              have K : ∀ (v28 : Int32) (H : Heap) (locs : List Loc) (ls : Array Slot), v28 = (if v17 = 0 then b3 else (if b3 = (-4) then c4 else (if (sh_X5_tonerOf sv b3) ≤ (sh_X5_tonerOf sv c4) then b3 else c4))) → va_P D vwCl (MO cI h0 a sv pa pn sn kp pd ln so po wr lt fr sc tm v13 v14) H → va_D A (MO cI h0 a sv pa pn sn kp pd ln so po wr lt fr sc tm v13 v14) → va_S A s.heap H locs → lv_has ls 6 [(0, .ref h0), (1, .int x1), (2, .int x2), (3, .int b3), (4, .int c4), (5, .int v17)] → W p l e rm_X5_bestFor s m args below meth c H locs 0 0 Q (F0 m 89 ls [.int v28]) := by
                intro v28 H locs ls hv27 hP hD hS hl
                have hq := kb_to hq hv27
                refine lv_istore_n (lv' := [(3, .int v28), (0, .ref h0), (1, .int x1), (2, .int x2), (4, .int c4), (5, .int v17)]) hx hb dX5_bestFor_89 rfl hl (by decide) rfl (fun ls hl => ?_)
                refine lv_iinc (v := (c4 + 1)) (lv' := [(4, .int (c4 + 1)), (3, .int v28), (0, .ref h0), (1, .int x1), (2, .int x2), (5, .int v17)]) hx hb dX5_bestFor_90 hl (k := 4) rfl rfl (by decide) rfl (fun ls hl => ?_)
                refine lv_goto (tgt := 25) hx hb dX5_bestFor_93 (by decide) ?_
                exact ih ((c4 + 1)) (v28) (v13) (v14) _ _ _ (k_mu hmu c9) (k_up hk c9 (by decide)) (by rw [hv27]; (repeat' split) <;> first | exact hbest | exact Or.inr (vp_of_le (n := 4) hk c9 (by decide))) hq hP hD hS (lv_sub hl [0, 1, 2, 3, 4] rfl)
              refine lv_if_eq (tgt := 88) hx hb dX5_bestFor_60 (by decide) (fun c18 => ?_) (fun c18 => ?_)
              · skip
                refine lv_iload_n hx hb dX5_bestFor_88 rfl (lv_at hl 4 rfl) ?_
                exact K (b3) _ _ _ (by rw [if_pos c18]) hP hD hS (lv_sub hl [1, 2, 3, 4, 5, 0] rfl)
              · skip
                refine lv_iload_n hx hb dX5_bestFor_63 rfl (lv_at hl 4 rfl) ?_
                refine lv_bipush (v := (-4)) hx hb dX5_bestFor_64 (by decide) ?_
                refine lv_icmp_eq (tgt := 83) hx hb dX5_bestFor_66 (by decide) (fun c19 => ?_) (fun c19 => ?_)
                · skip
                  refine lv_iload hx hb dX5_bestFor_83 (lv_at hl 5 rfl) ?_
                  refine lv_goto (tgt := 89) hx hb dX5_bestFor_85 (by decide) ?_
                  exact K (c4) _ _ _ (by rw [if_neg c18, if_pos c19]) hP hD hS (lv_sub hl [1, 2, 3, 4, 5, 0] rfl)
                · skip
                  refine lv_aload_n hx hb dX5_bestFor_69 rfl (lv_at hl 1 rfl) ?_
                  refine lv_iload hx hb dX5_bestFor_70 (lv_at hl 5 rfl) ?_
                  have hPs := k_self hP
                  have hDs := k_selfD hD
                  refine k_behi (X := []) (Y := []) (va_runV (As := [.int c4]) (rest := []) ⟨hx, hb, hml, hown, hts⟩ (c_X5_tonerOf l D cI cC cQ H.size h0 a sv pa pn sn kp pd ln so po wr lt fr sc tm v13 v14 c4 ((vp_of_le (n := 4) hk c9 (by decide)))) (kcwV hts wd_ml_RX5_37 wd_im_yX5_tonerOf wd_sel_yX5_tonerOf wd_ini_RX5 wd_code_yX5_tonerOf rfl rfl rfl hd_X5_tonerOf ⟨Nat.le_of_ble_eq_true rfl, Nat.le_of_ble_eq_true rfl⟩) ⟨in_blind, va_recv hK (pa_l (pa_r hPs)) (ci := 5) (q0 := 0) rfl rfl, k_pre hK (pa_l (pa_r hPs)) (da_l (da_r hDs)) hN⟩ rfl rfl hl.1 rfl (lv_room (Nat.le_of_ble_eq_true rfl)) dX5_bestFor_72 ⟨Nat.le_of_ble_eq_true rfl, Nat.le_of_ble_eq_true rfl⟩) hPs hDs hS hA (fun r20 u21 H locs hw22 hP hD hS => ?_)
                  have hP := k_unP hP
                  have hD := k_unD hD
                  have hP : va_P D vwCl (MO cI h0 a sv pa pn sn kp pd ln so po wr lt fr sc tm v13 v14) H := hP
                  have hD : va_D A (MO cI h0 a sv pa pn sn kp pd ln so po wr lt fr sc tm v13 v14) := hD
                  have hw22 : r20 = (sh_X5_tonerOf sv c4) := hw22
                  subst hw22
                  refine lv_aload_n hx hb dX5_bestFor_75 rfl (lv_at hl 1 rfl) ?_
                  refine lv_iload_n hx hb dX5_bestFor_76 rfl (lv_at hl 4 rfl) ?_
                  have hPs := k_self hP
                  have hDs := k_selfD hD
                  refine k_behi (X := []) (Y := []) (va_runV (As := [.int b3]) (rest := [.int (sh_X5_tonerOf sv c4)]) ⟨hx, hb, hml, hown, hts⟩ (c_X5_tonerOf l D cI cC cQ H.size h0 a sv pa pn sn kp pd ln so po wr lt fr sc tm v13 v14 b3 ((hbest.resolve_left c19))) (kcwV hts wd_ml_RX5_37 wd_im_yX5_tonerOf wd_sel_yX5_tonerOf wd_ini_RX5 wd_code_yX5_tonerOf rfl rfl rfl hd_X5_tonerOf ⟨Nat.le_of_ble_eq_true rfl, Nat.le_of_ble_eq_true rfl⟩) ⟨in_blind, va_recv hK (pa_l (pa_r hPs)) (ci := 5) (q0 := 0) rfl rfl, k_pre hK (pa_l (pa_r hPs)) (da_l (da_r hDs)) hN⟩ rfl rfl hl.1 rfl (lv_room (Nat.le_of_ble_eq_true rfl)) dX5_bestFor_77 ⟨Nat.le_of_ble_eq_true rfl, Nat.le_of_ble_eq_true rfl⟩) hPs hDs hS hA (fun r23 u24 H locs hw25 hP hD hS => ?_)
                  have hP := k_unP hP
                  have hD := k_unD hD
                  have hP : va_P D vwCl (MO cI h0 a sv pa pn sn kp pd ln so po wr lt fr sc tm v13 v14) H := hP
                  have hD : va_D A (MO cI h0 a sv pa pn sn kp pd ln so po wr lt fr sc tm v13 v14) := hD
                  have hw25 : r23 = (sh_X5_tonerOf sv b3) := hw25
                  subst hw25
                  refine lv_icmp_ge (tgt := 88) hx hb dX5_bestFor_80 (by decide) (fun c26 => ?_) (fun c26 => ?_)
                  · skip
                    refine lv_iload_n hx hb dX5_bestFor_88 rfl (lv_at hl 4 rfl) ?_
                    exact K (b3) _ _ _ (by rw [if_neg c18, if_neg c19, if_pos c26]) hP hD hS (lv_sub hl [1, 2, 3, 4, 5, 0] rfl)
                  · skip
                    refine lv_iload hx hb dX5_bestFor_83 (lv_at hl 5 rfl) ?_
                    refine lv_goto (tgt := 89) hx hb dX5_bestFor_85 (by decide) ?_
                    exact K (c4) _ _ _ (by rw [if_neg c18, if_neg c19, if_neg c26]) hP hD hS (lv_sub hl [1, 2, 3, 4, 5, 0] rfl)
            refine lv_icmp_ne (tgt := 55) hx hb dX5_bestFor_48 (by decide) (fun c15 => ?_) (fun c15 => ?_)
            · skip
              refine lv_iconst (v := 0) hx hb dX5_bestFor_55 (by decide) ?_
              exact K (0) _ _ _ (by rw [if_neg c15]) hP hD hS (lv_sub hl [2, 3, 4, 1, 0] rfl)
            · skip
              refine lv_iconst (v := 1) hx hb dX5_bestFor_51 (by decide) ?_
              refine lv_goto (tgt := 56) hx hb dX5_bestFor_52 (by decide) ?_
              exact K (1) _ _ _ (by rw [if_pos c15]) hP hD hS (lv_sub hl [2, 3, 4, 1, 0] rfl)
      exact L25 (((4 : Int32).toInt - (0 : Int32).toInt).toNat + 1) (0) ((-4)) (hd) (st) _ _ _ (Nat.lt_succ_self _) (by decide) (Or.inl rfl) hq hP hD hS (lv_sub hl [0, 1, 2, 3, 4] rfl)
    · have hq := it_pos hq c8
      refine lv_iconst (v := (-1)) hx hb dX5_bestFor_17 (by decide) ?_
      exact hret _ _ _ _ ((-1)) (hd, st) dX5_bestFor_18 rfl (hq.symm.trans hX) hP hD hS
