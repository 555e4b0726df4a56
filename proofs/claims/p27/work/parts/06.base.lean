def kb {α β : Type} (x : α) (f : α → β) : β := f x
theorem kb_to {α β : Type} {X : β} {x y : α} {f : α → β} (h : X = kb x f) (e : y = x) : X = f y := by rw [h, e]; rfl
theorem it_pos {α : Type} {X : α} {c : Prop} {inst : Decidable c} {a b : α} (h : X = if c then a else b) (hc : c) : X = a := h.trans (if_pos hc)
theorem it_neg {α : Type} {X : α} {c : Prop} {inst : Decidable c} {a b : α} (h : X = if c then a else b) (hc : ¬ c) : X = b := h.trans (if_neg hc)
theorem k_in {i : Int32} {n : Nat} (h : ¬ (i < 0 ∨ n ≤ i.toNatClampNeg)) : vp_in i n := h
theorem vp_mono {x : Int32} {n N : Nat} (h : vp_in x n) (h1 : n ≤ N) (h2 : N < 2 ^ 31) : vp_in x N := by
  rw [vp_in_iff] at h ⊢
  omega
theorem vp_add {x k : Int32} {n N : Nat} (h : vp_in x n) (h0 : 0 ≤ k.toInt) (h1 : k.toInt + n ≤ N) (h2 : N < 2 ^ 31) : vp_in (k + x) N := by
  rw [vp_in_iff] at h ⊢
  have e : (k + x).toInt = k.toInt + x.toInt := by
    rw [Int32.toInt_add]
    exact Int.bmod_eq_of_le (by omega) (by omega)
  omega
theorem vp_of_le {x : Int32} {n : Nat} {N : Int32} (h0 : ¬ x < 0) (h1 : ¬ N ≤ x) (hN : N.toInt = n) : vp_in x n := by
  rw [vp_in_iff]
  rw [Int32.lt_iff_toInt_lt] at h0
  rw [Int32.le_iff_toInt_le] at h1
  have : (0 : Int32).toInt = 0 := rfl
  omega
theorem k_ne {x k : Int32} (h : ¬ x = k) : ¬ x.toInt = k.toInt := fun e => h (Int32.toInt_inj.mp e)
theorem k_out4 {x : Int32} (h0 : ¬ x = 0) (h1 : ¬ x = 1) (h2 : ¬ x = 2) (h3 : ¬ x = 3) : x.toInt < 0 ∨ 3 < x.toInt := by
  have := k_ne h0; have := k_ne h1; have := k_ne h2; have := k_ne h3
  simp only [show (0 : Int32).toInt = 0 from rfl, show (1 : Int32).toInt = 1 from rfl, show (2 : Int32).toInt = 2 from rfl, show (3 : Int32).toInt = 3 from rfl] at *
  omega
theorem k_out6 {x : Int32} (h0 : ¬ x = 0) (h1 : ¬ x = 1) (h2 : ¬ x = 2) (h3 : ¬ x = 3) (h4 : ¬ x = 4) (h5 : ¬ x = 5) : x.toInt < 0 ∨ 5 < x.toInt := by
  have := k_out4 h0 h1 h2 h3; have := k_ne h4; have := k_ne h5
  simp only [show (4 : Int32).toInt = 4 from rfl, show (5 : Int32).toInt = 5 from rfl] at *
  omega
theorem k_out8 {x : Int32} (h0 : ¬ x = 0) (h1 : ¬ x = 1) (h2 : ¬ x = 2) (h3 : ¬ x = 3) (h4 : ¬ x = 4) (h5 : ¬ x = 5) (h6 : ¬ x = 6) (h7 : ¬ x = 7) : x.toInt < 0 ∨ 7 < x.toInt := by
  have := k_out6 h0 h1 h2 h3 h4 h5; have := k_ne h6; have := k_ne h7
  simp only [show (6 : Int32).toInt = 6 from rfl, show (7 : Int32).toInt = 7 from rfl] at *
  omega
theorem k_out14 {x : Int32} (h0 : ¬ x = 0) (h1 : ¬ x = 1) (h2 : ¬ x = 2) (h3 : ¬ x = 3) (h4 : ¬ x = 4) (h5 : ¬ x = 5) (h6 : ¬ x = 6) (h7 : ¬ x = 7) (h8 : ¬ x = 8) (h9 : ¬ x = 9) (h10 : ¬ x = 10) (h11 : ¬ x = 11) (h12 : ¬ x = 12) (h13 : ¬ x = 13) : x.toInt < 0 ∨ 13 < x.toInt := by
  have := k_out8 h0 h1 h2 h3 h4 h5 h6 h7; have := k_ne h8; have := k_ne h9; have := k_ne h10; have := k_ne h11; have := k_ne h12; have := k_ne h13
  simp only [show (8 : Int32).toInt = 8 from rfl, show (9 : Int32).toInt = 9 from rfl, show (10 : Int32).toInt = 10 from rfl, show (11 : Int32).toInt = 11 from rfl, show (12 : Int32).toInt = 12 from rfl, show (13 : Int32).toInt = 13 from rfl] at *
  omega
theorem k_lk2 {x : Int32} {o1 o2 dflt : Int} (h1 : ¬ x = 1) (h2 : ¬ x = 2) : Op.lookupswitch.offset [(1, o1), (2, o2)] dflt x.toInt = dflt := by
  have := k_ne h1; have := k_ne h2
  simp only [show (1 : Int32).toInt = 1 from rfl, show (2 : Int32).toInt = 2 from rfl] at *
  simp [Op.lookupswitch.offset, *]
  try omega
/-- the cells of a Machine -/
abbrev MW (cI : ClassId) (h0 : Nat) (a : Nat → Nat) (se ki ha sl ch ci dk li re dt la : Nat → Int32) (us sp rf : Int32) : va_W := [(h0, .inr (1, [.ref (a 0), .ref (a 1), .ref (a 2), .ref (a 3), .ref (a 4), .ref (a 5), .ref (a 6), .ref (a 7), .ref (a 8), .ref (a 9), .ref (a 10), .int us, .int sp, .int rf])), (a 0, .inl (cI, 4, .inl se)), (a 1, .inl (cI, 4, .inl ki)), (a 2, .inl (cI, 4, .inl ha)), (a 3, .inl (cI, 4, .inl sl)), (a 4, .inl (cI, 4, .inl ch)), (a 5, .inl (cI, 2, .inl ci)), (a 6, .inl (cI, 2, .inl dk)), (a 7, .inl (cI, 2, .inl li)), (a 8, .inl (cI, 2, .inl re)), (a 9, .inl (cI, 2, .inl dt)), (a 10, .inl (cI, 2, .inl la))]

def sh_X4_isCup (x1 : Int32) : Int32 := (if x1 < 0 then (0 : Int32) else (if 4 ≤ x1 then (0 : Int32) else (1 : Int32)))
abbrev rm_X4_isCup : Room := { frames := 0, cells := 0, slots := 0, locals := 0 }
theorem hd_X4_isCup : hdT yX4_isCup 1 := by decide +kernel
set_option maxHeartbeats 40000000 in
set_option maxRecDepth 100000 in
theorem c_X4_isCup (l : Launch) (D : va_G) (cI cC cQ : ClassId) (sz : Nat)  (x1 : Int32)  : Met l yX4_isCup (wsO yX4_isCup cX4_isCup 1 (some .boolean)) rm_X4_isCup (va_Pc [.int x1] (inW D (TYS cI cC cQ) [] sz)) (va_Qi (fun (r : Int32) (_ : Unit) => r = sh_X4_isCup x1) (fun (u : Unit) => atW D (TYS cI cC cQ) (va_A [] sz) []) (va_A [] sz)) 0 0 (va_A [] sz) := by
  refine k_meti .boolean rfl (by decide) (Nat.le_of_ble_eq_true rfl) ?_
  intro p e s m args below meth c A ls Q H locs hargs hret hx hb hts hown hml hname hN hA hS hP hK hD hl
  have hl : lv_has ls 1 [(0, .int x1)] := hl
  obtain ⟨Xq, hX⟩ : ∃ Xq, Xq = sh_X4_isCup x1 := ⟨_, rfl⟩
  have hq : Xq = (if x1 < 0 then (0 : Int32) else (if 4 ≤ x1 then (0 : Int32) else (1 : Int32))) := hX
  refine lv_iload_n hx hb dX4_isCup_0 rfl (lv_at hl 0 rfl) ?_
  refine lv_if_lt (tgt := 13) hx hb dX4_isCup_1 (by decide) (fun c1 => ?_) (fun c1 => ?_)
  · have hq := it_pos hq c1
    refine lv_iconst (v := 0) hx hb dX4_isCup_13 (by decide) ?_
    exact hret _ _ _ _ (0) () dX4_isCup_14 rfl (hq.symm.trans hX) hP hD hS
  · have hq := it_neg hq c1
    refine lv_iload_n hx hb dX4_isCup_4 rfl (lv_at hl 0 rfl) ?_
    refine lv_iconst (v := 4) hx hb dX4_isCup_5 (by decide) ?_
    refine lv_icmp_ge (tgt := 13) hx hb dX4_isCup_6 (by decide) (fun c2 => ?_) (fun c2 => ?_)
    · have hq := it_pos hq c2
      refine lv_iconst (v := 0) hx hb dX4_isCup_13 (by decide) ?_
      exact hret _ _ _ _ (0) () dX4_isCup_14 rfl (hq.symm.trans hX) hP hD hS
    · have hq := it_neg hq c2
      refine lv_iconst (v := 1) hx hb dX4_isCup_9 (by decide) ?_
      refine lv_goto (tgt := 14) hx hb dX4_isCup_10 (by decide) ?_
      exact hret _ _ _ _ (1) () dX4_isCup_14 rfl (hq.symm.trans hX) hP hD hS
def sh_X4_isPrinter (x1 : Int32) : Int32 := (if x1 < 0 then (0 : Int32) else (if 2 ≤ x1 then (0 : Int32) else (1 : Int32)))
abbrev rm_X4_isPrinter : Room := { frames := 0, cells := 0, slots := 0, locals := 0 }
theorem hd_X4_isPrinter : hdT yX4_isPrinter 1 := by decide +kernel
set_option maxHeartbeats 40000000 in
set_option maxRecDepth 100000 in
theorem c_X4_isPrinter (l : Launch) (D : va_G) (cI cC cQ : ClassId) (sz : Nat)  (x1 : Int32)  : Met l yX4_isPrinter (wsO yX4_isPrinter cX4_isPrinter 1 (some .boolean)) rm_X4_isPrinter (va_Pc [.int x1] (inW D (TYS cI cC cQ) [] sz)) (va_Qi (fun (r : Int32) (_ : Unit) => r = sh_X4_isPrinter x1) (fun (u : Unit) => atW D (TYS cI cC cQ) (va_A [] sz) []) (va_A [] sz)) 0 0 (va_A [] sz) := by
  refine k_meti .boolean rfl (by decide) (Nat.le_of_ble_eq_true rfl) ?_
  intro p e s m args below meth c A ls Q H locs hargs hret hx hb hts hown hml hname hN hA hS hP hK hD hl
  have hl : lv_has ls 1 [(0, .int x1)] := hl
  obtain ⟨Xq, hX⟩ : ∃ Xq, Xq = sh_X4_isPrinter x1 := ⟨_, rfl⟩
  have hq : Xq = (if x1 < 0 then (0 : Int32) else (if 2 ≤ x1 then (0 : Int32) else (1 : Int32))) := hX
  refine lv_iload_n hx hb dX4_isPrinter_0 rfl (lv_at hl 0 rfl) ?_
  refine lv_if_lt (tgt := 13) hx hb dX4_isPrinter_1 (by decide) (fun c1 => ?_) (fun c1 => ?_)
  · have hq := it_pos hq c1
    refine lv_iconst (v := 0) hx hb dX4_isPrinter_13 (by decide) ?_
    exact hret _ _ _ _ (0) () dX4_isPrinter_14 rfl (hq.symm.trans hX) hP hD hS
  · have hq := it_neg hq c1
    refine lv_iload_n hx hb dX4_isPrinter_4 rfl (lv_at hl 0 rfl) ?_
    refine lv_iconst (v := 2) hx hb dX4_isPrinter_5 (by decide) ?_
    refine lv_icmp_ge (tgt := 13) hx hb dX4_isPrinter_6 (by decide) (fun c2 => ?_) (fun c2 => ?_)
    · have hq := it_pos hq c2
      refine lv_iconst (v := 0) hx hb dX4_isPrinter_13 (by decide) ?_
      exact hret _ _ _ _ (0) () dX4_isPrinter_14 rfl (hq.symm.trans hX) hP hD hS
    · have hq := it_neg hq c2
      refine lv_iconst (v := 1) hx hb dX4_isPrinter_9 (by decide) ?_
      refine lv_goto (tgt := 14) hx hb dX4_isPrinter_10 (by decide) ?_
      exact hret _ _ _ _ (1) () dX4_isPrinter_14 rfl (hq.symm.trans hX) hP hD hS
def sh_X4_isDots (x1 : Int32) : Int32 := (if x1 < 1 then (0 : Int32) else (if 999 < x1 then (0 : Int32) else (1 : Int32)))
abbrev rm_X4_isDots : Room := { frames := 0, cells := 0, slots := 0, locals := 0 }
theorem hd_X4_isDots : hdT yX4_isDots 1 := by decide +kernel
set_option maxHeartbeats 40000000 in
set_option maxRecDepth 100000 in
theorem c_X4_isDots (l : Launch) (D : va_G) (cI cC cQ : ClassId) (sz : Nat)  (x1 : Int32)  : Met l yX4_isDots (wsO yX4_isDots cX4_isDots 1 (some .boolean)) rm_X4_isDots (va_Pc [.int x1] (inW D (TYS cI cC cQ) [] sz)) (va_Qi (fun (r : Int32) (_ : Unit) => r = sh_X4_isDots x1) (fun (u : Unit) => atW D (TYS cI cC cQ) (va_A [] sz) []) (va_A [] sz)) 0 0 (va_A [] sz) := by
  refine k_meti .boolean rfl (by decide) (Nat.le_of_ble_eq_true rfl) ?_
  intro p e s m args below meth c A ls Q H locs hargs hret hx hb hts hown hml hname hN hA hS hP hK hD hl
  have hl : lv_has ls 1 [(0, .int x1)] := hl
  obtain ⟨Xq, hX⟩ : ∃ Xq, Xq = sh_X4_isDots x1 := ⟨_, rfl⟩
  have hq : Xq = (if x1 < 1 then (0 : Int32) else (if 999 < x1 then (0 : Int32) else (1 : Int32))) := hX
  refine lv_iload_n hx hb dX4_isDots_0 rfl (lv_at hl 0 rfl) ?_
  refine lv_iconst (v := 1) hx hb dX4_isDots_1 (by decide) ?_
  refine lv_icmp_lt (tgt := 16) hx hb dX4_isDots_2 (by decide) (fun c1 => ?_) (fun c1 => ?_)
  · have hq := it_pos hq c1
    refine lv_iconst (v := 0) hx hb dX4_isDots_16 (by decide) ?_
    exact hret _ _ _ _ (0) () dX4_isDots_17 rfl (hq.symm.trans hX) hP hD hS
  · have hq := it_neg hq c1
    refine lv_iload_n hx hb dX4_isDots_5 rfl (lv_at hl 0 rfl) ?_
    refine lv_sipush (v := 999) hx hb dX4_isDots_6 (by decide) ?_
    refine lv_icmp_gt (tgt := 16) hx hb dX4_isDots_9 (by decide) (fun c2 => ?_) (fun c2 => ?_)
    · have hq := it_pos hq c2
      refine lv_iconst (v := 0) hx hb dX4_isDots_16 (by decide) ?_
      exact hret _ _ _ _ (0) () dX4_isDots_17 rfl (hq.symm.trans hX) hP hD hS
    · have hq := it_neg hq c2
      refine lv_iconst (v := 1) hx hb dX4_isDots_12 (by decide) ?_
      refine lv_goto (tgt := 17) hx hb dX4_isDots_13 (by decide) ?_
      exact hret _ _ _ _ (1) () dX4_isDots_17 rfl (hq.symm.trans hX) hP hD hS
def sh_X4_isJobLength (x1 : Int32) : Int32 := (if x1 < 1 then (0 : Int32) else (if 50 < x1 then (0 : Int32) else (1 : Int32)))
abbrev rm_X4_isJobLength : Room := { frames := 0, cells := 0, slots := 0, locals := 0 }
theorem hd_X4_isJobLength : hdT yX4_isJobLength 1 := by decide +kernel
set_option maxHeartbeats 40000000 in
set_option maxRecDepth 100000 in
theorem c_X4_isJobLength (l : Launch) (D : va_G) (cI cC cQ : ClassId) (sz : Nat)  (x1 : Int32)  : Met l yX4_isJobLength (wsO yX4_isJobLength cX4_isJobLength 1 (some .boolean)) rm_X4_isJobLength (va_Pc [.int x1] (inW D (TYS cI cC cQ) [] sz)) (va_Qi (fun (r : Int32) (_ : Unit) => r = sh_X4_isJobLength x1) (fun (u : Unit) => atW D (TYS cI cC cQ) (va_A [] sz) []) (va_A [] sz)) 0 0 (va_A [] sz) := by
  refine k_meti .boolean rfl (by decide) (Nat.le_of_ble_eq_true rfl) ?_
  intro p e s m args below meth c A ls Q H locs hargs hret hx hb hts hown hml hname hN hA hS hP hK hD hl
  have hl : lv_has ls 1 [(0, .int x1)] := hl
  obtain ⟨Xq, hX⟩ : ∃ Xq, Xq = sh_X4_isJobLength x1 := ⟨_, rfl⟩
  have hq : Xq = (if x1 < 1 then (0 : Int32) else (if 50 < x1 then (0 : Int32) else (1 : Int32))) := hX
  refine lv_iload_n hx hb dX4_isJobLength_0 rfl (lv_at hl 0 rfl) ?_
  refine lv_iconst (v := 1) hx hb dX4_isJobLength_1 (by decide) ?_
  refine lv_icmp_lt (tgt := 15) hx hb dX4_isJobLength_2 (by decide) (fun c1 => ?_) (fun c1 => ?_)
  · have hq := it_pos hq c1
    refine lv_iconst (v := 0) hx hb dX4_isJobLength_15 (by decide) ?_
    exact hret _ _ _ _ (0) () dX4_isJobLength_16 rfl (hq.symm.trans hX) hP hD hS
  · have hq := it_neg hq c1
    refine lv_iload_n hx hb dX4_isJobLength_5 rfl (lv_at hl 0 rfl) ?_
    refine lv_bipush (v := 50) hx hb dX4_isJobLength_6 (by decide) ?_
    refine lv_icmp_gt (tgt := 15) hx hb dX4_isJobLength_8 (by decide) (fun c2 => ?_) (fun c2 => ?_)
    · have hq := it_pos hq c2
      refine lv_iconst (v := 0) hx hb dX4_isJobLength_15 (by decide) ?_
      exact hret _ _ _ _ (0) () dX4_isJobLength_16 rfl (hq.symm.trans hX) hP hD hS
    · have hq := it_neg hq c2
      refine lv_iconst (v := 1) hx hb dX4_isJobLength_11 (by decide) ?_
      refine lv_goto (tgt := 16) hx hb dX4_isJobLength_12 (by decide) ?_
      exact hret _ _ _ _ (1) () dX4_isJobLength_16 rfl (hq.symm.trans hX) hP hD hS
def sh_X1_wouldBeDark (x1 : Int32) (x2 : Int32) : Int32 := (if x1 ≤ 0 then (0 : Int32) else (if x1 < x2 then (0 : Int32) else (1 : Int32)))
abbrev rm_X1_wouldBeDark : Room := { frames := 0, cells := 0, slots := 0, locals := 0 }
theorem hd_X1_wouldBeDark : hdT yX1_wouldBeDark 2 := by decide +kernel
set_option maxHeartbeats 40000000 in
set_option maxRecDepth 100000 in
theorem c_X1_wouldBeDark (l : Launch) (D : va_G) (cI cC cQ : ClassId) (sz : Nat)  (x1 : Int32) (x2 : Int32)  : Met l yX1_wouldBeDark (wsO yX1_wouldBeDark cX1_wouldBeDark 2 (some .boolean)) rm_X1_wouldBeDark (va_Pc [.int x1, .int x2] (inW D (TYS cI cC cQ) [] sz)) (va_Qi (fun (r : Int32) (_ : Unit) => r = sh_X1_wouldBeDark x1 x2) (fun (u : Unit) => atW D (TYS cI cC cQ) (va_A [] sz) []) (va_A [] sz)) 0 0 (va_A [] sz) := by
  refine k_meti .boolean rfl (by decide) (Nat.le_of_ble_eq_true rfl) ?_
  intro p e s m args below meth c A ls Q H locs hargs hret hx hb hts hown hml hname hN hA hS hP hK hD hl
  have hl : lv_has ls 2 [(0, .int x1), (1, .int x2)] := hl
  obtain ⟨Xq, hX⟩ : ∃ Xq, Xq = sh_X1_wouldBeDark x1 x2 := ⟨_, rfl⟩
  have hq : Xq = (if x1 ≤ 0 then (0 : Int32) else (if x1 < x2 then (0 : Int32) else (1 : Int32))) := hX
  refine lv_iload_n hx hb dX1_wouldBeDark_0 rfl (lv_at hl 0 rfl) ?_
  refine lv_if_le (tgt := 13) hx hb dX1_wouldBeDark_1 (by decide) (fun c1 => ?_) (fun c1 => ?_)
  · have hq := it_pos hq c1
    refine lv_iconst (v := 0) hx hb dX1_wouldBeDark_13 (by decide) ?_
    exact hret _ _ _ _ (0) () dX1_wouldBeDark_14 rfl (hq.symm.trans hX) hP hD hS
  · have hq := it_neg hq c1
    refine lv_iload_n hx hb dX1_wouldBeDark_4 rfl (lv_at hl 0 rfl) ?_
    refine lv_iload_n hx hb dX1_wouldBeDark_5 rfl (lv_at hl 1 rfl) ?_
    refine lv_icmp_lt (tgt := 13) hx hb dX1_wouldBeDark_6 (by decide) (fun c2 => ?_) (fun c2 => ?_)
    · have hq := it_pos hq c2
      refine lv_iconst (v := 0) hx hb dX1_wouldBeDark_13 (by decide) ?_
      exact hret _ _ _ _ (0) () dX1_wouldBeDark_14 rfl (hq.symm.trans hX) hP hD hS
    · have hq := it_neg hq c2
      refine lv_iconst (v := 1) hx hb dX1_wouldBeDark_9 (by decide) ?_
      refine lv_goto (tgt := 14) hx hb dX1_wouldBeDark_10 (by decide) ?_
      exact hret _ _ _ _ (1) () dX1_wouldBeDark_14 rfl (hq.symm.trans hX) hP hD hS
theorem isIn4 {x : Int32} (h : ¬ sh_X4_isCup x = 0) : vp_in x 4 := by
  unfold sh_X4_isCup at h
  split at h
  · exact absurd rfl h
  · split at h
    · exact absurd rfl h
    · exact vp_of_le (N := 4) (by assumption) (by assumption) rfl
theorem isIn2 {x : Int32} (h : ¬ sh_X4_isPrinter x = 0) : vp_in x 2 := by
  unfold sh_X4_isPrinter at h
  split at h
  · exact absurd rfl h
  · split at h
    · exact absurd rfl h
    · exact vp_of_le (N := 2) (by assumption) (by assumption) rfl
theorem k_pos {x : Int32} (h : ¬ x ≤ 0) : ¬ x = 0 := fun e => h (by rw [e]; decide)
def sh_X4_share (x1 : Int32) (x2 : Int32) : Int32 := (if x2 ≤ 0 then (0 : Int32) else (x1 / x2))
abbrev rm_X4_share : Room := { frames := 0, cells := 0, slots := 0, locals := 0 }
theorem hd_X4_share : hdT yX4_share 2 := by decide +kernel
set_option maxHeartbeats 40000000 in
set_option maxRecDepth 100000 in
theorem c_X4_share (l : Launch) (D : va_G) (cI cC cQ : ClassId) (sz : Nat)  (x1 : Int32) (x2 : Int32)  : Met l yX4_share (wsO yX4_share cX4_share 2 (some .int)) rm_X4_share (va_Pc [.int x1, .int x2] (inW D (TYS cI cC cQ) [] sz)) (va_Qi (fun (r : Int32) (_ : Unit) => r = sh_X4_share x1 x2) (fun (u : Unit) => atW D (TYS cI cC cQ) (va_A [] sz) []) (va_A [] sz)) 0 0 (va_A [] sz) := by
  refine k_meti .int rfl (by decide) (Nat.le_of_ble_eq_true rfl) ?_
  intro p e s m args below meth c A ls Q H locs hargs hret hx hb hts hown hml hname hN hA hS hP hK hD hl
  have hl : lv_has ls 2 [(0, .int x1), (1, .int x2)] := hl
  obtain ⟨Xq, hX⟩ : ∃ Xq, Xq = sh_X4_share x1 x2 := ⟨_, rfl⟩
  have hq : Xq = (if x2 ≤ 0 then (0 : Int32) else (x1 / x2)) := hX
  refine lv_iload_n hx hb dX4_share_0 rfl (lv_at hl 1 rfl) ?_
  refine lv_if_le (tgt := 10) hx hb dX4_share_1 (by decide) (fun c1 => ?_) (fun c1 => ?_)
  · have hq := it_pos hq c1
    refine lv_iconst (v := 0) hx hb dX4_share_10 (by decide) ?_
    exact hret _ _ _ _ (0) () dX4_share_11 rfl (hq.symm.trans hX) hP hD hS
  · have hq := it_neg hq c1
    refine lv_iload_n hx hb dX4_share_4 rfl (lv_at hl 0 rfl) ?_
    refine lv_iload_n hx hb dX4_share_5 rfl (lv_at hl 1 rfl) ?_
    refine lv_idiv hx hb dX4_share_6 (k_pos c1) ?_
    refine lv_goto (tgt := 11) hx hb dX4_share_7 (by decide) ?_
    exact hret _ _ _ _ ((x1 / x2)) () dX4_share_11 rfl (hq.symm.trans hX) hP hD hS
