/-- the cells of the reference -/
abbrev MO (cI : ClassId) (h0 : Nat) (a : Nat → Nat) (sv pa : Nat → Int32) (pn : Int32) (sn : Nat → Int32) (kp : Int32) (pd : Nat → Int32) (ln : Int32) (so : Nat → Int32) (po wr lt fr sc tm hd st : Int32) : va_W := [(h0, .inr (5, [.ref (a 0), .ref (a 1), .int pn, .ref (a 2), .int kp, .ref (a 3), .int ln, .ref (a 4), .int po, .int wr, .int lt, .int fr, .int sc, .int tm, .int hd, .int st])), (a 0, .inl (cI, 35, .inl sv)), (a 1, .inl (cI, 140, .inl pa)), (a 2, .inl (cI, 35, .inl sn)), (a 3, .inl (cI, 60, .inl pd)), (a 4, .inl (cI, 4, .inl so))]
theorem vp_row {p k : Int32} (hp : vp_in p 4) (hk : vp_in k 35) : vp_in (35 * p + k) 140 := by
  rw [vp_in_iff] at *
  have e1 : (35 * p).toInt = 35 * p.toInt := by
    rw [Int32.toInt_mul]
    exact Int.bmod_eq_of_le (by simp; omega) (by simp; omega)
  have e2 : (35 * p + k).toInt = 35 * p.toInt + k.toInt := by
    rw [Int32.toInt_add, e1]
    exact Int.bmod_eq_of_le (by simp; omega) (by simp; omega)
  omega
theorem k_up {k N : Int32} (h : ¬ k < 0) (c : ¬ N ≤ k) (hN : N.toInt ≤ 1000000) : ¬ k + 1 < 0 := by
  rw [Int32.lt_iff_toInt_lt] at *
  rw [Int32.le_iff_toInt_le] at c
  have e : (k + 1).toInt = k.toInt + 1 := by
    have : (0 : Int32).toInt = 0 := rfl
    rw [Int32.toInt_add]
    exact Int.bmod_eq_of_le (by simp; omega) (by simp; omega)
  have : (0 : Int32).toInt = 0 := rfl
  omega
theorem vp_not4 {x : Int32} (h : vp_in x 5) (c : ¬ x = 4) : vp_in x 4 := by
  rw [vp_in_iff] at *
  have := k_ne c
  have : (4 : Int32).toInt = 4 := rfl
  omega
theorem vp_decr {x k : Int32} {n : Nat} (h : vp_in x (n + 1)) (c : ¬ x = k) (hk : k.toInt = n) : vp_in x n := by
  rw [vp_in_iff] at *
  have := k_ne c
  omega
theorem vp_pred {x : Int32} (h : vp_in x 5) (c : ¬ x = 0) : vp_in (x - 1) 4 := by
  rw [vp_in_iff] at *
  have := k_ne c
  have : (0 : Int32).toInt = 0 := rfl
  have e : (x - 1).toInt = x.toInt - 1 := by
    rw [Int32.toInt_sub]
    exact Int.bmod_eq_of_le (by simp; omega) (by simp; omega)
  omega

def sh_X5_in (x1 : Int32) (x2 : Int32) (x3 : Int32) : Int32 := (if x1 < x2 then (0 : Int32) else (if x3 < x1 then (0 : Int32) else (1 : Int32)))
abbrev rm_X5_in : Room := { frames := 0, cells := 0, slots := 0, locals := 0 }
theorem hd_X5_in : hdT yX5_in 3 := by decide +kernel
set_option maxHeartbeats 40000000 in
set_option maxRecDepth 100000 in
theorem c_X5_in (l : Launch) (D : va_G) (cI cC cQ : ClassId) (sz : Nat)  (x1 : Int32) (x2 : Int32) (x3 : Int32)  : Met l yX5_in (wsO yX5_in cX5_in 3 (some .boolean)) rm_X5_in (va_Pc [.int x1, .int x2, .int x3] (inW D (TYS cI cC cQ) [] sz)) (va_Qi (fun (r : Int32) (_ : Unit) => r = sh_X5_in x1 x2 x3) (fun (u : Unit) => atW D (TYS cI cC cQ) (va_A [] sz) []) (va_A [] sz)) 0 0 (va_A [] sz) := by
  refine k_meti .boolean rfl (by decide) (Nat.le_of_ble_eq_true rfl) ?_
  intro p e s m args below meth c A ls Q H locs hargs hret hx hb hts hown hml hname hN hA hS hP hK hD hl
  have hl : lv_has ls 3 [(0, .int x1), (1, .int x2), (2, .int x3)] := hl
  obtain ⟨Xq, hX⟩ : ∃ Xq, Xq = sh_X5_in x1 x2 x3 := ⟨_, rfl⟩
  have hq : Xq = (if x1 < x2 then (0 : Int32) else (if x3 < x1 then (0 : Int32) else (1 : Int32))) := hX
  refine lv_iload_n hx hb dX5_in_0 rfl (lv_at hl 0 rfl) ?_
  refine lv_iload_n hx hb dX5_in_1 rfl (lv_at hl 1 rfl) ?_
  refine lv_icmp_lt (tgt := 14) hx hb dX5_in_2 (by decide) (fun c1 => ?_) (fun c1 => ?_)
  · have hq := it_pos hq c1
    refine lv_iconst (v := 0) hx hb dX5_in_14 (by decide) ?_
    exact hret _ _ _ _ (0) () dX5_in_15 rfl (hq.symm.trans hX) hP hD hS
  · have hq := it_neg hq c1
    refine lv_iload_n hx hb dX5_in_5 rfl (lv_at hl 0 rfl) ?_
    refine lv_iload_n hx hb dX5_in_6 rfl (lv_at hl 2 rfl) ?_
    refine lv_icmp_gt (tgt := 14) hx hb dX5_in_7 (by decide) (fun c2 => ?_) (fun c2 => ?_)
    · have hq := it_pos hq c2
      refine lv_iconst (v := 0) hx hb dX5_in_14 (by decide) ?_
      exact hret _ _ _ _ (0) () dX5_in_15 rfl (hq.symm.trans hX) hP hD hS
    · have hq := it_neg hq c2
      refine lv_iconst (v := 1) hx hb dX5_in_10 (by decide) ?_
      refine lv_goto (tgt := 15) hx hb dX5_in_11 (by decide) ?_
      exact hret _ _ _ _ (1) () dX5_in_15 rfl (hq.symm.trans hX) hP hD hS
theorem in01 {a b c : Int32} : narrow .boolean (.int (sh_X5_in a b c)) = .int (sh_X5_in a b c) := by
  unfold sh_X5_in
  split
  · rfl
  · split <;> rfl
theorem inIn {x hi : Int32} {n : Nat} (h : ¬ sh_X5_in x 0 hi = 0) (hn : hi.toInt + 1 = n) : vp_in x n := by
  unfold sh_X5_in at h
  split at h
  · exact absurd rfl h
  · split at h
    · exact absurd rfl h
    · rename_i h1 h2
      rw [vp_in_iff]
      rw [Int32.lt_iff_toInt_lt] at h1 h2
      have : (0 : Int32).toInt = 0 := rfl
      omega
def sh_X5_isCup (x1 : Int32) : Int32 := (sh_X5_in x1 0 3)
abbrev rm_X5_isCup : Room := { frames := 1, cells := 0, slots := 0, locals := 22 }
theorem hd_X5_isCup : hdT yX5_isCup 1 := by decide +kernel
set_option maxHeartbeats 40000000 in
set_option maxRecDepth 100000 in
theorem c_X5_isCup (l : Launch) (D : va_G) (cI cC cQ : ClassId) (sz : Nat)  (x1 : Int32)  : Met l yX5_isCup (wsO yX5_isCup cX5_isCup 1 (some .boolean)) rm_X5_isCup (va_Pc [.int x1] (inW D (TYS cI cC cQ) [] sz)) (va_Qi (fun (r : Int32) (_ : Unit) => r = sh_X5_isCup x1) (fun (u : Unit) => atW D (TYS cI cC cQ) (va_A [] sz) []) (va_A [] sz)) 0 0 (va_A [] sz) := by
  refine k_meti .boolean rfl (by decide) (Nat.le_of_ble_eq_true rfl) ?_
  intro p e s m args below meth c A ls Q H locs hargs hret hx hb hts hown hml hname hN hA hS hP hK hD hl
  have hl : lv_has ls 1 [(0, .int x1)] := hl
  obtain ⟨Xq, hX⟩ : ∃ Xq, Xq = sh_X5_isCup x1 := ⟨_, rfl⟩
  have hq : Xq = (sh_X5_in x1 0 3) := hX
  refine lv_iload_n hx hb dX5_isCup_0 rfl (lv_at hl 0 rfl) ?_
  refine lv_iconst (v := 0) hx hb dX5_isCup_1 (by decide) ?_
  refine lv_iconst (v := 3) hx hb dX5_isCup_2 (by decide) ?_
  have hPs := k_self hP
  have hDs := k_selfD hD
  refine k_behi (X := []) (Y := []) (va_runS (As := [.int x1, .int 0, .int 3]) (rest := []) ⟨hx, hb, hml, hown, hts⟩ (c_X5_in l D cI cC cQ H.size x1 0 3) (kcwS hts wd_ml_RX5_25 wd_st_yX5_in wd_ini_RX5 wd_code_yX5_in rfl rfl hd_X5_in ⟨Nat.le_of_ble_eq_true rfl, Nat.le_of_ble_eq_true rfl⟩) ⟨in_blind, k_pre hK (pa_l (pa_r hPs)) (da_l (da_r hDs)) hN⟩ rfl rfl hl.1 rfl (lv_room (Nat.le_of_ble_eq_true rfl)) dX5_isCup_3 ⟨Nat.le_of_ble_eq_true rfl, Nat.le_of_ble_eq_true rfl⟩) hPs hDs hS hA (fun r1 u2 H locs hw3 hP hD hS => ?_)
  have hP := k_unP hP
  have hD := k_unD hD
  have hP : va_P D vwCl [] H := hP
  have hD : va_D A [] := hD
  have hw3 : r1 = (sh_X5_in x1 0 3) := hw3
  subst hw3
  exact hret _ _ _ _ ((sh_X5_in x1 0 3)) () dX5_isCup_6 in01 (hq.symm.trans hX) hP hD hS
def sh_X5_isPrinter (x1 : Int32) : Int32 := (sh_X5_in x1 0 1)
abbrev rm_X5_isPrinter : Room := { frames := 1, cells := 0, slots := 0, locals := 22 }
theorem hd_X5_isPrinter : hdT yX5_isPrinter 1 := by decide +kernel
set_option maxHeartbeats 40000000 in
set_option maxRecDepth 100000 in
theorem c_X5_isPrinter (l : Launch) (D : va_G) (cI cC cQ : ClassId) (sz : Nat)  (x1 : Int32)  : Met l yX5_isPrinter (wsO yX5_isPrinter cX5_isPrinter 1 (some .boolean)) rm_X5_isPrinter (va_Pc [.int x1] (inW D (TYS cI cC cQ) [] sz)) (va_Qi (fun (r : Int32) (_ : Unit) => r = sh_X5_isPrinter x1) (fun (u : Unit) => atW D (TYS cI cC cQ) (va_A [] sz) []) (va_A [] sz)) 0 0 (va_A [] sz) := by
  refine k_meti .boolean rfl (by decide) (Nat.le_of_ble_eq_true rfl) ?_
  intro p e s m args below meth c A ls Q H locs hargs hret hx hb hts hown hml hname hN hA hS hP hK hD hl
  have hl : lv_has ls 1 [(0, .int x1)] := hl
  obtain ⟨Xq, hX⟩ : ∃ Xq, Xq = sh_X5_isPrinter x1 := ⟨_, rfl⟩
  have hq : Xq = (sh_X5_in x1 0 1) := hX
  refine lv_iload_n hx hb dX5_isPrinter_0 rfl (lv_at hl 0 rfl) ?_
  refine lv_iconst (v := 0) hx hb dX5_isPrinter_1 (by decide) ?_
  refine lv_iconst (v := 1) hx hb dX5_isPrinter_2 (by decide) ?_
  have hPs := k_self hP
  have hDs := k_selfD hD
  refine k_behi (X := []) (Y := []) (va_runS (As := [.int x1, .int 0, .int 1]) (rest := []) ⟨hx, hb, hml, hown, hts⟩ (c_X5_in l D cI cC cQ H.size x1 0 1) (kcwS hts wd_ml_RX5_25 wd_st_yX5_in wd_ini_RX5 wd_code_yX5_in rfl rfl hd_X5_in ⟨Nat.le_of_ble_eq_true rfl, Nat.le_of_ble_eq_true rfl⟩) ⟨in_blind, k_pre hK (pa_l (pa_r hPs)) (da_l (da_r hDs)) hN⟩ rfl rfl hl.1 rfl (lv_room (Nat.le_of_ble_eq_true rfl)) dX5_isPrinter_3 ⟨Nat.le_of_ble_eq_true rfl, Nat.le_of_ble_eq_true rfl⟩) hPs hDs hS hA (fun r1 u2 H locs hw3 hP hD hS => ?_)
  have hP := k_unP hP
  have hD := k_unD hD
  have hP : va_P D vwCl [] H := hP
  have hD : va_D A [] := hD
  have hw3 : r1 = (sh_X5_in x1 0 1) := hw3
  subst hw3
  exact hret _ _ _ _ ((sh_X5_in x1 0 1)) () dX5_isPrinter_6 in01 (hq.symm.trans hX) hP hD hS
def sh_X5_areDots (x1 : Int32) : Int32 := (sh_X5_in x1 1 999)
abbrev rm_X5_areDots : Room := { frames := 1, cells := 0, slots := 0, locals := 22 }
theorem hd_X5_areDots : hdT yX5_areDots 1 := by decide +kernel
set_option maxHeartbeats 40000000 in
set_option maxRecDepth 100000 in
theorem c_X5_areDots (l : Launch) (D : va_G) (cI cC cQ : ClassId) (sz : Nat)  (x1 : Int32)  : Met l yX5_areDots (wsO yX5_areDots cX5_areDots 1 (some .boolean)) rm_X5_areDots (va_Pc [.int x1] (inW D (TYS cI cC cQ) [] sz)) (va_Qi (fun (r : Int32) (_ : Unit) => r = sh_X5_areDots x1) (fun (u : Unit) => atW D (TYS cI cC cQ) (va_A [] sz) []) (va_A [] sz)) 0 0 (va_A [] sz) := by
  refine k_meti .boolean rfl (by decide) (Nat.le_of_ble_eq_true rfl) ?_
  intro p e s m args below meth c A ls Q H locs hargs hret hx hb hts hown hml hname hN hA hS hP hK hD hl
  have hl : lv_has ls 1 [(0, .int x1)] := hl
  obtain ⟨Xq, hX⟩ : ∃ Xq, Xq = sh_X5_areDots x1 := ⟨_, rfl⟩
  have hq : Xq = (sh_X5_in x1 1 999) := hX
  refine lv_iload_n hx hb dX5_areDots_0 rfl (lv_at hl 0 rfl) ?_
  refine lv_iconst (v := 1) hx hb dX5_areDots_1 (by decide) ?_
  refine lv_sipush (v := 999) hx hb dX5_areDots_2 (by decide) ?_
  have hPs := k_self hP
  have hDs := k_selfD hD
  refine k_behi (X := []) (Y := []) (va_runS (As := [.int x1, .int 1, .int 999]) (rest := []) ⟨hx, hb, hml, hown, hts⟩ (c_X5_in l D cI cC cQ H.size x1 1 999) (kcwS hts wd_ml_RX5_25 wd_st_yX5_in wd_ini_RX5 wd_code_yX5_in rfl rfl hd_X5_in ⟨Nat.le_of_ble_eq_true rfl, Nat.le_of_ble_eq_true rfl⟩) ⟨in_blind, k_pre hK (pa_l (pa_r hPs)) (da_l (da_r hDs)) hN⟩ rfl rfl hl.1 rfl (lv_room (Nat.le_of_ble_eq_true rfl)) dX5_areDots_5 ⟨Nat.le_of_ble_eq_true rfl, Nat.le_of_ble_eq_true rfl⟩) hPs hDs hS hA (fun r1 u2 H locs hw3 hP hD hS => ?_)
  have hP := k_unP hP
  have hD := k_unD hD
  have hP : va_P D vwCl [] H := hP
  have hD : va_D A [] := hD
  have hw3 : r1 = (sh_X5_in x1 1 999) := hw3
  subst hw3
  exact hret _ _ _ _ ((sh_X5_in x1 1 999)) () dX5_areDots_8 in01 (hq.symm.trans hX) hP hD hS
theorem mIn4 {x : Int32} (h : ¬ sh_X5_isCup x = 0) : vp_in x 4 := inIn h (by decide)
theorem mIn2 {x : Int32} (h : ¬ sh_X5_isPrinter x = 0) : vp_in x 2 := inIn h (by decide)
def sh_X5_lowest (x1 : Int32) : Int32 := (kb (α := (Int32)) (if x1 = 1 then 2 else (if x1 = 2 then 0 else 1)) (fun z_v4 => z_v4))
abbrev rm_X5_lowest : Room := { frames := 0, cells := 0, slots := 0, locals := 0 }
theorem hd_X5_lowest : hdT yX5_lowest 1 := by decide +kernel
set_option maxHeartbeats 40000000 in
set_option maxRecDepth 100000 in
theorem c_X5_lowest (l : Launch) (D : va_G) (cI cC cQ : ClassId) (sz : Nat)  (x1 : Int32)  : Met l yX5_lowest (wsO yX5_lowest cX5_lowest 1 (some .int)) rm_X5_lowest (va_Pc [.int x1] (inW D (TYS cI cC cQ) [] sz)) (va_Qi (fun (r : Int32) (_ : Unit) => r = sh_X5_lowest x1) (fun (u : Unit) => atW D (TYS cI cC cQ) (va_A [] sz) []) (va_A [] sz)) 0 0 (va_A [] sz) := by
  refine k_meti .int rfl (by decide) (Nat.le_of_ble_eq_true rfl) ?_
  intro p e s m args below meth c A ls Q H locs hargs hret hx hb hts hown hml hname hN hA hS hP hK hD hl
  have hl : lv_has ls 1 [(0, .int x1)] := hl
  obtain ⟨Xq, hX⟩ : ∃ Xq, Xq = sh_X5_lowest x1 := ⟨_, rfl⟩
  have hq : Xq = (kb (α := (Int32)) (if x1 = 1 then 2 else (if x1 = 2 then 0 else 1)) (fun z_v4 => z_v4)) := hX
  refine lv_iload_n hx hb dX5_lowest_0 rfl (lv_at hl 0 rfl) ?_
  refine lv_iconst (v := 1) hx hb dX5_lowest_1 (by decide) ?_
  have K : ∀ (v4 : Int32) (H : Heap) (locs : List Loc) (ls : Array Slot), v4 = (if x1 = 1 then 2 else (if x1 = 2 then 0 else 1)) → va_P D vwCl [] H → va_D A [] → va_S A s.heap H locs → lv_has ls 1 [(0, .int x1)] → W p l e rm_X5_lowest s m args below meth c H locs 0 0 Q (F0 m 19 ls [.int v4]) := by
    intro v4 H locs ls hv3 hP hD hS hl
    have hq := kb_to hq hv3
    exact hret _ _ _ _ (v4) () dX5_lowest_19 rfl (hq.symm.trans hX) hP hD hS
  refine lv_icmp_ne (tgt := 9) hx hb dX5_lowest_2 (by decide) (fun c1 => ?_) (fun c1 => ?_)
  · skip
    refine lv_iload_n hx hb dX5_lowest_9 rfl (lv_at hl 0 rfl) ?_
    refine lv_iconst (v := 2) hx hb dX5_lowest_10 (by decide) ?_
    refine lv_icmp_ne (tgt := 18) hx hb dX5_lowest_11 (by decide) (fun c2 => ?_) (fun c2 => ?_)
    · skip
      refine lv_iconst (v := 1) hx hb dX5_lowest_18 (by decide) ?_
      exact K (1) _ _ _ (by rw [if_neg c1, if_neg c2]) hP hD hS (lv_sub hl [0] rfl)
    · skip
      refine lv_iconst (v := 0) hx hb dX5_lowest_14 (by decide) ?_
      refine lv_goto (tgt := 19) hx hb dX5_lowest_15 (by decide) ?_
      exact K (0) _ _ _ (by rw [if_neg c1, if_pos c2]) hP hD hS (lv_sub hl [0] rfl)
  · skip
    refine lv_iconst (v := 2) hx hb dX5_lowest_5 (by decide) ?_
    refine lv_goto (tgt := 19) hx hb dX5_lowest_6 (by decide) ?_
    exact K (2) _ _ _ (by rw [if_pos c1]) hP hD hS (lv_sub hl [0] rfl)
def sh_X5_highest (x1 : Int32) : Int32 := (kb (α := (Int32)) (if x1 = 0 then 5 else (if x1 = 1 then 50 else (if x1 = 2 then 1 else 500))) (fun z_v5 => z_v5))
abbrev rm_X5_highest : Room := { frames := 0, cells := 0, slots := 0, locals := 0 }
theorem hd_X5_highest : hdT yX5_highest 1 := by decide +kernel
set_option maxHeartbeats 40000000 in
set_option maxRecDepth 100000 in
theorem c_X5_highest (l : Launch) (D : va_G) (cI cC cQ : ClassId) (sz : Nat)  (x1 : Int32)  : Met l yX5_highest (wsO yX5_highest cX5_highest 1 (some .int)) rm_X5_highest (va_Pc [.int x1] (inW D (TYS cI cC cQ) [] sz)) (va_Qi (fun (r : Int32) (_ : Unit) => r = sh_X5_highest x1) (fun (u : Unit) => atW D (TYS cI cC cQ) (va_A [] sz) []) (va_A [] sz)) 0 0 (va_A [] sz) := by
  refine k_meti .int rfl (by decide) (Nat.le_of_ble_eq_true rfl) ?_
  intro p e s m args below meth c A ls Q H locs hargs hret hx hb hts hown hml hname hN hA hS hP hK hD hl
  have hl : lv_has ls 1 [(0, .int x1)] := hl
  obtain ⟨Xq, hX⟩ : ∃ Xq, Xq = sh_X5_highest x1 := ⟨_, rfl⟩
  have hq : Xq = (kb (α := (Int32)) (if x1 = 0 then 5 else (if x1 = 1 then 50 else (if x1 = 2 then 1 else 500))) (fun z_v5 => z_v5)) := hX
  refine lv_iload_n hx hb dX5_highest_0 rfl (lv_at hl 0 rfl) ?_
  have K : ∀ (v5 : Int32) (H : Heap) (locs : List Loc) (ls : Array Slot), v5 = (if x1 = 0 then 5 else (if x1 = 1 then 50 else (if x1 = 2 then 1 else 500))) → va_P D vwCl [] H → va_D A [] → va_S A s.heap H locs → lv_has ls 1 [(0, .int x1)] → W p l e rm_X5_highest s m args below meth c H locs 0 0 Q (F0 m 30 ls [.int v5]) := by
    intro v5 H locs ls hv4 hP hD hS hl
    have hq := kb_to hq hv4
    exact hret _ _ _ _ (v5) () dX5_highest_30 rfl (hq.symm.trans hX) hP hD hS
  refine lv_if_ne (tgt := 8) hx hb dX5_highest_1 (by decide) (fun c1 => ?_) (fun c1 => ?_)
  · skip
    refine lv_iload_n hx hb dX5_highest_8 rfl (lv_at hl 0 rfl) ?_
    refine lv_iconst (v := 1) hx hb dX5_highest_9 (by decide) ?_
    refine lv_icmp_ne (tgt := 18) hx hb dX5_highest_10 (by decide) (fun c2 => ?_) (fun c2 => ?_)
    · skip
      refine lv_iload_n hx hb dX5_highest_18 rfl (lv_at hl 0 rfl) ?_
      refine lv_iconst (v := 2) hx hb dX5_highest_19 (by decide) ?_
      refine lv_icmp_ne (tgt := 27) hx hb dX5_highest_20 (by decide) (fun c3 => ?_) (fun c3 => ?_)
      · skip
        refine lv_sipush (v := 500) hx hb dX5_highest_27 (by decide) ?_
        exact K (500) _ _ _ (by rw [if_neg c1, if_neg c2, if_neg c3]) hP hD hS (lv_sub hl [0] rfl)
      · skip
        refine lv_iconst (v := 1) hx hb dX5_highest_23 (by decide) ?_
        refine lv_goto (tgt := 30) hx hb dX5_highest_24 (by decide) ?_
        exact K (1) _ _ _ (by rw [if_neg c1, if_neg c2, if_pos c3]) hP hD hS (lv_sub hl [0] rfl)
    · skip
      refine lv_bipush (v := 50) hx hb dX5_highest_13 (by decide) ?_
      refine lv_goto (tgt := 30) hx hb dX5_highest_15 (by decide) ?_
      exact K (50) _ _ _ (by rw [if_neg c1, if_pos c2]) hP hD hS (lv_sub hl [0] rfl)
  · skip
    refine lv_iconst (v := 5) hx hb dX5_highest_4 (by decide) ?_
    refine lv_goto (tgt := 30) hx hb dX5_highest_5 (by decide) ?_
    exact K (5) _ _ _ (by rw [if_pos c1]) hP hD hS (lv_sub hl [0] rfl)
def lp_X5_records_49 (sv : Nat → Int32) : Nat → (Int32) → (Nat → Int32) → (Int32) → ((Nat → Int32) × (Int32))
  | 0, _, _, _ => default
  | fu + 1, k2, l_pa, l_pn => (if 35 ≤ k2 then (l_pa, (l_pn + 1)) else (kb (α := Nat → Int32) (upd l_pa ((35 * l_pn) + k2).toNatClampNeg (sv k2.toNatClampNeg)) (fun z_f7 => (lp_X5_records_49 sv fu (k2 + 1) z_f7 l_pn))))
def lp_X5_records_10 (sv : Nat → Int32) (pn : Int32) : Nat → (Int32) → (Nat → Int32) → ((Nat → Int32) × (Int32))
  | 0, _, _ => default
  | fu + 1, k1, l_pa => (if 105 ≤ k1 then (lp_X5_records_49 sv (((35 : Int32).toInt - (0 : Int32).toInt).toNat + 1) 0 l_pa (pn - 1)) else (kb (α := Nat → Int32) (upd l_pa k1.toNatClampNeg (l_pa (35 + k1).toNatClampNeg)) (fun z_f9 => (lp_X5_records_10 sv pn fu (k1 + 1) z_f9))))
def sh_X5_records (sv : Nat → Int32) (pa : Nat → Int32) (pn : Int32) : (Nat → Int32) × (Int32) := (if pn = 4 then (lp_X5_records_10 sv pn (((105 : Int32).toInt - (0 : Int32).toInt).toNat + 1) 0 pa) else (lp_X5_records_49 sv (((35 : Int32).toInt - (0 : Int32).toInt).toNat + 1) 0 pa pn))
abbrev rm_X5_records : Room := { frames := 0, cells := 0, slots := 0, locals := 0 }
theorem hd_X5_records : hdT yX5_records 0 := by decide +kernel
set_option maxHeartbeats 40000000 in
set_option maxRecDepth 100000 in
theorem c_X5_records (l : Launch) (D : va_G) (cI cC cQ : ClassId) (sz : Nat) (h0 : Nat) (a : Nat → Nat) (sv : Nat → Int32) (pa : Nat → Int32) (pn : Int32) (sn : Nat → Int32) (kp : Int32) (pd : Nat → Int32) (ln : Int32) (so : Nat → Int32) (po : Int32) (wr : Int32) (lt : Int32) (fr : Int32) (sc : Int32) (tm : Int32) (hd : Int32) (st : Int32)  (hpn0 : vp_in pn 5) : Met l yX5_records (wsO yX5_records cX5_records 2 none) rm_X5_records (va_Pc [.ref h0] (inW D (TYS cI cC cQ) (MO cI h0 a sv pa pn sn kp pd ln so po wr lt fr sc tm hd st) sz)) (va_Qv (fun (u : (Nat → Int32) × (Int32)) => u = sh_X5_records sv pa pn) (fun (u : (Nat → Int32) × (Int32)) => atW D (TYS cI cC cQ) (va_A (MO cI h0 a sv pa pn sn kp pd ln so po wr lt fr sc tm hd st) sz) (MO cI h0 a sv u.1 u.2 sn kp pd ln so po wr lt fr sc tm hd st)) (va_A (MO cI h0 a sv pa pn sn kp pd ln so po wr lt fr sc tm hd st) sz)) 0 0 (va_A (MO cI h0 a sv pa pn sn kp pd ln so po wr lt fr sc tm hd st) sz) := by
  refine k_metv rfl (by decide) (Nat.le_of_ble_eq_true rfl) ?_
  intro p e s m args below meth c A ls Q H locs hargs hret hx hb hts hown hml hname hN hA hS hP hK hD hl
  have hl : lv_has ls 2 [(0, .ref h0)] := hl
  obtain ⟨Xq, hX⟩ : ∃ Xq, Xq = sh_X5_records sv pa pn := ⟨_, rfl⟩
  have hq : Xq = (if pn = 4 then (lp_X5_records_10 sv pn (((105 : Int32).toInt - (0 : Int32).toInt).toNat + 1) 0 pa) else (lp_X5_records_49 sv (((35 : Int32).toInt - (0 : Int32).toInt).toNat + 1) 0 pa pn)) := hX
  refine lv_aload_n hx hb dX5_records_0 rfl (lv_at hl 0 rfl) ?_
  refine va_get (D := D) (ci := 5) (v := .int pn) (C := RX5) (T := TX5) (N := 16) hx hb hts inA5 hown hK hP 0 rfl rfl 2 (by decide) (hts _ wd_fl_RX5_29) (fun _ h9 => h9) rfl dX5_records_1 ?_
  refine lv_iconst (v := 4) hx hb dX5_records_4 (by decide) ?_
  refine lv_icmp_ne (tgt := 47) hx hb dX5_records_5 (by decide) (fun c1 => ?_) (fun c1 => ?_)
  · have hq := it_neg hq c1
    refine lv_iconst (v := 0) hx hb dX5_records_47 (by decide) ?_
    refine lv_istore_n (lv' := [(1, .int 0), (0, .ref h0)]) hx hb dX5_records_48 rfl hl (by decide) rfl (fun ls hl => ?_)
    have L49 : ∀ (fu : Nat) (k2 : Int32) (l_pa : Nat → Int32) (l_pn : Int32) (H : Heap) (locs : List Loc) (ls : Array Slot), ((35 : Int32).toInt - (k2 : Int32).toInt).toNat < fu → (¬ k2 < 0) → (vp_in l_pn 4) → Xq = lp_X5_records_49 sv fu k2 l_pa l_pn → va_P D vwCl (MO cI h0 a sv l_pa l_pn sn kp pd ln so po wr lt fr sc tm hd st) H → va_D A (MO cI h0 a sv l_pa l_pn sn kp pd ln so po wr lt fr sc tm hd st) → va_S A s.heap H locs → lv_has ls 2 [(1, .int k2), (0, .ref h0)] → W p l e rm_X5_records s m args below meth c H locs 0 0 Q (F0 m 49 ls []) := by
      intro fu
      induction fu with
      | zero => intro k2 l_pa l_pn H locs ls hmu; exact absurd hmu (Nat.not_lt_zero _)
      | succ fu ih =>
        intro k2 l_pa l_pn H locs ls hmu hk hpn hq hP hD hS hl
        have hq : Xq = (if 35 ≤ k2 then (l_pa, (l_pn + 1)) else (kb (α := Nat → Int32) (upd l_pa ((35 * l_pn) + k2).toNatClampNeg (sv k2.toNatClampNeg)) (fun z_f3 => (lp_X5_records_49 sv fu (k2 + 1) z_f3 l_pn)))) := hq
        refine lv_iload_n hx hb dX5_records_49 rfl (lv_at hl 0 rfl) ?_
        refine lv_bipush (v := 35) hx hb dX5_records_50 (by decide) ?_
        refine lv_icmp_ge (tgt := 81) hx hb dX5_records_52 (by decide) (fun c2 => ?_) (fun c2 => ?_)
        · have hq := it_pos hq c2
          refine lv_aload_n hx hb dX5_records_81 rfl (lv_at hl 1 rfl) ?_
          refine lv_dup hx hb dX5_records_82 rfl ?_
          refine va_get (D := D) (ci := 5) (v := .int l_pn) (C := RX5) (T := TX5) (N := 16) hx hb hts inA5 hown hK hP 0 rfl rfl 2 (by decide) (hts _ wd_fl_RX5_29) (fun _ h9 => h9) rfl dX5_records_83 ?_
          refine lv_iconst (v := 1) hx hb dX5_records_86 (by decide) ?_
          refine lv_iadd hx hb dX5_records_87 ?_
          refine va_put (D := D) (ci := 5) (v := .int (l_pn + 1)) (ty := .int) (C := RX5) (T := TX5) (N := 16) hx hb hts inA5 tyX5 tyX5_ok nmX5 hown hK hP hD hS 0 rfl rfl 2 (by decide) (hts _ wd_fl_RX5_29) (fun _ h9 => h9) rfl (by decide +kernel) rfl rfl (Nat.le_of_ble_eq_true rfl) dX5_records_88 (fun H locs hP hD hS => ?_)
          have hP : va_P D vwCl (MO cI h0 a sv l_pa (l_pn + 1) sn kp pd ln so po wr lt fr sc tm hd st) H := hP
          have hD : va_D A (MO cI h0 a sv l_pa (l_pn + 1) sn kp pd ln so po wr lt fr sc tm hd st) := hD
          exact hret _ _ _ _ (l_pa, (l_pn + 1)) dX5_records_91 (hq.symm.trans hX) hP hD hS
        · have hq := it_neg hq c2
          refine lv_aload_n hx hb dX5_records_55 rfl (lv_at hl 1 rfl) ?_
          refine va_get (D := D) (ci := 5) (v := .ref (a 1)) (C := RX5) (T := TX5) (N := 16) hx hb hts inA5 hown hK hP 0 rfl rfl 1 (by decide) (hts _ wd_fl_RX5_13) (fun _ h9 => h9) rfl dX5_records_56 ?_
          refine lv_bipush (v := 35) hx hb dX5_records_59 (by decide) ?_
          refine lv_aload_n hx hb dX5_records_61 rfl (lv_at hl 1 rfl) ?_
          refine va_get (D := D) (ci := 5) (v := .int l_pn) (C := RX5) (T := TX5) (N := 16) hx hb hts inA5 hown hK hP 0 rfl rfl 2 (by decide) (hts _ wd_fl_RX5_29) (fun _ h9 => h9) rfl dX5_records_62 ?_
          refine lv_imul hx hb dX5_records_65 ?_
          refine lv_iload_n hx hb dX5_records_66 rfl (lv_at hl 0 rfl) ?_
          refine lv_iadd hx hb dX5_records_67 ?_
          refine lv_aload_n hx hb dX5_records_68 rfl (lv_at hl 1 rfl) ?_
          refine va_get (D := D) (ci := 5) (v := .ref (a 0)) (C := RX5) (T := TX5) (N := 16) hx hb hts inA5 hown hK hP 0 rfl rfl 0 (by decide) (hts _ wd_fl_RX5_7) (fun _ h9 => h9) rfl dX5_records_69 ?_
          refine lv_iload_n hx hb dX5_records_72 rfl (lv_at hl 0 rfl) ?_
          refine va_iald hx hb hK hP 1 0 rfl rfl (vp_of_le (n := 35) hk c2 (by decide)) dX5_records_73 ?_
          refine va_iast hx hb hK hP hD hS 2 0 rfl rfl (vp_row hpn (vp_of_le (n := 35) hk c2 (by decide))) dX5_records_74 (fun H locs hP hD hS => ?_)
          have hP : va_P D vwCl (MO cI h0 a sv (upd l_pa ((35 * l_pn) + k2).toNatClampNeg (sv k2.toNatClampNeg)) l_pn sn kp pd ln so po wr lt fr sc tm hd st) H := hP
          have hD : va_D A (MO cI h0 a sv (upd l_pa ((35 * l_pn) + k2).toNatClampNeg (sv k2.toNatClampNeg)) l_pn sn kp pd ln so po wr lt fr sc tm hd st) := hD
          obtain ⟨f3, hf4⟩ : ∃ z : Nat → Int32, z = (upd l_pa ((35 * l_pn) + k2).toNatClampNeg (sv k2.toNatClampNeg)) := ⟨_, rfl⟩
          have hP : va_P D vwCl (MO cI h0 a sv f3 l_pn sn kp pd ln so po wr lt fr sc tm hd st) H := by rw [hf4]; exact hP
          have hD : va_D A (MO cI h0 a sv f3 l_pn sn kp pd ln so po wr lt fr sc tm hd st) := by rw [hf4]; exact hD
          have hq := kb_to hq hf4
          refine lv_iinc (v := (k2 + 1)) (lv' := [(1, .int (k2 + 1)), (0, .ref h0)]) hx hb dX5_records_75 hl (k := 0) rfl rfl (by decide) rfl (fun ls hl => ?_)
          refine lv_goto (tgt := 49) hx hb dX5_records_78 (by decide) ?_
          exact ih ((k2 + 1)) (f3) (l_pn) _ _ _ (k_mu hmu c2) (k_up hk c2 (by decide)) (hpn) hq hP hD hS (lv_sub hl [0, 1] rfl)
    exact L49 (((35 : Int32).toInt - (0 : Int32).toInt).toNat + 1) (0) (pa) (pn) _ _ _ (Nat.lt_succ_self _) (by decide) (vp_not4 hpn0 c1) hq hP hD hS (lv_sub hl [0, 1] rfl)
  · have hq := it_pos hq c1
    refine lv_iconst (v := 0) hx hb dX5_records_8 (by decide) ?_
    refine lv_istore_n (lv' := [(1, .int 0), (0, .ref h0)]) hx hb dX5_records_9 rfl hl (by decide) rfl (fun ls hl => ?_)
    have L10 : ∀ (fu : Nat) (k1 : Int32) (l_pa : Nat → Int32) (H : Heap) (locs : List Loc) (ls : Array Slot), ((105 : Int32).toInt - (k1 : Int32).toInt).toNat < fu → (¬ k1 < 0) → Xq = lp_X5_records_10 sv pn fu k1 l_pa → va_P D vwCl (MO cI h0 a sv l_pa pn sn kp pd ln so po wr lt fr sc tm hd st) H → va_D A (MO cI h0 a sv l_pa pn sn kp pd ln so po wr lt fr sc tm hd st) → va_S A s.heap H locs → lv_has ls 2 [(1, .int k1), (0, .ref h0)] → W p l e rm_X5_records s m args below meth c H locs 0 0 Q (F0 m 10 ls []) := by
      intro fu
      induction fu with
      | zero => intro k1 l_pa H locs ls hmu; exact absurd hmu (Nat.not_lt_zero _)
      | succ fu ih =>
        intro k1 l_pa H locs ls hmu hk hq hP hD hS hl
        have hq : Xq = (if 105 ≤ k1 then (lp_X5_records_49 sv (((35 : Int32).toInt - (0 : Int32).toInt).toNat + 1) 0 l_pa (pn - 1)) else (kb (α := Nat → Int32) (upd l_pa k1.toNatClampNeg (l_pa (35 + k1).toNatClampNeg)) (fun z_f9 => (lp_X5_records_10 sv pn fu (k1 + 1) z_f9)))) := hq
        refine lv_iload_n hx hb dX5_records_10 rfl (lv_at hl 0 rfl) ?_
        refine lv_bipush (v := 105) hx hb dX5_records_11 (by decide) ?_
        refine lv_icmp_ge (tgt := 37) hx hb dX5_records_13 (by decide) (fun c5 => ?_) (fun c5 => ?_)
        · have hq := it_pos hq c5
          refine lv_aload_n hx hb dX5_records_37 rfl (lv_at hl 1 rfl) ?_
          refine lv_dup hx hb dX5_records_38 rfl ?_
          refine va_get (D := D) (ci := 5) (v := .int pn) (C := RX5) (T := TX5) (N := 16) hx hb hts inA5 hown hK hP 0 rfl rfl 2 (by decide) (hts _ wd_fl_RX5_29) (fun _ h9 => h9) rfl dX5_records_39 ?_
          refine lv_iconst (v := 1) hx hb dX5_records_42 (by decide) ?_
          refine lv_isub hx hb dX5_records_43 ?_
          refine va_put (D := D) (ci := 5) (v := .int (pn - 1)) (ty := .int) (C := RX5) (T := TX5) (N := 16) hx hb hts inA5 tyX5 tyX5_ok nmX5 hown hK hP hD hS 0 rfl rfl 2 (by decide) (hts _ wd_fl_RX5_29) (fun _ h9 => h9) rfl (by decide +kernel) rfl rfl (Nat.le_of_ble_eq_true rfl) dX5_records_44 (fun H locs hP hD hS => ?_)
          have hP : va_P D vwCl (MO cI h0 a sv l_pa (pn - 1) sn kp pd ln so po wr lt fr sc tm hd st) H := hP
          have hD : va_D A (MO cI h0 a sv l_pa (pn - 1) sn kp pd ln so po wr lt fr sc tm hd st) := hD
          refine lv_iconst (v := 0) hx hb dX5_records_47 (by decide) ?_
          refine lv_istore_n (lv' := [(1, .int 0), (0, .ref h0)]) hx hb dX5_records_48 rfl hl (by decide) rfl (fun ls hl => ?_)
          have L49 : ∀ (fu : Nat) (k2 : Int32) (l_pa : Nat → Int32) (l_pn : Int32) (H : Heap) (locs : List Loc) (ls : Array Slot), ((35 : Int32).toInt - (k2 : Int32).toInt).toNat < fu → (¬ k2 < 0) → (vp_in l_pn 4) → Xq = lp_X5_records_49 sv fu k2 l_pa l_pn → va_P D vwCl (MO cI h0 a sv l_pa l_pn sn kp pd ln so po wr lt fr sc tm hd st) H → va_D A (MO cI h0 a sv l_pa l_pn sn kp pd ln so po wr lt fr sc tm hd st) → va_S A s.heap H locs → lv_has ls 2 [(1, .int k2), (0, .ref h0)] → W p l e rm_X5_records s m args below meth c H locs 0 0 Q (F0 m 49 ls []) := by
            intro fu
            induction fu with
            | zero => intro k2 l_pa l_pn H locs ls hmu; exact absurd hmu (Nat.not_lt_zero _)
            | succ fu ih =>
              intro k2 l_pa l_pn H locs ls hmu hk hpn hq hP hD hS hl
              have hq : Xq = (if 35 ≤ k2 then (l_pa, (l_pn + 1)) else (kb (α := Nat → Int32) (upd l_pa ((35 * l_pn) + k2).toNatClampNeg (sv k2.toNatClampNeg)) (fun z_f7 => (lp_X5_records_49 sv fu (k2 + 1) z_f7 l_pn)))) := hq
              refine lv_iload_n hx hb dX5_records_49 rfl (lv_at hl 0 rfl) ?_
              refine lv_bipush (v := 35) hx hb dX5_records_50 (by decide) ?_
              refine lv_icmp_ge (tgt := 81) hx hb dX5_records_52 (by decide) (fun c6 => ?_) (fun c6 => ?_)
              · have hq := it_pos hq c6
                refine lv_aload_n hx hb dX5_records_81 rfl (lv_at hl 1 rfl) ?_
                refine lv_dup hx hb dX5_records_82 rfl ?_
                refine va_get (D := D) (ci := 5) (v := .int l_pn) (C := RX5) (T := TX5) (N := 16) hx hb hts inA5 hown hK hP 0 rfl rfl 2 (by decide) (hts _ wd_fl_RX5_29) (fun _ h9 => h9) rfl dX5_records_83 ?_
                refine lv_iconst (v := 1) hx hb dX5_records_86 (by decide) ?_
                refine lv_iadd hx hb dX5_records_87 ?_
                refine va_put (D := D) (ci := 5) (v := .int (l_pn + 1)) (ty := .int) (C := RX5) (T := TX5) (N := 16) hx hb hts inA5 tyX5 tyX5_ok nmX5 hown hK hP hD hS 0 rfl rfl 2 (by decide) (hts _ wd_fl_RX5_29) (fun _ h9 => h9) rfl (by decide +kernel) rfl rfl (Nat.le_of_ble_eq_true rfl) dX5_records_88 (fun H locs hP hD hS => ?_)
                have hP : va_P D vwCl (MO cI h0 a sv l_pa (l_pn + 1) sn kp pd ln so po wr lt fr sc tm hd st) H := hP
                have hD : va_D A (MO cI h0 a sv l_pa (l_pn + 1) sn kp pd ln so po wr lt fr sc tm hd st) := hD
                exact hret _ _ _ _ (l_pa, (l_pn + 1)) dX5_records_91 (hq.symm.trans hX) hP hD hS
              · have hq := it_neg hq c6
                refine lv_aload_n hx hb dX5_records_55 rfl (lv_at hl 1 rfl) ?_
                refine va_get (D := D) (ci := 5) (v := .ref (a 1)) (C := RX5) (T := TX5) (N := 16) hx hb hts inA5 hown hK hP 0 rfl rfl 1 (by decide) (hts _ wd_fl_RX5_13) (fun _ h9 => h9) rfl dX5_records_56 ?_
                refine lv_bipush (v := 35) hx hb dX5_records_59 (by decide) ?_
                refine lv_aload_n hx hb dX5_records_61 rfl (lv_at hl 1 rfl) ?_
                refine va_get (D := D) (ci := 5) (v := .int l_pn) (C := RX5) (T := TX5) (N := 16) hx hb hts inA5 hown hK hP 0 rfl rfl 2 (by decide) (hts _ wd_fl_RX5_29) (fun _ h9 => h9) rfl dX5_records_62 ?_
                refine lv_imul hx hb dX5_records_65 ?_
                refine lv_iload_n hx hb dX5_records_66 rfl (lv_at hl 0 rfl) ?_
                refine lv_iadd hx hb dX5_records_67 ?_
                refine lv_aload_n hx hb dX5_records_68 rfl (lv_at hl 1 rfl) ?_
                refine va_get (D := D) (ci := 5) (v := .ref (a 0)) (C := RX5) (T := TX5) (N := 16) hx hb hts inA5 hown hK hP 0 rfl rfl 0 (by decide) (hts _ wd_fl_RX5_7) (fun _ h9 => h9) rfl dX5_records_69 ?_
                refine lv_iload_n hx hb dX5_records_72 rfl (lv_at hl 0 rfl) ?_
                refine va_iald hx hb hK hP 1 0 rfl rfl (vp_of_le (n := 35) hk c6 (by decide)) dX5_records_73 ?_
                refine va_iast hx hb hK hP hD hS 2 0 rfl rfl (vp_row hpn (vp_of_le (n := 35) hk c6 (by decide))) dX5_records_74 (fun H locs hP hD hS => ?_)
                have hP : va_P D vwCl (MO cI h0 a sv (upd l_pa ((35 * l_pn) + k2).toNatClampNeg (sv k2.toNatClampNeg)) l_pn sn kp pd ln so po wr lt fr sc tm hd st) H := hP
                have hD : va_D A (MO cI h0 a sv (upd l_pa ((35 * l_pn) + k2).toNatClampNeg (sv k2.toNatClampNeg)) l_pn sn kp pd ln so po wr lt fr sc tm hd st) := hD
                obtain ⟨f7, hf8⟩ : ∃ z : Nat → Int32, z = (upd l_pa ((35 * l_pn) + k2).toNatClampNeg (sv k2.toNatClampNeg)) := ⟨_, rfl⟩
                have hP : va_P D vwCl (MO cI h0 a sv f7 l_pn sn kp pd ln so po wr lt fr sc tm hd st) H := by rw [hf8]; exact hP
                have hD : va_D A (MO cI h0 a sv f7 l_pn sn kp pd ln so po wr lt fr sc tm hd st) := by rw [hf8]; exact hD
                have hq := kb_to hq hf8
                refine lv_iinc (v := (k2 + 1)) (lv' := [(1, .int (k2 + 1)), (0, .ref h0)]) hx hb dX5_records_75 hl (k := 0) rfl rfl (by decide) rfl (fun ls hl => ?_)
                refine lv_goto (tgt := 49) hx hb dX5_records_78 (by decide) ?_
                exact ih ((k2 + 1)) (f7) (l_pn) _ _ _ (k_mu hmu c6) (k_up hk c6 (by decide)) (hpn) hq hP hD hS (lv_sub hl [0, 1] rfl)
          exact L49 (((35 : Int32).toInt - (0 : Int32).toInt).toNat + 1) (0) (l_pa) ((pn - 1)) _ _ _ (Nat.lt_succ_self _) (by decide) (by rw [c1]; exact k_in (by decide)) hq hP hD hS (lv_sub hl [0, 1] rfl)
        · have hq := it_neg hq c5
          refine lv_aload_n hx hb dX5_records_16 rfl (lv_at hl 1 rfl) ?_
          refine va_get (D := D) (ci := 5) (v := .ref (a 1)) (C := RX5) (T := TX5) (N := 16) hx hb hts inA5 hown hK hP 0 rfl rfl 1 (by decide) (hts _ wd_fl_RX5_13) (fun _ h9 => h9) rfl dX5_records_17 ?_
          refine lv_iload_n hx hb dX5_records_20 rfl (lv_at hl 0 rfl) ?_
          refine lv_aload_n hx hb dX5_records_21 rfl (lv_at hl 1 rfl) ?_
          refine va_get (D := D) (ci := 5) (v := .ref (a 1)) (C := RX5) (T := TX5) (N := 16) hx hb hts inA5 hown hK hP 0 rfl rfl 1 (by decide) (hts _ wd_fl_RX5_13) (fun _ h9 => h9) rfl dX5_records_22 ?_
          refine lv_bipush (v := 35) hx hb dX5_records_25 (by decide) ?_
          refine lv_iload_n hx hb dX5_records_27 rfl (lv_at hl 0 rfl) ?_
          refine lv_iadd hx hb dX5_records_28 ?_
          refine va_iald hx hb hK hP 2 0 rfl rfl (vp_add (vp_of_le (n := 105) hk c5 (by decide)) (by decide) (by decide) (by decide)) dX5_records_29 ?_
          refine va_iast hx hb hK hP hD hS 2 0 rfl rfl (vp_mono (vp_of_le (n := 105) hk c5 (by decide)) (by decide) (by decide)) dX5_records_30 (fun H locs hP hD hS => ?_)
          have hP : va_P D vwCl (MO cI h0 a sv (upd l_pa k1.toNatClampNeg (l_pa (35 + k1).toNatClampNeg)) pn sn kp pd ln so po wr lt fr sc tm hd st) H := hP
          have hD : va_D A (MO cI h0 a sv (upd l_pa k1.toNatClampNeg (l_pa (35 + k1).toNatClampNeg)) pn sn kp pd ln so po wr lt fr sc tm hd st) := hD
          obtain ⟨f9, hf10⟩ : ∃ z : Nat → Int32, z = (upd l_pa k1.toNatClampNeg (l_pa (35 + k1).toNatClampNeg)) := ⟨_, rfl⟩
          have hP : va_P D vwCl (MO cI h0 a sv f9 pn sn kp pd ln so po wr lt fr sc tm hd st) H := by rw [hf10]; exact hP
          have hD : va_D A (MO cI h0 a sv f9 pn sn kp pd ln so po wr lt fr sc tm hd st) := by rw [hf10]; exact hD
          have hq := kb_to hq hf10
          refine lv_iinc (v := (k1 + 1)) (lv' := [(1, .int (k1 + 1)), (0, .ref h0)]) hx hb dX5_records_31 hl (k := 0) rfl rfl (by decide) rfl (fun ls hl => ?_)
          refine lv_goto (tgt := 10) hx hb dX5_records_34 (by decide) ?_
          exact ih ((k1 + 1)) (f9) _ _ _ (k_mu hmu c5) (k_up hk c5 (by decide)) hq hP hD hS (lv_sub hl [0, 1] rfl)
    exact L10 (((105 : Int32).toInt - (0 : Int32).toInt).toNat + 1) (0) (pa) _ _ _ (Nat.lt_succ_self _) (by decide) hq hP hD hS (lv_sub hl [0, 1] rfl)
def sh_X5_need (sv : Nat → Int32) (x1 : Int32) (x2 : Int32) (x3 : Int32) : Int32 := (kb (α := (Int32)) (if (sv (0 + x1).toNatClampNeg) = 0 then (x2 * x3) else (if (sv (0 + x1).toNatClampNeg) = 1 then (((x2 * x3) * 3) / 4) else (((x2 * x3) * 9) / 8))) (fun z_v4 => z_v4))
abbrev rm_X5_need : Room := { frames := 0, cells := 0, slots := 0, locals := 0 }
theorem hd_X5_need : hdT yX5_need 3 := by decide +kernel
set_option maxHeartbeats 40000000 in
set_option maxRecDepth 100000 in
theorem c_X5_need (l : Launch) (D : va_G) (cI cC cQ : ClassId) (sz : Nat) (h0 : Nat) (a : Nat → Nat) (sv : Nat → Int32) (pa : Nat → Int32) (pn : Int32) (sn : Nat → Int32) (kp : Int32) (pd : Nat → Int32) (ln : Int32) (so : Nat → Int32) (po : Int32) (wr : Int32) (lt : Int32) (fr : Int32) (sc : Int32) (tm : Int32) (hd : Int32) (st : Int32) (x1 : Int32) (x2 : Int32) (x3 : Int32) (hi_x1 : vp_in x1 4) : Met l yX5_need (wsO yX5_need cX5_need 5 (some .int)) rm_X5_need (va_Pc [.ref h0, .int x1, .int x2, .int x3] (inW D (TYS cI cC cQ) (MO cI h0 a sv pa pn sn kp pd ln so po wr lt fr sc tm hd st) sz)) (va_Qi (fun (r : Int32) (_ : Unit) => r = sh_X5_need sv x1 x2 x3) (fun (u : Unit) => atW D (TYS cI cC cQ) (va_A (MO cI h0 a sv pa pn sn kp pd ln so po wr lt fr sc tm hd st) sz) (MO cI h0 a sv pa pn sn kp pd ln so po wr lt fr sc tm hd st)) (va_A (MO cI h0 a sv pa pn sn kp pd ln so po wr lt fr sc tm hd st) sz)) 0 0 (va_A (MO cI h0 a sv pa pn sn kp pd ln so po wr lt fr sc tm hd st) sz) := by
  refine k_meti .int rfl (by decide) (Nat.le_of_ble_eq_true rfl) ?_
  intro p e s m args below meth c A ls Q H locs hargs hret hx hb hts hown hml hname hN hA hS hP hK hD hl
  have hl : lv_has ls 5 [(0, .ref h0), (1, .int x1), (2, .int x2), (3, .int x3)] := hl
  obtain ⟨Xq, hX⟩ : ∃ Xq, Xq = sh_X5_need sv x1 x2 x3 := ⟨_, rfl⟩
  have hq : Xq = (kb (α := (Int32)) (if (sv (0 + x1).toNatClampNeg) = 0 then (x2 * x3) else (if (sv (0 + x1).toNatClampNeg) = 1 then (((x2 * x3) * 3) / 4) else (((x2 * x3) * 9) / 8))) (fun z_v4 => z_v4)) := hX
  refine lv_iload_n hx hb dX5_need_0 rfl (lv_at hl 2 rfl) ?_
  refine lv_iload_n hx hb dX5_need_1 rfl (lv_at hl 3 rfl) ?_
  refine lv_imul hx hb dX5_need_2 ?_
  refine lv_istore (lv' := [(4, .int (x2 * x3)), (0, .ref h0), (1, .int x1), (2, .int x2), (3, .int x3)]) hx hb dX5_need_3 hl (by decide) rfl (fun ls hl => ?_)
  refine lv_aload_n hx hb dX5_need_5 rfl (lv_at hl 1 rfl) ?_
  refine va_get (D := D) (ci := 5) (v := .ref (a 0)) (C := RX5) (T := TX5) (N := 16) hx hb hts inA5 hown hK hP 0 rfl rfl 0 (by decide) (hts _ wd_fl_RX5_7) (fun _ h9 => h9) rfl dX5_need_6 ?_
  refine lv_iconst (v := 0) hx hb dX5_need_9 (by decide) ?_
  refine lv_iload_n hx hb dX5_need_10 rfl (lv_at hl 2 rfl) ?_
  refine lv_iadd hx hb dX5_need_11 ?_
  refine va_iald hx hb hK hP 1 0 rfl rfl (vp_add hi_x1 (by decide) (by decide) (by decide)) dX5_need_12 ?_
  have K : ∀ (v4 : Int32) (H : Heap) (locs : List Loc) (ls : Array Slot), v4 = (if (sv (0 + x1).toNatClampNeg) = 0 then (x2 * x3) else (if (sv (0 + x1).toNatClampNeg) = 1 then (((x2 * x3) * 3) / 4) else (((x2 * x3) * 9) / 8))) → va_P D vwCl (MO cI h0 a sv pa pn sn kp pd ln so po wr lt fr sc tm hd st) H → va_D A (MO cI h0 a sv pa pn sn kp pd ln so po wr lt fr sc tm hd st) → va_S A s.heap H locs → lv_has ls 5 [(0, .ref h0), (1, .int x1), (2, .int x2), (3, .int x3), (4, .int (x2 * x3))] → W p l e rm_X5_need s m args below meth c H locs 0 0 Q (F0 m 50 ls [.int v4]) := by
    intro v4 H locs ls hv3 hP hD hS hl
    have hq := kb_to hq hv3
    exact hret _ _ _ _ (v4) () dX5_need_50 rfl (hq.symm.trans hX) hP hD hS
  refine lv_if_ne (tgt := 21) hx hb dX5_need_13 (by decide) (fun c1 => ?_) (fun c1 => ?_)
  · skip
    refine lv_aload_n hx hb dX5_need_21 rfl (lv_at hl 1 rfl) ?_
    refine va_get (D := D) (ci := 5) (v := .ref (a 0)) (C := RX5) (T := TX5) (N := 16) hx hb hts inA5 hown hK hP 0 rfl rfl 0 (by decide) (hts _ wd_fl_RX5_7) (fun _ h9 => h9) rfl dX5_need_22 ?_
    refine lv_iconst (v := 0) hx hb dX5_need_25 (by decide) ?_
    refine lv_iload_n hx hb dX5_need_26 rfl (lv_at hl 2 rfl) ?_
    refine lv_iadd hx hb dX5_need_27 ?_
    refine va_iald hx hb hK hP 1 0 rfl rfl (vp_add hi_x1 (by decide) (by decide) (by decide)) dX5_need_28 ?_
    refine lv_iconst (v := 1) hx hb dX5_need_29 (by decide) ?_
    refine lv_icmp_ne (tgt := 42) hx hb dX5_need_30 (by decide) (fun c2 => ?_) (fun c2 => ?_)
    · skip
      refine lv_iload hx hb dX5_need_42 (lv_at hl 0 rfl) ?_
      refine lv_bipush (v := 9) hx hb dX5_need_44 (by decide) ?_
      refine lv_imul hx hb dX5_need_46 ?_
      refine lv_bipush (v := 8) hx hb dX5_need_47 (by decide) ?_
      refine lv_idiv hx hb dX5_need_49 (by decide) ?_
      exact K ((((x2 * x3) * 9) / 8)) _ _ _ (by rw [if_neg c1, if_neg c2]) hP hD hS (lv_sub hl [1, 2, 3, 4, 0] rfl)
    · skip
      refine lv_iload hx hb dX5_need_33 (lv_at hl 0 rfl) ?_
      refine lv_iconst (v := 3) hx hb dX5_need_35 (by decide) ?_
      refine lv_imul hx hb dX5_need_36 ?_
      refine lv_iconst (v := 4) hx hb dX5_need_37 (by decide) ?_
      refine lv_idiv hx hb dX5_need_38 (by decide) ?_
      refine lv_goto (tgt := 50) hx hb dX5_need_39 (by decide) ?_
      exact K ((((x2 * x3) * 3) / 4)) _ _ _ (by rw [if_neg c1, if_pos c2]) hP hD hS (lv_sub hl [1, 2, 3, 4, 0] rfl)
  · skip
    refine lv_iload hx hb dX5_need_16 (lv_at hl 0 rfl) ?_
    refine lv_goto (tgt := 50) hx hb dX5_need_18 (by decide) ?_
    exact K ((x2 * x3)) _ _ _ (by rw [if_pos c1]) hP hD hS (lv_sub hl [1, 2, 3, 4, 0] rfl)
def sh_X5_counted (sv : Nat → Int32) (x1 : Int32) (x2 : Int32) : Int32 := (kb (α := (Int32)) (if (sv (0 + x1).toNatClampNeg) = 2 then (x2 * (sv (31 : Int32).toNatClampNeg)) else (sh_X5_need sv x1 x2 (sv (31 : Int32).toNatClampNeg))) (fun z_v6 => z_v6))
abbrev rm_X5_counted : Room := { frames := 1, cells := 0, slots := 0, locals := 24 }
theorem hd_X5_counted : hdT yX5_counted 2 := by decide +kernel
set_option maxHeartbeats 40000000 in
set_option maxRecDepth 100000 in
theorem c_X5_counted (l : Launch) (D : va_G) (cI cC cQ : ClassId) (sz : Nat) (h0 : Nat) (a : Nat → Nat) (sv : Nat → Int32) (pa : Nat → Int32) (pn : Int32) (sn : Nat → Int32) (kp : Int32) (pd : Nat → Int32) (ln : Int32) (so : Nat → Int32) (po : Int32) (wr : Int32) (lt : Int32) (fr : Int32) (sc : Int32) (tm : Int32) (hd : Int32) (st : Int32) (x1 : Int32) (x2 : Int32) (hi_x1 : vp_in x1 4) : Met l yX5_counted (wsO yX5_counted cX5_counted 3 (some .int)) rm_X5_counted (va_Pc [.ref h0, .int x1, .int x2] (inW D (TYS cI cC cQ) (MO cI h0 a sv pa pn sn kp pd ln so po wr lt fr sc tm hd st) sz)) (va_Qi (fun (r : Int32) (_ : Unit) => r = sh_X5_counted sv x1 x2) (fun (u : Unit) => atW D (TYS cI cC cQ) (va_A (MO cI h0 a sv pa pn sn kp pd ln so po wr lt fr sc tm hd st) sz) (MO cI h0 a sv pa pn sn kp pd ln so po wr lt fr sc tm hd st)) (va_A (MO cI h0 a sv pa pn sn kp pd ln so po wr lt fr sc tm hd st) sz)) 0 0 (va_A (MO cI h0 a sv pa pn sn kp pd ln so po wr lt fr sc tm hd st) sz) := by
  refine k_meti .int rfl (by decide) (Nat.le_of_ble_eq_true rfl) ?_
  intro p e s m args below meth c A ls Q H locs hargs hret hx hb hts hown hml hname hN hA hS hP hK hD hl
  have hl : lv_has ls 3 [(0, .ref h0), (1, .int x1), (2, .int x2)] := hl
  obtain ⟨Xq, hX⟩ : ∃ Xq, Xq = sh_X5_counted sv x1 x2 := ⟨_, rfl⟩
  have hq : Xq = (kb (α := (Int32)) (if (sv (0 + x1).toNatClampNeg) = 2 then (x2 * (sv (31 : Int32).toNatClampNeg)) else (sh_X5_need sv x1 x2 (sv (31 : Int32).toNatClampNeg))) (fun z_v6 => z_v6)) := hX
  refine lv_aload_n hx hb dX5_counted_0 rfl (lv_at hl 0 rfl) ?_
  refine va_get (D := D) (ci := 5) (v := .ref (a 0)) (C := RX5) (T := TX5) (N := 16) hx hb hts inA5 hown hK hP 0 rfl rfl 0 (by decide) (hts _ wd_fl_RX5_7) (fun _ h9 => h9) rfl dX5_counted_1 ?_
  refine lv_iconst (v := 0) hx hb dX5_counted_4 (by decide) ?_
  refine lv_iload_n hx hb dX5_counted_5 rfl (lv_at hl 1 rfl) ?_
  refine lv_iadd hx hb dX5_counted_6 ?_
  refine va_iald hx hb hK hP 1 0 rfl rfl (vp_add hi_x1 (by decide) (by decide) (by decide)) dX5_counted_7 ?_
  refine lv_iconst (v := 2) hx hb dX5_counted_8 (by decide) ?_
  have K : ∀ (v6 : Int32) (H : Heap) (locs : List Loc) (ls : Array Slot), v6 = (if (sv (0 + x1).toNatClampNeg) = 2 then (x2 * (sv (31 : Int32).toNatClampNeg)) else (sh_X5_need sv x1 x2 (sv (31 : Int32).toNatClampNeg))) → va_P D vwCl (MO cI h0 a sv pa pn sn kp pd ln so po wr lt fr sc tm hd st) H → va_D A (MO cI h0 a sv pa pn sn kp pd ln so po wr lt fr sc tm hd st) → va_S A s.heap H locs → lv_has ls 3 [(0, .ref h0), (1, .int x1), (2, .int x2)] → W p l e rm_X5_counted s m args below meth c H locs 0 0 Q (F0 m 37 ls [.int v6]) := by
    intro v6 H locs ls hv5 hP hD hS hl
    have hq := kb_to hq hv5
    exact hret _ _ _ _ (v6) () dX5_counted_37 rfl (hq.symm.trans hX) hP hD hS
  refine lv_icmp_ne (tgt := 24) hx hb dX5_counted_9 (by decide) (fun c1 => ?_) (fun c1 => ?_)
  · skip
    refine lv_aload_n hx hb dX5_counted_24 rfl (lv_at hl 0 rfl) ?_
    refine lv_iload_n hx hb dX5_counted_25 rfl (lv_at hl 1 rfl) ?_
    refine lv_iload_n hx hb dX5_counted_26 rfl (lv_at hl 2 rfl) ?_
    refine lv_aload_n hx hb dX5_counted_27 rfl (lv_at hl 0 rfl) ?_
    refine va_get (D := D) (ci := 5) (v := .ref (a 0)) (C := RX5) (T := TX5) (N := 16) hx hb hts inA5 hown hK hP 0 rfl rfl 0 (by decide) (hts _ wd_fl_RX5_7) (fun _ h9 => h9) rfl dX5_counted_28 ?_
    refine lv_bipush (v := 31) hx hb dX5_counted_31 (by decide) ?_
    refine va_iald hx hb hK hP 1 0 rfl rfl (k_in (by decide)) dX5_counted_33 ?_
    have hPs := k_self hP
    have hDs := k_selfD hD
    refine k_behi (X := []) (Y := []) (va_runV (As := [.int x1, .int x2, .int (sv (31 : Int32).toNatClampNeg)]) (rest := []) ⟨hx, hb, hml, hown, hts⟩ (c_X5_need l D cI cC cQ H.size h0 a sv pa pn sn kp pd ln so po wr lt fr sc tm hd st x1 x2 (sv (31 : Int32).toNatClampNeg) (hi_x1)) (kcwV hts wd_ml_RX5_33 wd_im_yX5_need wd_sel_yX5_need wd_ini_RX5 wd_code_yX5_need rfl rfl rfl hd_X5_need ⟨Nat.le_of_ble_eq_true rfl, Nat.le_of_ble_eq_true rfl⟩) ⟨in_blind, va_recv hK (pa_l (pa_r hPs)) (ci := 5) (q0 := 0) rfl rfl, k_pre hK (pa_l (pa_r hPs)) (da_l (da_r hDs)) hN⟩ rfl rfl hl.1 rfl (lv_room (Nat.le_of_ble_eq_true rfl)) dX5_counted_34 ⟨Nat.le_of_ble_eq_true rfl, Nat.le_of_ble_eq_true rfl⟩) hPs hDs hS hA (fun r2 u3 H locs hw4 hP hD hS => ?_)
    have hP := k_unP hP
    have hD := k_unD hD
    have hP : va_P D vwCl (MO cI h0 a sv pa pn sn kp pd ln so po wr lt fr sc tm hd st) H := hP
    have hD : va_D A (MO cI h0 a sv pa pn sn kp pd ln so po wr lt fr sc tm hd st) := hD
    have hw4 : r2 = (sh_X5_need sv x1 x2 (sv (31 : Int32).toNatClampNeg)) := hw4
    subst hw4
    exact K ((sh_X5_need sv x1 x2 (sv (31 : Int32).toNatClampNeg))) _ _ _ (by rw [if_neg c1]) hP hD hS (lv_sub hl [0, 1, 2] rfl)
  · skip
    refine lv_iload_n hx hb dX5_counted_12 rfl (lv_at hl 2 rfl) ?_
    refine lv_aload_n hx hb dX5_counted_13 rfl (lv_at hl 0 rfl) ?_
    refine va_get (D := D) (ci := 5) (v := .ref (a 0)) (C := RX5) (T := TX5) (N := 16) hx hb hts inA5 hown hK hP 0 rfl rfl 0 (by decide) (hts _ wd_fl_RX5_7) (fun _ h9 => h9) rfl dX5_counted_14 ?_
    refine lv_bipush (v := 31) hx hb dX5_counted_17 (by decide) ?_
    refine va_iald hx hb hK hP 1 0 rfl rfl (k_in (by decide)) dX5_counted_19 ?_
    refine lv_imul hx hb dX5_counted_20 ?_
    refine lv_goto (tgt := 37) hx hb dX5_counted_21 (by decide) ?_
    exact K ((x2 * (sv (31 : Int32).toNatClampNeg))) _ _ _ (by rw [if_pos c1]) hP hD hS (lv_sub hl [0, 1, 2] rfl)
def sh_X5_where (sv : Nat → Int32) (x1 : Int32) : Int32 := (if (sv (16 : Int32).toNatClampNeg) = x1 then (0 : Int32) else (if (sv (17 : Int32).toNatClampNeg) = x1 then (1 : Int32) else (-1 : Int32)))
abbrev rm_X5_where : Room := { frames := 0, cells := 0, slots := 0, locals := 0 }
theorem hd_X5_where : hdT yX5_where 1 := by decide +kernel
set_option maxHeartbeats 40000000 in
set_option maxRecDepth 100000 in
theorem c_X5_where (l : Launch) (D : va_G) (cI cC cQ : ClassId) (sz : Nat) (h0 : Nat) (a : Nat → Nat) (sv : Nat → Int32) (pa : Nat → Int32) (pn : Int32) (sn : Nat → Int32) (kp : Int32) (pd : Nat → Int32) (ln : Int32) (so : Nat → Int32) (po : Int32) (wr : Int32) (lt : Int32) (fr : Int32) (sc : Int32) (tm : Int32) (hd : Int32) (st : Int32) (x1 : Int32)  : Met l yX5_where (wsO yX5_where cX5_where 2 (some .int)) rm_X5_where (va_Pc [.ref h0, .int x1] (inW D (TYS cI cC cQ) (MO cI h0 a sv pa pn sn kp pd ln so po wr lt fr sc tm hd st) sz)) (va_Qi (fun (r : Int32) (_ : Unit) => r = sh_X5_where sv x1) (fun (u : Unit) => atW D (TYS cI cC cQ) (va_A (MO cI h0 a sv pa pn sn kp pd ln so po wr lt fr sc tm hd st) sz) (MO cI h0 a sv pa pn sn kp pd ln so po wr lt fr sc tm hd st)) (va_A (MO cI h0 a sv pa pn sn kp pd ln so po wr lt fr sc tm hd st) sz)) 0 0 (va_A (MO cI h0 a sv pa pn sn kp pd ln so po wr lt fr sc tm hd st) sz) := by
  refine k_meti .int rfl (by decide) (Nat.le_of_ble_eq_true rfl) ?_
  intro p e s m args below meth c A ls Q H locs hargs hret hx hb hts hown hml hname hN hA hS hP hK hD hl
  have hl : lv_has ls 2 [(0, .ref h0), (1, .int x1)] := hl
  obtain ⟨Xq, hX⟩ : ∃ Xq, Xq = sh_X5_where sv x1 := ⟨_, rfl⟩
  have hq : Xq = (if (sv (16 : Int32).toNatClampNeg) = x1 then (0 : Int32) else (if (sv (17 : Int32).toNatClampNeg) = x1 then (1 : Int32) else (-1 : Int32))) := hX
  refine lv_aload_n hx hb dX5_where_0 rfl (lv_at hl 0 rfl) ?_
  refine va_get (D := D) (ci := 5) (v := .ref (a 0)) (C := RX5) (T := TX5) (N := 16) hx hb hts inA5 hown hK hP 0 rfl rfl 0 (by decide) (hts _ wd_fl_RX5_7) (fun _ h9 => h9) rfl dX5_where_1 ?_
  refine lv_bipush (v := 16) hx hb dX5_where_4 (by decide) ?_
  refine va_iald hx hb hK hP 1 0 rfl rfl (k_in (by decide)) dX5_where_6 ?_
  refine lv_iload_n hx hb dX5_where_7 rfl (lv_at hl 1 rfl) ?_
  refine lv_icmp_ne (tgt := 15) hx hb dX5_where_8 (by decide) (fun c1 => ?_) (fun c1 => ?_)
  · have hq := it_neg hq c1
    refine lv_aload_n hx hb dX5_where_15 rfl (lv_at hl 0 rfl) ?_
    refine va_get (D := D) (ci := 5) (v := .ref (a 0)) (C := RX5) (T := TX5) (N := 16) hx hb hts inA5 hown hK hP 0 rfl rfl 0 (by decide) (hts _ wd_fl_RX5_7) (fun _ h9 => h9) rfl dX5_where_16 ?_
    refine lv_bipush (v := 17) hx hb dX5_where_19 (by decide) ?_
    refine va_iald hx hb hK hP 1 0 rfl rfl (k_in (by decide)) dX5_where_21 ?_
    refine lv_iload_n hx hb dX5_where_22 rfl (lv_at hl 1 rfl) ?_
    refine lv_icmp_ne (tgt := 30) hx hb dX5_where_23 (by decide) (fun c2 => ?_) (fun c2 => ?_)
    · have hq := it_neg hq c2
      refine lv_iconst (v := (-1)) hx hb dX5_where_30 (by decide) ?_
      exact hret _ _ _ _ ((-1)) () dX5_where_31 rfl (hq.symm.trans hX) hP hD hS
    · have hq := it_pos hq c2
      refine lv_iconst (v := 1) hx hb dX5_where_26 (by decide) ?_
      refine lv_goto (tgt := 31) hx hb dX5_where_27 (by decide) ?_
      exact hret _ _ _ _ (1) () dX5_where_31 rfl (hq.symm.trans hX) hP hD hS
  · have hq := it_pos hq c1
    refine lv_iconst (v := 0) hx hb dX5_where_11 (by decide) ?_
    refine lv_goto (tgt := 31) hx hb dX5_where_12 (by decide) ?_
    exact hret _ _ _ _ (0) () dX5_where_31 rfl (hq.symm.trans hX) hP hD hS
def sh_X5_tonerOf (sv : Nat → Int32) (x1 : Int32) : Int32 := ((sv (4 + x1).toNatClampNeg) + (sv (8 + x1).toNatClampNeg))
abbrev rm_X5_tonerOf : Room := { frames := 0, cells := 0, slots := 0, locals := 0 }
theorem hd_X5_tonerOf : hdT yX5_tonerOf 1 := by decide +kernel
set_option maxHeartbeats 40000000 in
set_option maxRecDepth 100000 in
theorem c_X5_tonerOf (l : Launch) (D : va_G) (cI cC cQ : ClassId) (sz : Nat) (h0 : Nat) (a : Nat → Nat) (sv : Nat → Int32) (pa : Nat → Int32) (pn : Int32) (sn : Nat → Int32) (kp : Int32) (pd : Nat → Int32) (ln : Int32) (so : Nat → Int32) (po : Int32) (wr : Int32) (lt : Int32) (fr : Int32) (sc : Int32) (tm : Int32) (hd : Int32) (st : Int32) (x1 : Int32) (hi_x1 : vp_in x1 4) : Met l yX5_tonerOf (wsO yX5_tonerOf cX5_tonerOf 2 (some .int)) rm_X5_tonerOf (va_Pc [.ref h0, .int x1] (inW D (TYS cI cC cQ) (MO cI h0 a sv pa pn sn kp pd ln so po wr lt fr sc tm hd st) sz)) (va_Qi (fun (r : Int32) (_ : Unit) => r = sh_X5_tonerOf sv x1) (fun (u : Unit) => atW D (TYS cI cC cQ) (va_A (MO cI h0 a sv pa pn sn kp pd ln so po wr lt fr sc tm hd st) sz) (MO cI h0 a sv pa pn sn kp pd ln so po wr lt fr sc tm hd st)) (va_A (MO cI h0 a sv pa pn sn kp pd ln so po wr lt fr sc tm hd st) sz)) 0 0 (va_A (MO cI h0 a sv pa pn sn kp pd ln so po wr lt fr sc tm hd st) sz) := by
  refine k_meti .int rfl (by decide) (Nat.le_of_ble_eq_true rfl) ?_
  intro p e s m args below meth c A ls Q H locs hargs hret hx hb hts hown hml hname hN hA hS hP hK hD hl
  have hl : lv_has ls 2 [(0, .ref h0), (1, .int x1)] := hl
  obtain ⟨Xq, hX⟩ : ∃ Xq, Xq = sh_X5_tonerOf sv x1 := ⟨_, rfl⟩
  have hq : Xq = ((sv (4 + x1).toNatClampNeg) + (sv (8 + x1).toNatClampNeg)) := hX
  refine lv_aload_n hx hb dX5_tonerOf_0 rfl (lv_at hl 0 rfl) ?_
  refine va_get (D := D) (ci := 5) (v := .ref (a 0)) (C := RX5) (T := TX5) (N := 16) hx hb hts inA5 hown hK hP 0 rfl rfl 0 (by decide) (hts _ wd_fl_RX5_7) (fun _ h9 => h9) rfl dX5_tonerOf_1 ?_
  refine lv_iconst (v := 4) hx hb dX5_tonerOf_4 (by decide) ?_
  refine lv_iload_n hx hb dX5_tonerOf_5 rfl (lv_at hl 1 rfl) ?_
  refine lv_iadd hx hb dX5_tonerOf_6 ?_
  refine va_iald hx hb hK hP 1 0 rfl rfl (vp_add hi_x1 (by decide) (by decide) (by decide)) dX5_tonerOf_7 ?_
  refine lv_aload_n hx hb dX5_tonerOf_8 rfl (lv_at hl 0 rfl) ?_
  refine va_get (D := D) (ci := 5) (v := .ref (a 0)) (C := RX5) (T := TX5) (N := 16) hx hb hts inA5 hown hK hP 0 rfl rfl 0 (by decide) (hts _ wd_fl_RX5_7) (fun _ h9 => h9) rfl dX5_tonerOf_9 ?_
  refine lv_bipush (v := 8) hx hb dX5_tonerOf_12 (by decide) ?_
  refine lv_iload_n hx hb dX5_tonerOf_14 rfl (lv_at hl 1 rfl) ?_
  refine lv_iadd hx hb dX5_tonerOf_15 ?_
  refine va_iald hx hb hK hP 1 0 rfl rfl (vp_add hi_x1 (by decide) (by decide) (by decide)) dX5_tonerOf_16 ?_
  refine lv_iadd hx hb dX5_tonerOf_17 ?_
  exact hret _ _ _ _ (((sv (4 + x1).toNatClampNeg) + (sv (8 + x1).toNatClampNeg))) () dX5_tonerOf_18 rfl (hq.symm.trans hX) hP hD hS
def sh_X5_toner (sv : Nat → Int32) : Int32 := ((((0 + (sh_X5_tonerOf sv 0)) + (sh_X5_tonerOf sv 1)) + (sh_X5_tonerOf sv 2)) + (sh_X5_tonerOf sv 3))
abbrev rm_X5_toner : Room := { frames := 1, cells := 0, slots := 0, locals := 21 }
theorem hd_X5_toner : hdT yX5_toner 0 := by decide +kernel
set_option maxHeartbeats 40000000 in
set_option maxRecDepth 100000 in
theorem c_X5_toner (l : Launch) (D : va_G) (cI cC cQ : ClassId) (sz : Nat) (h0 : Nat) (a : Nat → Nat) (sv : Nat → Int32) (pa : Nat → Int32) (pn : Int32) (sn : Nat → Int32) (kp : Int32) (pd : Nat → Int32) (ln : Int32) (so : Nat → Int32) (po : Int32) (wr : Int32) (lt : Int32) (fr : Int32) (sc : Int32) (tm : Int32) (hd : Int32) (st : Int32)   : Met l yX5_toner (wsO yX5_toner cX5_toner 3 (some .int)) rm_X5_toner (va_Pc [.ref h0] (inW D (TYS cI cC cQ) (MO cI h0 a sv pa pn sn kp pd ln so po wr lt fr sc tm hd st) sz)) (va_Qi (fun (r : Int32) (_ : Unit) => r = sh_X5_toner sv) (fun (u : Unit) => atW D (TYS cI cC cQ) (va_A (MO cI h0 a sv pa pn sn kp pd ln so po wr lt fr sc tm hd st) sz) (MO cI h0 a sv pa pn sn kp pd ln so po wr lt fr sc tm hd st)) (va_A (MO cI h0 a sv pa pn sn kp pd ln so po wr lt fr sc tm hd st) sz)) 0 0 (va_A (MO cI h0 a sv pa pn sn kp pd ln so po wr lt fr sc tm hd st) sz) := by
  refine k_meti .int rfl (by decide) (Nat.le_of_ble_eq_true rfl) ?_
  intro p e s m args below meth c A ls Q H locs hargs hret hx hb hts hown hml hname hN hA hS hP hK hD hl
  have hl : lv_has ls 3 [(0, .ref h0)] := hl
  obtain ⟨Xq, hX⟩ : ∃ Xq, Xq = sh_X5_toner sv := ⟨_, rfl⟩
  have hq : Xq = ((((0 + (sh_X5_tonerOf sv 0)) + (sh_X5_tonerOf sv 1)) + (sh_X5_tonerOf sv 2)) + (sh_X5_tonerOf sv 3)) := hX
  refine lv_iconst (v := 0) hx hb dX5_toner_0 (by decide) ?_
  refine lv_istore_n (lv' := [(1, .int 0), (0, .ref h0)]) hx hb dX5_toner_1 rfl hl (by decide) rfl (fun ls hl => ?_)
  refine lv_iconst (v := 0) hx hb dX5_toner_2 (by decide) ?_
  refine lv_istore_n (lv' := [(2, .int 0), (1, .int 0), (0, .ref h0)]) hx hb dX5_toner_3 rfl hl (by decide) rfl (fun ls hl => ?_)
  refine lv_iload_n hx hb dX5_toner_4 rfl (lv_at hl 0 rfl) ?_
  refine lv_iconst (v := 4) hx hb dX5_toner_5 (by decide) ?_
  refine lv_icmp_ge (tgt := 23) hx hb dX5_toner_6 (by decide) (fun c9 => absurd c9 (by decide)) (fun _ => ?_)
  refine lv_iload_n hx hb dX5_toner_9 rfl (lv_at hl 1 rfl) ?_
  refine lv_aload_n hx hb dX5_toner_10 rfl (lv_at hl 2 rfl) ?_
  refine lv_iload_n hx hb dX5_toner_11 rfl (lv_at hl 0 rfl) ?_
  have hPs := k_self hP
  have hDs := k_selfD hD
  refine k_behi (X := []) (Y := []) (va_runV (As := [.int 0]) (rest := [.int 0]) ⟨hx, hb, hml, hown, hts⟩ (c_X5_tonerOf l D cI cC cQ H.size h0 a sv pa pn sn kp pd ln so po wr lt fr sc tm hd st 0 ((k_in (by decide)))) (kcwV hts wd_ml_RX5_37 wd_im_yX5_tonerOf wd_sel_yX5_tonerOf wd_ini_RX5 wd_code_yX5_tonerOf rfl rfl rfl hd_X5_tonerOf ⟨Nat.le_of_ble_eq_true rfl, Nat.le_of_ble_eq_true rfl⟩) ⟨in_blind, va_recv hK (pa_l (pa_r hPs)) (ci := 5) (q0 := 0) rfl rfl, k_pre hK (pa_l (pa_r hPs)) (da_l (da_r hDs)) hN⟩ rfl rfl hl.1 rfl (lv_room (Nat.le_of_ble_eq_true rfl)) dX5_toner_12 ⟨Nat.le_of_ble_eq_true rfl, Nat.le_of_ble_eq_true rfl⟩) hPs hDs hS hA (fun r1 u2 H locs hw3 hP hD hS => ?_)
  have hP := k_unP hP
  have hD := k_unD hD
  have hP : va_P D vwCl (MO cI h0 a sv pa pn sn kp pd ln so po wr lt fr sc tm hd st) H := hP
  have hD : va_D A (MO cI h0 a sv pa pn sn kp pd ln so po wr lt fr sc tm hd st) := hD
  have hw3 : r1 = (sh_X5_tonerOf sv 0) := hw3
  subst hw3
  refine lv_iadd hx hb dX5_toner_15 ?_
  refine lv_istore_n (lv' := [(1, .int (0 + (sh_X5_tonerOf sv 0))), (2, .int 0), (0, .ref h0)]) hx hb dX5_toner_16 rfl hl (by decide) rfl (fun ls hl => ?_)
  refine lv_iinc (v := 1) (lv' := [(2, .int 1), (1, .int (0 + (sh_X5_tonerOf sv 0))), (0, .ref h0)]) hx hb dX5_toner_17 hl (k := 1) rfl (by decide) (by decide) rfl (fun ls hl => ?_)
  refine lv_goto (tgt := 4) hx hb dX5_toner_20 (by decide) ?_
  refine lv_iload_n hx hb dX5_toner_4 rfl (lv_at hl 0 rfl) ?_
  refine lv_iconst (v := 4) hx hb dX5_toner_5 (by decide) ?_
  refine lv_icmp_ge (tgt := 23) hx hb dX5_toner_6 (by decide) (fun c9 => absurd c9 (by decide)) (fun _ => ?_)
  refine lv_iload_n hx hb dX5_toner_9 rfl (lv_at hl 1 rfl) ?_
  refine lv_aload_n hx hb dX5_toner_10 rfl (lv_at hl 2 rfl) ?_
  refine lv_iload_n hx hb dX5_toner_11 rfl (lv_at hl 0 rfl) ?_
  have hPs := k_self hP
  have hDs := k_selfD hD
  refine k_behi (X := []) (Y := []) (va_runV (As := [.int 1]) (rest := [.int (0 + (sh_X5_tonerOf sv 0))]) ⟨hx, hb, hml, hown, hts⟩ (c_X5_tonerOf l D cI cC cQ H.size h0 a sv pa pn sn kp pd ln so po wr lt fr sc tm hd st 1 ((k_in (by decide)))) (kcwV hts wd_ml_RX5_37 wd_im_yX5_tonerOf wd_sel_yX5_tonerOf wd_ini_RX5 wd_code_yX5_tonerOf rfl rfl rfl hd_X5_tonerOf ⟨Nat.le_of_ble_eq_true rfl, Nat.le_of_ble_eq_true rfl⟩) ⟨in_blind, va_recv hK (pa_l (pa_r hPs)) (ci := 5) (q0 := 0) rfl rfl, k_pre hK (pa_l (pa_r hPs)) (da_l (da_r hDs)) hN⟩ rfl rfl hl.1 rfl (lv_room (Nat.le_of_ble_eq_true rfl)) dX5_toner_12 ⟨Nat.le_of_ble_eq_true rfl, Nat.le_of_ble_eq_true rfl⟩) hPs hDs hS hA (fun r4 u5 H locs hw6 hP hD hS => ?_)
  have hP := k_unP hP
  have hD := k_unD hD
  have hP : va_P D vwCl (MO cI h0 a sv pa pn sn kp pd ln so po wr lt fr sc tm hd st) H := hP
  have hD : va_D A (MO cI h0 a sv pa pn sn kp pd ln so po wr lt fr sc tm hd st) := hD
  have hw6 : r4 = (sh_X5_tonerOf sv 1) := hw6
  subst hw6
  refine lv_iadd hx hb dX5_toner_15 ?_
  refine lv_istore_n (lv' := [(1, .int ((0 + (sh_X5_tonerOf sv 0)) + (sh_X5_tonerOf sv 1))), (2, .int 1), (0, .ref h0)]) hx hb dX5_toner_16 rfl hl (by decide) rfl (fun ls hl => ?_)
  refine lv_iinc (v := 2) (lv' := [(2, .int 2), (1, .int ((0 + (sh_X5_tonerOf sv 0)) + (sh_X5_tonerOf sv 1))), (0, .ref h0)]) hx hb dX5_toner_17 hl (k := 1) rfl (by decide) (by decide) rfl (fun ls hl => ?_)
  refine lv_goto (tgt := 4) hx hb dX5_toner_20 (by decide) ?_
  refine lv_iload_n hx hb dX5_toner_4 rfl (lv_at hl 0 rfl) ?_
  refine lv_iconst (v := 4) hx hb dX5_toner_5 (by decide) ?_
  refine lv_icmp_ge (tgt := 23) hx hb dX5_toner_6 (by decide) (fun c9 => absurd c9 (by decide)) (fun _ => ?_)
  refine lv_iload_n hx hb dX5_toner_9 rfl (lv_at hl 1 rfl) ?_
  refine lv_aload_n hx hb dX5_toner_10 rfl (lv_at hl 2 rfl) ?_
  refine lv_iload_n hx hb dX5_toner_11 rfl (lv_at hl 0 rfl) ?_
  have hPs := k_self hP
  have hDs := k_selfD hD
  refine k_behi (X := []) (Y := []) (va_runV (As := [.int 2]) (rest := [.int ((0 + (sh_X5_tonerOf sv 0)) + (sh_X5_tonerOf sv 1))]) ⟨hx, hb, hml, hown, hts⟩ (c_X5_tonerOf l D cI cC cQ H.size h0 a sv pa pn sn kp pd ln so po wr lt fr sc tm hd st 2 ((k_in (by decide)))) (kcwV hts wd_ml_RX5_37 wd_im_yX5_tonerOf wd_sel_yX5_tonerOf wd_ini_RX5 wd_code_yX5_tonerOf rfl rfl rfl hd_X5_tonerOf ⟨Nat.le_of_ble_eq_true rfl, Nat.le_of_ble_eq_true rfl⟩) ⟨in_blind, va_recv hK (pa_l (pa_r hPs)) (ci := 5) (q0 := 0) rfl rfl, k_pre hK (pa_l (pa_r hPs)) (da_l (da_r hDs)) hN⟩ rfl rfl hl.1 rfl (lv_room (Nat.le_of_ble_eq_true rfl)) dX5_toner_12 ⟨Nat.le_of_ble_eq_true rfl, Nat.le_of_ble_eq_true rfl⟩) hPs hDs hS hA (fun r7 u8 H locs hw9 hP hD hS => ?_)
  have hP := k_unP hP
  have hD := k_unD hD
  have hP : va_P D vwCl (MO cI h0 a sv pa pn sn kp pd ln so po wr lt fr sc tm hd st) H := hP
  have hD : va_D A (MO cI h0 a sv pa pn sn kp pd ln so po wr lt fr sc tm hd st) := hD
  have hw9 : r7 = (sh_X5_tonerOf sv 2) := hw9
  subst hw9
  refine lv_iadd hx hb dX5_toner_15 ?_
  refine lv_istore_n (lv' := [(1, .int (((0 + (sh_X5_tonerOf sv 0)) + (sh_X5_tonerOf sv 1)) + (sh_X5_tonerOf sv 2))), (2, .int 2), (0, .ref h0)]) hx hb dX5_toner_16 rfl hl (by decide) rfl (fun ls hl => ?_)
  refine lv_iinc (v := 3) (lv' := [(2, .int 3), (1, .int (((0 + (sh_X5_tonerOf sv 0)) + (sh_X5_tonerOf sv 1)) + (sh_X5_tonerOf sv 2))), (0, .ref h0)]) hx hb dX5_toner_17 hl (k := 1) rfl (by decide) (by decide) rfl (fun ls hl => ?_)
  refine lv_goto (tgt := 4) hx hb dX5_toner_20 (by decide) ?_
  refine lv_iload_n hx hb dX5_toner_4 rfl (lv_at hl 0 rfl) ?_
  refine lv_iconst (v := 4) hx hb dX5_toner_5 (by decide) ?_
  refine lv_icmp_ge (tgt := 23) hx hb dX5_toner_6 (by decide) (fun c9 => absurd c9 (by decide)) (fun _ => ?_)
  refine lv_iload_n hx hb dX5_toner_9 rfl (lv_at hl 1 rfl) ?_
  refine lv_aload_n hx hb dX5_toner_10 rfl (lv_at hl 2 rfl) ?_
  refine lv_iload_n hx hb dX5_toner_11 rfl (lv_at hl 0 rfl) ?_
  have hPs := k_self hP
  have hDs := k_selfD hD
  refine k_behi (X := []) (Y := []) (va_runV (As := [.int 3]) (rest := [.int (((0 + (sh_X5_tonerOf sv 0)) + (sh_X5_tonerOf sv 1)) + (sh_X5_tonerOf sv 2))]) ⟨hx, hb, hml, hown, hts⟩ (c_X5_tonerOf l D cI cC cQ H.size h0 a sv pa pn sn kp pd ln so po wr lt fr sc tm hd st 3 ((k_in (by decide)))) (kcwV hts wd_ml_RX5_37 wd_im_yX5_tonerOf wd_sel_yX5_tonerOf wd_ini_RX5 wd_code_yX5_tonerOf rfl rfl rfl hd_X5_tonerOf ⟨Nat.le_of_ble_eq_true rfl, Nat.le_of_ble_eq_true rfl⟩) ⟨in_blind, va_recv hK (pa_l (pa_r hPs)) (ci := 5) (q0 := 0) rfl rfl, k_pre hK (pa_l (pa_r hPs)) (da_l (da_r hDs)) hN⟩ rfl rfl hl.1 rfl (lv_room (Nat.le_of_ble_eq_true rfl)) dX5_toner_12 ⟨Nat.le_of_ble_eq_true rfl, Nat.le_of_ble_eq_true rfl⟩) hPs hDs hS hA (fun r10 u11 H locs hw12 hP hD hS => ?_)
  have hP := k_unP hP
  have hD := k_unD hD
  have hP : va_P D vwCl (MO cI h0 a sv pa pn sn kp pd ln so po wr lt fr sc tm hd st) H := hP
  have hD : va_D A (MO cI h0 a sv pa pn sn kp pd ln so po wr lt fr sc tm hd st) := hD
  have hw12 : r10 = (sh_X5_tonerOf sv 3) := hw12
  subst hw12
  refine lv_iadd hx hb dX5_toner_15 ?_
  refine lv_istore_n (lv' := [(1, .int ((((0 + (sh_X5_tonerOf sv 0)) + (sh_X5_tonerOf sv 1)) + (sh_X5_tonerOf sv 2)) + (sh_X5_tonerOf sv 3))), (2, .int 3), (0, .ref h0)]) hx hb dX5_toner_16 rfl hl (by decide) rfl (fun ls hl => ?_)
  refine lv_iinc (v := 4) (lv' := [(2, .int 4), (1, .int ((((0 + (sh_X5_tonerOf sv 0)) + (sh_X5_tonerOf sv 1)) + (sh_X5_tonerOf sv 2)) + (sh_X5_tonerOf sv 3))), (0, .ref h0)]) hx hb dX5_toner_17 hl (k := 1) rfl (by decide) (by decide) rfl (fun ls hl => ?_)
  refine lv_goto (tgt := 4) hx hb dX5_toner_20 (by decide) ?_
  refine lv_iload_n hx hb dX5_toner_4 rfl (lv_at hl 0 rfl) ?_
  refine lv_iconst (v := 4) hx hb dX5_toner_5 (by decide) ?_
  refine lv_icmp_ge (tgt := 23) hx hb dX5_toner_6 (by decide) (fun _ => ?_) (fun c9 => absurd c9 (by decide))
  refine lv_iload_n hx hb dX5_toner_23 rfl (lv_at hl 1 rfl) ?_
  exact hret _ _ _ _ (((((0 + (sh_X5_tonerOf sv 0)) + (sh_X5_tonerOf sv 1)) + (sh_X5_tonerOf sv 2)) + (sh_X5_tonerOf sv 3))) () dX5_toner_24 rfl (hq.symm.trans hX) hP hD hS
def sh_X5_shakes (sv : Nat → Int32) (x1 : Int32) : Int32 × (Nat → Int32) := (kb (α := Nat → Int32) (upd sv (8 + x1).toNatClampNeg ((sv (8 + x1).toNatClampNeg) - ((sv (8 + x1).toNatClampNeg) / 2))) (fun z_f1 => (kb (α := Nat → Int32) (upd z_f1 (4 + x1).toNatClampNeg ((z_f1 (4 + x1).toNatClampNeg) + ((sv (8 + x1).toNatClampNeg) / 2))) (fun z_f3 => (((sv (8 + x1).toNatClampNeg) / 2), z_f3)))))
abbrev rm_X5_shakes : Room := { frames := 0, cells := 0, slots := 0, locals := 0 }
theorem hd_X5_shakes : hdT yX5_shakes 1 := by decide +kernel
set_option maxHeartbeats 40000000 in
set_option maxRecDepth 100000 in
theorem c_X5_shakes (l : Launch) (D : va_G) (cI cC cQ : ClassId) (sz : Nat) (h0 : Nat) (a : Nat → Nat) (sv : Nat → Int32) (pa : Nat → Int32) (pn : Int32) (sn : Nat → Int32) (kp : Int32) (pd : Nat → Int32) (ln : Int32) (so : Nat → Int32) (po : Int32) (wr : Int32) (lt : Int32) (fr : Int32) (sc : Int32) (tm : Int32) (hd : Int32) (st : Int32) (x1 : Int32) (hi_x1 : vp_in x1 4) : Met l yX5_shakes (wsO yX5_shakes cX5_shakes 3 (some .int)) rm_X5_shakes (va_Pc [.ref h0, .int x1] (inW D (TYS cI cC cQ) (MO cI h0 a sv pa pn sn kp pd ln so po wr lt fr sc tm hd st) sz)) (va_Qi (fun (r : Int32) (u : (Nat → Int32)) => (r, u) = sh_X5_shakes sv x1) (fun (u : (Nat → Int32)) => atW D (TYS cI cC cQ) (va_A (MO cI h0 a sv pa pn sn kp pd ln so po wr lt fr sc tm hd st) sz) (MO cI h0 a u pa pn sn kp pd ln so po wr lt fr sc tm hd st)) (va_A (MO cI h0 a sv pa pn sn kp pd ln so po wr lt fr sc tm hd st) sz)) 0 0 (va_A (MO cI h0 a sv pa pn sn kp pd ln so po wr lt fr sc tm hd st) sz) := by
  refine k_meti .int rfl (by decide) (Nat.le_of_ble_eq_true rfl) ?_
  intro p e s m args below meth c A ls Q H locs hargs hret hx hb hts hown hml hname hN hA hS hP hK hD hl
  have hl : lv_has ls 3 [(0, .ref h0), (1, .int x1)] := hl
  obtain ⟨Xq, hX⟩ : ∃ Xq, Xq = sh_X5_shakes sv x1 := ⟨_, rfl⟩
  have hq : Xq = (kb (α := Nat → Int32) (upd sv (8 + x1).toNatClampNeg ((sv (8 + x1).toNatClampNeg) - ((sv (8 + x1).toNatClampNeg) / 2))) (fun z_f1 => (kb (α := Nat → Int32) (upd z_f1 (4 + x1).toNatClampNeg ((z_f1 (4 + x1).toNatClampNeg) + ((sv (8 + x1).toNatClampNeg) / 2))) (fun z_f3 => (((sv (8 + x1).toNatClampNeg) / 2), z_f3))))) := hX
  refine lv_aload_n hx hb dX5_shakes_0 rfl (lv_at hl 0 rfl) ?_
  refine va_get (D := D) (ci := 5) (v := .ref (a 0)) (C := RX5) (T := TX5) (N := 16) hx hb hts inA5 hown hK hP 0 rfl rfl 0 (by decide) (hts _ wd_fl_RX5_7) (fun _ h9 => h9) rfl dX5_shakes_1 ?_
  refine lv_bipush (v := 8) hx hb dX5_shakes_4 (by decide) ?_
  refine lv_iload_n hx hb dX5_shakes_6 rfl (lv_at hl 1 rfl) ?_
  refine lv_iadd hx hb dX5_shakes_7 ?_
  refine va_iald hx hb hK hP 1 0 rfl rfl (vp_add hi_x1 (by decide) (by decide) (by decide)) dX5_shakes_8 ?_
  refine lv_iconst (v := 2) hx hb dX5_shakes_9 (by decide) ?_
  refine lv_idiv hx hb dX5_shakes_10 (by decide) ?_
  refine lv_istore_n (lv' := [(2, .int ((sv (8 + x1).toNatClampNeg) / 2)), (0, .ref h0), (1, .int x1)]) hx hb dX5_shakes_11 rfl hl (by decide) rfl (fun ls hl => ?_)
  refine lv_aload_n hx hb dX5_shakes_12 rfl (lv_at hl 1 rfl) ?_
  refine va_get (D := D) (ci := 5) (v := .ref (a 0)) (C := RX5) (T := TX5) (N := 16) hx hb hts inA5 hown hK hP 0 rfl rfl 0 (by decide) (hts _ wd_fl_RX5_7) (fun _ h9 => h9) rfl dX5_shakes_13 ?_
  refine lv_bipush (v := 8) hx hb dX5_shakes_16 (by decide) ?_
  refine lv_iload_n hx hb dX5_shakes_18 rfl (lv_at hl 2 rfl) ?_
  refine lv_iadd hx hb dX5_shakes_19 ?_
  refine lv_dup2_11 hx hb dX5_shakes_20 rfl rfl ?_
  refine va_iald hx hb hK hP 1 0 rfl rfl (vp_add hi_x1 (by decide) (by decide) (by decide)) dX5_shakes_21 ?_
  refine lv_iload_n hx hb dX5_shakes_22 rfl (lv_at hl 0 rfl) ?_
  refine lv_isub hx hb dX5_shakes_23 ?_
  refine va_iast hx hb hK hP hD hS 1 0 rfl rfl (vp_add hi_x1 (by decide) (by decide) (by decide)) dX5_shakes_24 (fun H locs hP hD hS => ?_)
  have hP : va_P D vwCl (MO cI h0 a (upd sv (8 + x1).toNatClampNeg ((sv (8 + x1).toNatClampNeg) - ((sv (8 + x1).toNatClampNeg) / 2))) pa pn sn kp pd ln so po wr lt fr sc tm hd st) H := hP
  have hD : va_D A (MO cI h0 a (upd sv (8 + x1).toNatClampNeg ((sv (8 + x1).toNatClampNeg) - ((sv (8 + x1).toNatClampNeg) / 2))) pa pn sn kp pd ln so po wr lt fr sc tm hd st) := hD
  obtain ⟨f1, hf2⟩ : ∃ z : Nat → Int32, z = (upd sv (8 + x1).toNatClampNeg ((sv (8 + x1).toNatClampNeg) - ((sv (8 + x1).toNatClampNeg) / 2))) := ⟨_, rfl⟩
  have hP : va_P D vwCl (MO cI h0 a f1 pa pn sn kp pd ln so po wr lt fr sc tm hd st) H := by rw [hf2]; exact hP
  have hD : va_D A (MO cI h0 a f1 pa pn sn kp pd ln so po wr lt fr sc tm hd st) := by rw [hf2]; exact hD
  have hq := kb_to hq hf2
  refine lv_aload_n hx hb dX5_shakes_25 rfl (lv_at hl 1 rfl) ?_
  refine va_get (D := D) (ci := 5) (v := .ref (a 0)) (C := RX5) (T := TX5) (N := 16) hx hb hts inA5 hown hK hP 0 rfl rfl 0 (by decide) (hts _ wd_fl_RX5_7) (fun _ h9 => h9) rfl dX5_shakes_26 ?_
  refine lv_iconst (v := 4) hx hb dX5_shakes_29 (by decide) ?_
  refine lv_iload_n hx hb dX5_shakes_30 rfl (lv_at hl 2 rfl) ?_
  refine lv_iadd hx hb dX5_shakes_31 ?_
  refine lv_dup2_11 hx hb dX5_shakes_32 rfl rfl ?_
  refine va_iald hx hb hK hP 1 0 rfl rfl (vp_add hi_x1 (by decide) (by decide) (by decide)) dX5_shakes_33 ?_
  refine lv_iload_n hx hb dX5_shakes_34 rfl (lv_at hl 0 rfl) ?_
  refine lv_iadd hx hb dX5_shakes_35 ?_
  refine va_iast hx hb hK hP hD hS 1 0 rfl rfl (vp_add hi_x1 (by decide) (by decide) (by decide)) dX5_shakes_36 (fun H locs hP hD hS => ?_)
  have hP : va_P D vwCl (MO cI h0 a (upd f1 (4 + x1).toNatClampNeg ((f1 (4 + x1).toNatClampNeg) + ((sv (8 + x1).toNatClampNeg) / 2))) pa pn sn kp pd ln so po wr lt fr sc tm hd st) H := hP
  have hD : va_D A (MO cI h0 a (upd f1 (4 + x1).toNatClampNeg ((f1 (4 + x1).toNatClampNeg) + ((sv (8 + x1).toNatClampNeg) / 2))) pa pn sn kp pd ln so po wr lt fr sc tm hd st) := hD
  obtain ⟨f3, hf4⟩ : ∃ z : Nat → Int32, z = (upd f1 (4 + x1).toNatClampNeg ((f1 (4 + x1).toNatClampNeg) + ((sv (8 + x1).toNatClampNeg) / 2))) := ⟨_, rfl⟩
  have hP : va_P D vwCl (MO cI h0 a f3 pa pn sn kp pd ln so po wr lt fr sc tm hd st) H := by rw [hf4]; exact hP
  have hD : va_D A (MO cI h0 a f3 pa pn sn kp pd ln so po wr lt fr sc tm hd st) := by rw [hf4]; exact hD
  have hq := kb_to hq hf4
  refine lv_iload_n hx hb dX5_shakes_37 rfl (lv_at hl 0 rfl) ?_
  exact hret _ _ _ _ (((sv (8 + x1).toNatClampNeg) / 2)) f3 dX5_shakes_38 rfl (hq.symm.trans hX) hP hD hS
def sh_X5_clear (ln : Int32) : Int32 × (Int32) := (ln, (0 : Int32))
abbrev rm_X5_clear : Room := { frames := 0, cells := 0, slots := 0, locals := 0 }
theorem hd_X5_clear : hdT yX5_clear 0 := by decide +kernel
set_option maxHeartbeats 40000000 in
set_option maxRecDepth 100000 in
theorem c_X5_clear (l : Launch) (D : va_G) (cI cC cQ : ClassId) (sz : Nat) (h0 : Nat) (a : Nat → Nat) (sv : Nat → Int32) (pa : Nat → Int32) (pn : Int32) (sn : Nat → Int32) (kp : Int32) (pd : Nat → Int32) (ln : Int32) (so : Nat → Int32) (po : Int32) (wr : Int32) (lt : Int32) (fr : Int32) (sc : Int32) (tm : Int32) (hd : Int32) (st : Int32)   : Met l yX5_clear (wsO yX5_clear cX5_clear 2 (some .int)) rm_X5_clear (va_Pc [.ref h0] (inW D (TYS cI cC cQ) (MO cI h0 a sv pa pn sn kp pd ln so po wr lt fr sc tm hd st) sz)) (va_Qi (fun (r : Int32) (u : (Int32)) => (r, u) = sh_X5_clear ln) (fun (u : (Int32)) => atW D (TYS cI cC cQ) (va_A (MO cI h0 a sv pa pn sn kp pd ln so po wr lt fr sc tm hd st) sz) (MO cI h0 a sv pa pn sn kp pd u so po wr lt fr sc tm hd st)) (va_A (MO cI h0 a sv pa pn sn kp pd ln so po wr lt fr sc tm hd st) sz)) 0 0 (va_A (MO cI h0 a sv pa pn sn kp pd ln so po wr lt fr sc tm hd st) sz) := by
  refine k_meti .int rfl (by decide) (Nat.le_of_ble_eq_true rfl) ?_
  intro p e s m args below meth c A ls Q H locs hargs hret hx hb hts hown hml hname hN hA hS hP hK hD hl
  have hl : lv_has ls 2 [(0, .ref h0)] := hl
  obtain ⟨Xq, hX⟩ : ∃ Xq, Xq = sh_X5_clear ln := ⟨_, rfl⟩
  have hq : Xq = (ln, (0 : Int32)) := hX
  refine lv_aload_n hx hb dX5_clear_0 rfl (lv_at hl 0 rfl) ?_
  refine va_get (D := D) (ci := 5) (v := .int ln) (C := RX5) (T := TX5) (N := 16) hx hb hts inA5 hown hK hP 0 rfl rfl 6 (by decide) (hts _ wd_fl_RX5_82) (fun _ h9 => h9) rfl dX5_clear_1 ?_
  refine lv_istore_n (lv' := [(1, .int ln), (0, .ref h0)]) hx hb dX5_clear_4 rfl hl (by decide) rfl (fun ls hl => ?_)
  refine lv_aload_n hx hb dX5_clear_5 rfl (lv_at hl 1 rfl) ?_
  refine lv_iconst (v := 0) hx hb dX5_clear_6 (by decide) ?_
  refine va_put (D := D) (ci := 5) (v := .int 0) (ty := .int) (C := RX5) (T := TX5) (N := 16) hx hb hts inA5 tyX5 tyX5_ok nmX5 hown hK hP hD hS 0 rfl rfl 6 (by decide) (hts _ wd_fl_RX5_82) (fun _ h9 => h9) rfl (by decide +kernel) rfl rfl (Nat.le_of_ble_eq_true rfl) dX5_clear_7 (fun H locs hP hD hS => ?_)
  have hP : va_P D vwCl (MO cI h0 a sv pa pn sn kp pd 0 so po wr lt fr sc tm hd st) H := hP
  have hD : va_D A (MO cI h0 a sv pa pn sn kp pd 0 so po wr lt fr sc tm hd st) := hD
  refine lv_iload_n hx hb dX5_clear_10 rfl (lv_at hl 0 rfl) ?_
  exact hret _ _ _ _ (ln) 0 dX5_clear_11 rfl (hq.symm.trans hX) hP hD hS
def sh_X5_darkPages (sv : Nat → Int32) : Int32 := ((sv (18 : Int32).toNatClampNeg) + (sv (19 : Int32).toNatClampNeg))
abbrev rm_X5_darkPages : Room := { frames := 0, cells := 0, slots := 0, locals := 0 }
theorem hd_X5_darkPages : hdT yX5_darkPages 0 := by decide +kernel
set_option maxHeartbeats 40000000 in
set_option maxRecDepth 100000 in
theorem c_X5_darkPages (l : Launch) (D : va_G) (cI cC cQ : ClassId) (sz : Nat) (h0 : Nat) (a : Nat → Nat) (sv : Nat → Int32) (pa : Nat → Int32) (pn : Int32) (sn : Nat → Int32) (kp : Int32) (pd : Nat → Int32) (ln : Int32) (so : Nat → Int32) (po : Int32) (wr : Int32) (lt : Int32) (fr : Int32) (sc : Int32) (tm : Int32) (hd : Int32) (st : Int32)   : Met l yX5_darkPages (wsO yX5_darkPages cX5_darkPages 1 (some .int)) rm_X5_darkPages (va_Pc [.ref h0] (inW D (TYS cI cC cQ) (MO cI h0 a sv pa pn sn kp pd ln so po wr lt fr sc tm hd st) sz)) (va_Qi (fun (r : Int32) (_ : Unit) => r = sh_X5_darkPages sv) (fun (u : Unit) => atW D (TYS cI cC cQ) (va_A (MO cI h0 a sv pa pn sn kp pd ln so po wr lt fr sc tm hd st) sz) (MO cI h0 a sv pa pn sn kp pd ln so po wr lt fr sc tm hd st)) (va_A (MO cI h0 a sv pa pn sn kp pd ln so po wr lt fr sc tm hd st) sz)) 0 0 (va_A (MO cI h0 a sv pa pn sn kp pd ln so po wr lt fr sc tm hd st) sz) := by
  refine k_meti .int rfl (by decide) (Nat.le_of_ble_eq_true rfl) ?_
  intro p e s m args below meth c A ls Q H locs hargs hret hx hb hts hown hml hname hN hA hS hP hK hD hl
  have hl : lv_has ls 1 [(0, .ref h0)] := hl
  obtain ⟨Xq, hX⟩ : ∃ Xq, Xq = sh_X5_darkPages sv := ⟨_, rfl⟩
  have hq : Xq = ((sv (18 : Int32).toNatClampNeg) + (sv (19 : Int32).toNatClampNeg)) := hX
  refine lv_aload_n hx hb dX5_darkPages_0 rfl (lv_at hl 0 rfl) ?_
  refine va_get (D := D) (ci := 5) (v := .ref (a 0)) (C := RX5) (T := TX5) (N := 16) hx hb hts inA5 hown hK hP 0 rfl rfl 0 (by decide) (hts _ wd_fl_RX5_7) (fun _ h9 => h9) rfl dX5_darkPages_1 ?_
  refine lv_bipush (v := 18) hx hb dX5_darkPages_4 (by decide) ?_
  refine va_iald hx hb hK hP 1 0 rfl rfl (k_in (by decide)) dX5_darkPages_6 ?_
  refine lv_aload_n hx hb dX5_darkPages_7 rfl (lv_at hl 0 rfl) ?_
  refine va_get (D := D) (ci := 5) (v := .ref (a 0)) (C := RX5) (T := TX5) (N := 16) hx hb hts inA5 hown hK hP 0 rfl rfl 0 (by decide) (hts _ wd_fl_RX5_7) (fun _ h9 => h9) rfl dX5_darkPages_8 ?_
  refine lv_bipush (v := 19) hx hb dX5_darkPages_11 (by decide) ?_
  refine va_iald hx hb hK hP 1 0 rfl rfl (k_in (by decide)) dX5_darkPages_13 ?_
  refine lv_iadd hx hb dX5_darkPages_14 ?_
  exact hret _ _ _ _ (((sv (18 : Int32).toNatClampNeg) + (sv (19 : Int32).toNatClampNeg))) () dX5_darkPages_15 rfl (hq.symm.trans hX) hP hD hS
def sh_X5_allPages (sv : Nat → Int32) : Int32 := (((sh_X5_darkPages sv) + (sv (20 : Int32).toNatClampNeg)) + (sv (21 : Int32).toNatClampNeg))
abbrev rm_X5_allPages : Room := { frames := 1, cells := 0, slots := 0, locals := 20 }
theorem hd_X5_allPages : hdT yX5_allPages 0 := by decide +kernel
set_option maxHeartbeats 40000000 in
set_option maxRecDepth 100000 in
theorem c_X5_allPages (l : Launch) (D : va_G) (cI cC cQ : ClassId) (sz : Nat) (h0 : Nat) (a : Nat → Nat) (sv : Nat → Int32) (pa : Nat → Int32) (pn : Int32) (sn : Nat → Int32) (kp : Int32) (pd : Nat → Int32) (ln : Int32) (so : Nat → Int32) (po : Int32) (wr : Int32) (lt : Int32) (fr : Int32) (sc : Int32) (tm : Int32) (hd : Int32) (st : Int32)   : Met l yX5_allPages (wsO yX5_allPages cX5_allPages 1 (some .int)) rm_X5_allPages (va_Pc [.ref h0] (inW D (TYS cI cC cQ) (MO cI h0 a sv pa pn sn kp pd ln so po wr lt fr sc tm hd st) sz)) (va_Qi (fun (r : Int32) (_ : Unit) => r = sh_X5_allPages sv) (fun (u : Unit) => atW D (TYS cI cC cQ) (va_A (MO cI h0 a sv pa pn sn kp pd ln so po wr lt fr sc tm hd st) sz) (MO cI h0 a sv pa pn sn kp pd ln so po wr lt fr sc tm hd st)) (va_A (MO cI h0 a sv pa pn sn kp pd ln so po wr lt fr sc tm hd st) sz)) 0 0 (va_A (MO cI h0 a sv pa pn sn kp pd ln so po wr lt fr sc tm hd st) sz) := by
  refine k_meti .int rfl (by decide) (Nat.le_of_ble_eq_true rfl) ?_
  intro p e s m args below meth c A ls Q H locs hargs hret hx hb hts hown hml hname hN hA hS hP hK hD hl
  have hl : lv_has ls 1 [(0, .ref h0)] := hl
  obtain ⟨Xq, hX⟩ : ∃ Xq, Xq = sh_X5_allPages sv := ⟨_, rfl⟩
  have hq : Xq = (((sh_X5_darkPages sv) + (sv (20 : Int32).toNatClampNeg)) + (sv (21 : Int32).toNatClampNeg)) := hX
  refine lv_aload_n hx hb dX5_allPages_0 rfl (lv_at hl 0 rfl) ?_
  have hPs := k_self hP
  have hDs := k_selfD hD
  refine k_behi (X := []) (Y := []) (va_runV (As := []) (rest := []) ⟨hx, hb, hml, hown, hts⟩ (c_X5_darkPages l D cI cC cQ H.size h0 a sv pa pn sn kp pd ln so po wr lt fr sc tm hd st ) (kcwV hts wd_ml_RX5_135 wd_im_yX5_darkPages wd_sel_yX5_darkPages wd_ini_RX5 wd_code_yX5_darkPages rfl rfl rfl hd_X5_darkPages ⟨Nat.le_of_ble_eq_true rfl, Nat.le_of_ble_eq_true rfl⟩) ⟨in_blind, va_recv hK (pa_l (pa_r hPs)) (ci := 5) (q0 := 0) rfl rfl, k_pre hK (pa_l (pa_r hPs)) (da_l (da_r hDs)) hN⟩ rfl rfl hl.1 rfl (lv_room (Nat.le_of_ble_eq_true rfl)) dX5_allPages_1 ⟨Nat.le_of_ble_eq_true rfl, Nat.le_of_ble_eq_true rfl⟩) hPs hDs hS hA (fun r1 u2 H locs hw3 hP hD hS => ?_)
  have hP := k_unP hP
  have hD := k_unD hD
  have hP : va_P D vwCl (MO cI h0 a sv pa pn sn kp pd ln so po wr lt fr sc tm hd st) H := hP
  have hD : va_D A (MO cI h0 a sv pa pn sn kp pd ln so po wr lt fr sc tm hd st) := hD
  have hw3 : r1 = (sh_X5_darkPages sv) := hw3
  subst hw3
  refine lv_aload_n hx hb dX5_allPages_4 rfl (lv_at hl 0 rfl) ?_
  refine va_get (D := D) (ci := 5) (v := .ref (a 0)) (C := RX5) (T := TX5) (N := 16) hx hb hts inA5 hown hK hP 0 rfl rfl 0 (by decide) (hts _ wd_fl_RX5_7) (fun _ h9 => h9) rfl dX5_allPages_5 ?_
  refine lv_bipush (v := 20) hx hb dX5_allPages_8 (by decide) ?_
  refine va_iald hx hb hK hP 1 0 rfl rfl (k_in (by decide)) dX5_allPages_10 ?_
  refine lv_iadd hx hb dX5_allPages_11 ?_
  refine lv_aload_n hx hb dX5_allPages_12 rfl (lv_at hl 0 rfl) ?_
  refine va_get (D := D) (ci := 5) (v := .ref (a 0)) (C := RX5) (T := TX5) (N := 16) hx hb hts inA5 hown hK hP 0 rfl rfl 0 (by decide) (hts _ wd_fl_RX5_7) (fun _ h9 => h9) rfl dX5_allPages_13 ?_
  refine lv_bipush (v := 21) hx hb dX5_allPages_16 (by decide) ?_
  refine va_iald hx hb hK hP 1 0 rfl rfl (k_in (by decide)) dX5_allPages_18 ?_
  refine lv_iadd hx hb dX5_allPages_19 ?_
  exact hret _ _ _ _ ((((sh_X5_darkPages sv) + (sv (20 : Int32).toNatClampNeg)) + (sv (21 : Int32).toNatClampNeg))) () dX5_allPages_20 rfl (hq.symm.trans hX) hP hD hS
def sh_X5_isDark (hd : Int32) (x1 : Int32) : Int32 := (if hd ≤ 0 then (0 : Int32) else (if hd < x1 then (0 : Int32) else (1 : Int32)))
abbrev rm_X5_isDark : Room := { frames := 0, cells := 0, slots := 0, locals := 0 }
theorem hd_X5_isDark : hdT yX5_isDark 1 := by decide +kernel
set_option maxHeartbeats 40000000 in
set_option maxRecDepth 100000 in
theorem c_X5_isDark (l : Launch) (D : va_G) (cI cC cQ : ClassId) (sz : Nat) (h0 : Nat) (a : Nat → Nat) (sv : Nat → Int32) (pa : Nat → Int32) (pn : Int32) (sn : Nat → Int32) (kp : Int32) (pd : Nat → Int32) (ln : Int32) (so : Nat → Int32) (po : Int32) (wr : Int32) (lt : Int32) (fr : Int32) (sc : Int32) (tm : Int32) (hd : Int32) (st : Int32) (x1 : Int32)  : Met l yX5_isDark (wsO yX5_isDark cX5_isDark 2 (some .boolean)) rm_X5_isDark (va_Pc [.ref h0, .int x1] (inW D (TYS cI cC cQ) (MO cI h0 a sv pa pn sn kp pd ln so po wr lt fr sc tm hd st) sz)) (va_Qi (fun (r : Int32) (_ : Unit) => r = sh_X5_isDark hd x1) (fun (u : Unit) => atW D (TYS cI cC cQ) (va_A (MO cI h0 a sv pa pn sn kp pd ln so po wr lt fr sc tm hd st) sz) (MO cI h0 a sv pa pn sn kp pd ln so po wr lt fr sc tm hd st)) (va_A (MO cI h0 a sv pa pn sn kp pd ln so po wr lt fr sc tm hd st) sz)) 0 0 (va_A (MO cI h0 a sv pa pn sn kp pd ln so po wr lt fr sc tm hd st) sz) := by
  refine k_meti .boolean rfl (by decide) (Nat.le_of_ble_eq_true rfl) ?_
  intro p e s m args below meth c A ls Q H locs hargs hret hx hb hts hown hml hname hN hA hS hP hK hD hl
  have hl : lv_has ls 2 [(0, .ref h0), (1, .int x1)] := hl
  obtain ⟨Xq, hX⟩ : ∃ Xq, Xq = sh_X5_isDark hd x1 := ⟨_, rfl⟩
  have hq : Xq = (if hd ≤ 0 then (0 : Int32) else (if hd < x1 then (0 : Int32) else (1 : Int32))) := hX
  refine lv_aload_n hx hb dX5_isDark_0 rfl (lv_at hl 0 rfl) ?_
  refine va_get (D := D) (ci := 5) (v := .int hd) (C := RX5) (T := TX5) (N := 16) hx hb hts inA5 hown hK hP 0 rfl rfl 14 (by decide) (hts _ wd_fl_RX5_150) (fun _ h9 => h9) rfl dX5_isDark_1 ?_
  refine lv_if_le (tgt := 19) hx hb dX5_isDark_4 (by decide) (fun c1 => ?_) (fun c1 => ?_)
  · have hq := it_pos hq c1
    refine lv_iconst (v := 0) hx hb dX5_isDark_19 (by decide) ?_
    exact hret _ _ _ _ (0) () dX5_isDark_20 rfl (hq.symm.trans hX) hP hD hS
  · have hq := it_neg hq c1
    refine lv_aload_n hx hb dX5_isDark_7 rfl (lv_at hl 0 rfl) ?_
    refine va_get (D := D) (ci := 5) (v := .int hd) (C := RX5) (T := TX5) (N := 16) hx hb hts inA5 hown hK hP 0 rfl rfl 14 (by decide) (hts _ wd_fl_RX5_150) (fun _ h9 => h9) rfl dX5_isDark_8 ?_
    refine lv_iload_n hx hb dX5_isDark_11 rfl (lv_at hl 1 rfl) ?_
    refine lv_icmp_lt (tgt := 19) hx hb dX5_isDark_12 (by decide) (fun c2 => ?_) (fun c2 => ?_)
    · have hq := it_pos hq c2
      refine lv_iconst (v := 0) hx hb dX5_isDark_19 (by decide) ?_
      exact hret _ _ _ _ (0) () dX5_isDark_20 rfl (hq.symm.trans hX) hP hD hS
    · have hq := it_neg hq c2
      refine lv_iconst (v := 1) hx hb dX5_isDark_15 (by decide) ?_
      refine lv_goto (tgt := 20) hx hb dX5_isDark_16 (by decide) ?_
      exact hret _ _ _ _ (1) () dX5_isDark_20 rfl (hq.symm.trans hX) hP hD hS
def lp_X5_undo_22 (pa : Nat → Int32) (pn : Int32) : Nat → (Int32) → (Nat → Int32) → (Int32 × (Nat → Int32) × (Int32))
  | 0, _, _ => default
  | fu + 1, k1, l_sv => (if 35 ≤ k1 then ((pn - 1), l_sv, (pn - 1)) else (kb (α := Nat → Int32) (upd l_sv k1.toNatClampNeg (pa ((35 * (pn - 1)) + k1).toNatClampNeg)) (fun z_f3 => (lp_X5_undo_22 pa pn fu (k1 + 1) z_f3))))
def sh_X5_undo (sv : Nat → Int32) (pa : Nat → Int32) (pn : Int32) : Int32 × (Nat → Int32) × (Int32) := (if pn = 0 then ((-2 : Int32), sv, pn) else (lp_X5_undo_22 pa pn (((35 : Int32).toInt - (0 : Int32).toInt).toNat + 1) 0 sv))
abbrev rm_X5_undo : Room := { frames := 0, cells := 0, slots := 0, locals := 0 }
theorem hd_X5_undo : hdT yX5_undo 0 := by decide +kernel
set_option maxHeartbeats 40000000 in
set_option maxRecDepth 100000 in
theorem c_X5_undo (l : Launch) (D : va_G) (cI cC cQ : ClassId) (sz : Nat) (h0 : Nat) (a : Nat → Nat) (sv : Nat → Int32) (pa : Nat → Int32) (pn : Int32) (sn : Nat → Int32) (kp : Int32) (pd : Nat → Int32) (ln : Int32) (so : Nat → Int32) (po : Int32) (wr : Int32) (lt : Int32) (fr : Int32) (sc : Int32) (tm : Int32) (hd : Int32) (st : Int32)  (hpn0 : vp_in pn 5) : Met l yX5_undo (wsO yX5_undo cX5_undo 2 (some .int)) rm_X5_undo (va_Pc [.ref h0] (inW D (TYS cI cC cQ) (MO cI h0 a sv pa pn sn kp pd ln so po wr lt fr sc tm hd st) sz)) (va_Qi (fun (r : Int32) (u : (Nat → Int32) × (Int32)) => (r, u) = sh_X5_undo sv pa pn) (fun (u : (Nat → Int32) × (Int32)) => atW D (TYS cI cC cQ) (va_A (MO cI h0 a sv pa pn sn kp pd ln so po wr lt fr sc tm hd st) sz) (MO cI h0 a u.1 pa u.2 sn kp pd ln so po wr lt fr sc tm hd st)) (va_A (MO cI h0 a sv pa pn sn kp pd ln so po wr lt fr sc tm hd st) sz)) 0 0 (va_A (MO cI h0 a sv pa pn sn kp pd ln so po wr lt fr sc tm hd st) sz) := by
  refine k_meti .int rfl (by decide) (Nat.le_of_ble_eq_true rfl) ?_
  intro p e s m args below meth c A ls Q H locs hargs hret hx hb hts hown hml hname hN hA hS hP hK hD hl
  have hl : lv_has ls 2 [(0, .ref h0)] := hl
  obtain ⟨Xq, hX⟩ : ∃ Xq, Xq = sh_X5_undo sv pa pn := ⟨_, rfl⟩
  have hq : Xq = (if pn = 0 then ((-2 : Int32), sv, pn) else (lp_X5_undo_22 pa pn (((35 : Int32).toInt - (0 : Int32).toInt).toNat + 1) 0 sv)) := hX
  refine lv_aload_n hx hb dX5_undo_0 rfl (lv_at hl 0 rfl) ?_
  refine va_get (D := D) (ci := 5) (v := .int pn) (C := RX5) (T := TX5) (N := 16) hx hb hts inA5 hown hK hP 0 rfl rfl 2 (by decide) (hts _ wd_fl_RX5_29) (fun _ h9 => h9) rfl dX5_undo_1 ?_
  refine lv_if_ne (tgt := 10) hx hb dX5_undo_4 (by decide) (fun c1 => ?_) (fun c1 => ?_)
  · have hq := it_neg hq c1
    refine lv_aload_n hx hb dX5_undo_10 rfl (lv_at hl 0 rfl) ?_
    refine lv_dup hx hb dX5_undo_11 rfl ?_
    refine va_get (D := D) (ci := 5) (v := .int pn) (C := RX5) (T := TX5) (N := 16) hx hb hts inA5 hown hK hP 0 rfl rfl 2 (by decide) (hts _ wd_fl_RX5_29) (fun _ h9 => h9) rfl dX5_undo_12 ?_
    refine lv_iconst (v := 1) hx hb dX5_undo_15 (by decide) ?_
    refine lv_isub hx hb dX5_undo_16 ?_
    refine va_put (D := D) (ci := 5) (v := .int (pn - 1)) (ty := .int) (C := RX5) (T := TX5) (N := 16) hx hb hts inA5 tyX5 tyX5_ok nmX5 hown hK hP hD hS 0 rfl rfl 2 (by decide) (hts _ wd_fl_RX5_29) (fun _ h9 => h9) rfl (by decide +kernel) rfl rfl (Nat.le_of_ble_eq_true rfl) dX5_undo_17 (fun H locs hP hD hS => ?_)
    have hP : va_P D vwCl (MO cI h0 a sv pa (pn - 1) sn kp pd ln so po wr lt fr sc tm hd st) H := hP
    have hD : va_D A (MO cI h0 a sv pa (pn - 1) sn kp pd ln so po wr lt fr sc tm hd st) := hD
    refine lv_iconst (v := 0) hx hb dX5_undo_20 (by decide) ?_
    refine lv_istore_n (lv' := [(1, .int 0), (0, .ref h0)]) hx hb dX5_undo_21 rfl hl (by decide) rfl (fun ls hl => ?_)
    have L22 : ∀ (fu : Nat) (k1 : Int32) (l_sv : Nat → Int32) (H : Heap) (locs : List Loc) (ls : Array Slot), ((35 : Int32).toInt - (k1 : Int32).toInt).toNat < fu → (¬ k1 < 0) → Xq = lp_X5_undo_22 pa pn fu k1 l_sv → va_P D vwCl (MO cI h0 a l_sv pa (pn - 1) sn kp pd ln so po wr lt fr sc tm hd st) H → va_D A (MO cI h0 a l_sv pa (pn - 1) sn kp pd ln so po wr lt fr sc tm hd st) → va_S A s.heap H locs → lv_has ls 2 [(1, .int k1), (0, .ref h0)] → W p l e rm_X5_undo s m args below meth c H locs 0 0 Q (F0 m 22 ls []) := by
      intro fu
      induction fu with
      | zero => intro k1 l_sv H locs ls hmu; exact absurd hmu (Nat.not_lt_zero _)
      | succ fu ih =>
        intro k1 l_sv H locs ls hmu hk hq hP hD hS hl
        have hq : Xq = (if 35 ≤ k1 then ((pn - 1), l_sv, (pn - 1)) else (kb (α := Nat → Int32) (upd l_sv k1.toNatClampNeg (pa ((35 * (pn - 1)) + k1).toNatClampNeg)) (fun z_f3 => (lp_X5_undo_22 pa pn fu (k1 + 1) z_f3)))) := hq
        refine lv_iload_n hx hb dX5_undo_22 rfl (lv_at hl 0 rfl) ?_
        refine lv_bipush (v := 35) hx hb dX5_undo_23 (by decide) ?_
        refine lv_icmp_ge (tgt := 54) hx hb dX5_undo_25 (by decide) (fun c2 => ?_) (fun c2 => ?_)
        · have hq := it_pos hq c2
          refine lv_aload_n hx hb dX5_undo_54 rfl (lv_at hl 1 rfl) ?_
          refine va_get (D := D) (ci := 5) (v := .int (pn - 1)) (C := RX5) (T := TX5) (N := 16) hx hb hts inA5 hown hK hP 0 rfl rfl 2 (by decide) (hts _ wd_fl_RX5_29) (fun _ h9 => h9) rfl dX5_undo_55 ?_
          exact hret _ _ _ _ ((pn - 1)) (l_sv, (pn - 1)) dX5_undo_58 rfl (hq.symm.trans hX) hP hD hS
        · have hq := it_neg hq c2
          refine lv_aload_n hx hb dX5_undo_28 rfl (lv_at hl 1 rfl) ?_
          refine va_get (D := D) (ci := 5) (v := .ref (a 0)) (C := RX5) (T := TX5) (N := 16) hx hb hts inA5 hown hK hP 0 rfl rfl 0 (by decide) (hts _ wd_fl_RX5_7) (fun _ h9 => h9) rfl dX5_undo_29 ?_
          refine lv_iload_n hx hb dX5_undo_32 rfl (lv_at hl 0 rfl) ?_
          refine lv_aload_n hx hb dX5_undo_33 rfl (lv_at hl 1 rfl) ?_
          refine va_get (D := D) (ci := 5) (v := .ref (a 1)) (C := RX5) (T := TX5) (N := 16) hx hb hts inA5 hown hK hP 0 rfl rfl 1 (by decide) (hts _ wd_fl_RX5_13) (fun _ h9 => h9) rfl dX5_undo_34 ?_
          refine lv_bipush (v := 35) hx hb dX5_undo_37 (by decide) ?_
          refine lv_aload_n hx hb dX5_undo_39 rfl (lv_at hl 1 rfl) ?_
          refine va_get (D := D) (ci := 5) (v := .int (pn - 1)) (C := RX5) (T := TX5) (N := 16) hx hb hts inA5 hown hK hP 0 rfl rfl 2 (by decide) (hts _ wd_fl_RX5_29) (fun _ h9 => h9) rfl dX5_undo_40 ?_
          refine lv_imul hx hb dX5_undo_43 ?_
          refine lv_iload_n hx hb dX5_undo_44 rfl (lv_at hl 0 rfl) ?_
          refine lv_iadd hx hb dX5_undo_45 ?_
          refine va_iald hx hb hK hP 2 0 rfl rfl (vp_row (vp_pred hpn0 c1) (vp_of_le (n := 35) hk c2 (by decide))) dX5_undo_46 ?_
          refine va_iast hx hb hK hP hD hS 1 0 rfl rfl (vp_of_le (n := 35) hk c2 (by decide)) dX5_undo_47 (fun H locs hP hD hS => ?_)
          have hP : va_P D vwCl (MO cI h0 a (upd l_sv k1.toNatClampNeg (pa ((35 * (pn - 1)) + k1).toNatClampNeg)) pa (pn - 1) sn kp pd ln so po wr lt fr sc tm hd st) H := hP
          have hD : va_D A (MO cI h0 a (upd l_sv k1.toNatClampNeg (pa ((35 * (pn - 1)) + k1).toNatClampNeg)) pa (pn - 1) sn kp pd ln so po wr lt fr sc tm hd st) := hD
          obtain ⟨f3, hf4⟩ : ∃ z : Nat → Int32, z = (upd l_sv k1.toNatClampNeg (pa ((35 * (pn - 1)) + k1).toNatClampNeg)) := ⟨_, rfl⟩
          have hP : va_P D vwCl (MO cI h0 a f3 pa (pn - 1) sn kp pd ln so po wr lt fr sc tm hd st) H := by rw [hf4]; exact hP
          have hD : va_D A (MO cI h0 a f3 pa (pn - 1) sn kp pd ln so po wr lt fr sc tm hd st) := by rw [hf4]; exact hD
          have hq := kb_to hq hf4
          refine lv_iinc (v := (k1 + 1)) (lv' := [(1, .int (k1 + 1)), (0, .ref h0)]) hx hb dX5_undo_48 hl (k := 0) rfl rfl (by decide) rfl (fun ls hl => ?_)
          refine lv_goto (tgt := 22) hx hb dX5_undo_51 (by decide) ?_
          exact ih ((k1 + 1)) (f3) _ _ _ (k_mu hmu c2) (k_up hk c2 (by decide)) hq hP hD hS (lv_sub hl [0, 1] rfl)
    exact L22 (((35 : Int32).toInt - (0 : Int32).toInt).toNat + 1) (0) (sv) _ _ _ (Nat.lt_succ_self _) (by decide) hq hP hD hS (lv_sub hl [0, 1] rfl)
  · have hq := it_pos hq c1
    refine lv_bipush (v := (-2)) hx hb dX5_undo_7 (by decide) ?_
    exact hret _ _ _ _ ((-2)) (sv, pn) dX5_undo_9 rfl (hq.symm.trans hX) hP hD hS
def lp_X5_save_2 (sv : Nat → Int32) : Nat → (Int32) → (Nat → Int32) → (Int32 × (Nat → Int32) × (Int32))
  | 0, _, _ => default
  | fu + 1, k1, l_sn => (if 35 ≤ k1 then ((sh_X5_toner sv), l_sn, (1 : Int32)) else (kb (α := Nat → Int32) (upd l_sn k1.toNatClampNeg (sv k1.toNatClampNeg)) (fun z_f7 => (lp_X5_save_2 sv fu (k1 + 1) z_f7))))
def sh_X5_save (sv : Nat → Int32) (sn : Nat → Int32) : Int32 × (Nat → Int32) × (Int32) := (lp_X5_save_2 sv (((35 : Int32).toInt - (0 : Int32).toInt).toNat + 1) 0 sn)
abbrev rm_X5_save : Room := { frames := 2, cells := 0, slots := 0, locals := 43 }
theorem hd_X5_save : hdT yX5_save 0 := by decide +kernel
set_option maxHeartbeats 40000000 in
set_option maxRecDepth 100000 in
theorem c_X5_save (l : Launch) (D : va_G) (cI cC cQ : ClassId) (sz : Nat) (h0 : Nat) (a : Nat → Nat) (sv : Nat → Int32) (pa : Nat → Int32) (pn : Int32) (sn : Nat → Int32) (kp : Int32) (pd : Nat → Int32) (ln : Int32) (so : Nat → Int32) (po : Int32) (wr : Int32) (lt : Int32) (fr : Int32) (sc : Int32) (tm : Int32) (hd : Int32) (st : Int32)   : Met l yX5_save (wsO yX5_save cX5_save 2 (some .int)) rm_X5_save (va_Pc [.ref h0] (inW D (TYS cI cC cQ) (MO cI h0 a sv pa pn sn kp pd ln so po wr lt fr sc tm hd st) sz)) (va_Qi (fun (r : Int32) (u : (Nat → Int32) × (Int32)) => (r, u) = sh_X5_save sv sn) (fun (u : (Nat → Int32) × (Int32)) => atW D (TYS cI cC cQ) (va_A (MO cI h0 a sv pa pn sn kp pd ln so po wr lt fr sc tm hd st) sz) (MO cI h0 a sv pa pn u.1 u.2 pd ln so po wr lt fr sc tm hd st)) (va_A (MO cI h0 a sv pa pn sn kp pd ln so po wr lt fr sc tm hd st) sz)) 0 0 (va_A (MO cI h0 a sv pa pn sn kp pd ln so po wr lt fr sc tm hd st) sz) := by
  refine k_meti .int rfl (by decide) (Nat.le_of_ble_eq_true rfl) ?_
  intro p e s m args below meth c A ls Q H locs hargs hret hx hb hts hown hml hname hN hA hS hP hK hD hl
  have hl : lv_has ls 2 [(0, .ref h0)] := hl
  obtain ⟨Xq, hX⟩ : ∃ Xq, Xq = sh_X5_save sv sn := ⟨_, rfl⟩
  have hq : Xq = (lp_X5_save_2 sv (((35 : Int32).toInt - (0 : Int32).toInt).toNat + 1) 0 sn) := hX
  refine lv_iconst (v := 0) hx hb dX5_save_0 (by decide) ?_
  refine lv_istore_n (lv' := [(1, .int 0), (0, .ref h0)]) hx hb dX5_save_1 rfl hl (by decide) rfl (fun ls hl => ?_)
  have L2 : ∀ (fu : Nat) (k1 : Int32) (l_sn : Nat → Int32) (H : Heap) (locs : List Loc) (ls : Array Slot), ((35 : Int32).toInt - (k1 : Int32).toInt).toNat < fu → (¬ k1 < 0) → Xq = lp_X5_save_2 sv fu k1 l_sn → va_P D vwCl (MO cI h0 a sv pa pn l_sn kp pd ln so po wr lt fr sc tm hd st) H → va_D A (MO cI h0 a sv pa pn l_sn kp pd ln so po wr lt fr sc tm hd st) → va_S A s.heap H locs → lv_has ls 2 [(1, .int k1), (0, .ref h0)] → W p l e rm_X5_save s m args below meth c H locs 0 0 Q (F0 m 2 ls []) := by
    intro fu
    induction fu with
    | zero => intro k1 l_sn H locs ls hmu; exact absurd hmu (Nat.not_lt_zero _)
    | succ fu ih =>
      intro k1 l_sn H locs ls hmu hk hq hP hD hS hl
      have hq : Xq = (if 35 ≤ k1 then ((sh_X5_toner sv), l_sn, (1 : Int32)) else (kb (α := Nat → Int32) (upd l_sn k1.toNatClampNeg (sv k1.toNatClampNeg)) (fun z_f7 => (lp_X5_save_2 sv fu (k1 + 1) z_f7)))) := hq
      refine lv_iload_n hx hb dX5_save_2 rfl (lv_at hl 0 rfl) ?_
      refine lv_bipush (v := 35) hx hb dX5_save_3 (by decide) ?_
      refine lv_icmp_ge (tgt := 26) hx hb dX5_save_5 (by decide) (fun c1 => ?_) (fun c1 => ?_)
      · have hq := it_pos hq c1
        refine lv_aload_n hx hb dX5_save_26 rfl (lv_at hl 1 rfl) ?_
        refine lv_iconst (v := 1) hx hb dX5_save_27 (by decide) ?_
        refine va_put (D := D) (ci := 5) (v := .int 1) (ty := .boolean) (C := RX5) (T := TX5) (N := 16) hx hb hts inA5 tyX5 tyX5_ok nmX5 hown hK hP hD hS 0 rfl rfl 4 (by decide) (hts _ wd_fl_RX5_163) (fun _ h9 => h9) rfl (by decide +kernel) rfl rfl (Nat.le_of_ble_eq_true rfl) dX5_save_28 (fun H locs hP hD hS => ?_)
        have hP : va_P D vwCl (MO cI h0 a sv pa pn l_sn 1 pd ln so po wr lt fr sc tm hd st) H := hP
        have hD : va_D A (MO cI h0 a sv pa pn l_sn 1 pd ln so po wr lt fr sc tm hd st) := hD
        refine lv_aload_n hx hb dX5_save_31 rfl (lv_at hl 1 rfl) ?_
        have hPs := k_self hP
        have hDs := k_selfD hD
        refine k_behi (X := []) (Y := []) (va_runV (As := []) (rest := []) ⟨hx, hb, hml, hown, hts⟩ (c_X5_toner l D cI cC cQ H.size h0 a sv pa pn l_sn 1 pd ln so po wr lt fr sc tm hd st ) (kcwV hts wd_ml_RX5_138 wd_im_yX5_toner wd_sel_yX5_toner wd_ini_RX5 wd_code_yX5_toner rfl rfl rfl hd_X5_toner ⟨Nat.le_of_ble_eq_true rfl, Nat.le_of_ble_eq_true rfl⟩) ⟨in_blind, va_recv hK (pa_l (pa_r hPs)) (ci := 5) (q0 := 0) rfl rfl, k_pre hK (pa_l (pa_r hPs)) (da_l (da_r hDs)) hN⟩ rfl rfl hl.1 rfl (lv_room (Nat.le_of_ble_eq_true rfl)) dX5_save_32 ⟨Nat.le_of_ble_eq_true rfl, Nat.le_of_ble_eq_true rfl⟩) hPs hDs hS hA (fun r4 u5 H locs hw6 hP hD hS => ?_)
        have hP := k_unP hP
        have hD := k_unD hD
        have hP : va_P D vwCl (MO cI h0 a sv pa pn l_sn 1 pd ln so po wr lt fr sc tm hd st) H := hP
        have hD : va_D A (MO cI h0 a sv pa pn l_sn 1 pd ln so po wr lt fr sc tm hd st) := hD
        have hw6 : r4 = (sh_X5_toner sv) := hw6
        subst hw6
        exact hret _ _ _ _ ((sh_X5_toner sv)) (l_sn, 1) dX5_save_35 rfl (hq.symm.trans hX) hP hD hS
      · have hq := it_neg hq c1
        refine lv_aload_n hx hb dX5_save_8 rfl (lv_at hl 1 rfl) ?_
        refine va_get (D := D) (ci := 5) (v := .ref (a 2)) (C := RX5) (T := TX5) (N := 16) hx hb hts inA5 hown hK hP 0 rfl rfl 3 (by decide) (hts _ wd_fl_RX5_16) (fun _ h9 => h9) rfl dX5_save_9 ?_
        refine lv_iload_n hx hb dX5_save_12 rfl (lv_at hl 0 rfl) ?_
        refine lv_aload_n hx hb dX5_save_13 rfl (lv_at hl 1 rfl) ?_
        refine va_get (D := D) (ci := 5) (v := .ref (a 0)) (C := RX5) (T := TX5) (N := 16) hx hb hts inA5 hown hK hP 0 rfl rfl 0 (by decide) (hts _ wd_fl_RX5_7) (fun _ h9 => h9) rfl dX5_save_14 ?_
        refine lv_iload_n hx hb dX5_save_17 rfl (lv_at hl 0 rfl) ?_
        refine va_iald hx hb hK hP 1 0 rfl rfl (vp_of_le (n := 35) hk c1 (by decide)) dX5_save_18 ?_
        refine va_iast hx hb hK hP hD hS 3 0 rfl rfl (vp_of_le (n := 35) hk c1 (by decide)) dX5_save_19 (fun H locs hP hD hS => ?_)
        have hP : va_P D vwCl (MO cI h0 a sv pa pn (upd l_sn k1.toNatClampNeg (sv k1.toNatClampNeg)) kp pd ln so po wr lt fr sc tm hd st) H := hP
        have hD : va_D A (MO cI h0 a sv pa pn (upd l_sn k1.toNatClampNeg (sv k1.toNatClampNeg)) kp pd ln so po wr lt fr sc tm hd st) := hD
        obtain ⟨f7, hf8⟩ : ∃ z : Nat → Int32, z = (upd l_sn k1.toNatClampNeg (sv k1.toNatClampNeg)) := ⟨_, rfl⟩
        have hP : va_P D vwCl (MO cI h0 a sv pa pn f7 kp pd ln so po wr lt fr sc tm hd st) H := by rw [hf8]; exact hP
        have hD : va_D A (MO cI h0 a sv pa pn f7 kp pd ln so po wr lt fr sc tm hd st) := by rw [hf8]; exact hD
        have hq := kb_to hq hf8
        refine lv_iinc (v := (k1 + 1)) (lv' := [(1, .int (k1 + 1)), (0, .ref h0)]) hx hb dX5_save_20 hl (k := 0) rfl rfl (by decide) rfl (fun ls hl => ?_)
        refine lv_goto (tgt := 2) hx hb dX5_save_23 (by decide) ?_
        exact ih ((k1 + 1)) (f7) _ _ _ (k_mu hmu c1) (k_up hk c1 (by decide)) hq hP hD hS (lv_sub hl [0, 1] rfl)
  exact L2 (((35 : Int32).toInt - (0 : Int32).toInt).toNat + 1) (0) (sn) _ _ _ (Nat.lt_succ_self _) (by decide) hq hP hD hS (lv_sub hl [0, 1] rfl)
def lp_X5_restore_16 (f5 : Nat → Int32) (v6 : Int32) (sn : Nat → Int32) : Nat → (Int32) → (Nat → Int32) → (Int32 × (Nat → Int32) × (Nat → Int32) × (Int32))
  | 0, _, _ => default
  | fu + 1, k1, l_sv => (if 35 ≤ k1 then ((sh_X5_toner l_sv), l_sv, f5, v6) else (kb (α := Nat → Int32) (upd l_sv k1.toNatClampNeg (sn k1.toNatClampNeg)) (fun z_f11 => (lp_X5_restore_16 f5 v6 sn fu (k1 + 1) z_f11))))
def sh_X5_restore (sv : Nat → Int32) (pa : Nat → Int32) (pn : Int32) (sn : Nat → Int32) (kp : Int32) : Int32 × (Nat → Int32) × (Nat → Int32) × (Int32) := (if kp = 0 then ((-2 : Int32), sv, pa, pn) else (kb (sh_X5_records sv pa pn) (fun z_f5 => (lp_X5_restore_16 z_f5.1 z_f5.2 sn (((35 : Int32).toInt - (0 : Int32).toInt).toNat + 1) 0 sv))))
abbrev rm_X5_restore : Room := { frames := 2, cells := 0, slots := 0, locals := 43 }
theorem hd_X5_restore : hdT yX5_restore 0 := by decide +kernel
set_option maxHeartbeats 40000000 in
set_option maxRecDepth 100000 in
theorem c_X5_restore (l : Launch) (D : va_G) (cI cC cQ : ClassId) (sz : Nat) (h0 : Nat) (a : Nat → Nat) (sv : Nat → Int32) (pa : Nat → Int32) (pn : Int32) (sn : Nat → Int32) (kp : Int32) (pd : Nat → Int32) (ln : Int32) (so : Nat → Int32) (po : Int32) (wr : Int32) (lt : Int32) (fr : Int32) (sc : Int32) (tm : Int32) (hd : Int32) (st : Int32)  (hpn0 : vp_in pn 5) : Met l yX5_restore (wsO yX5_restore cX5_restore 2 (some .int)) rm_X5_restore (va_Pc [.ref h0] (inW D (TYS cI cC cQ) (MO cI h0 a sv pa pn sn kp pd ln so po wr lt fr sc tm hd st) sz)) (va_Qi (fun (r : Int32) (u : (Nat → Int32) × (Nat → Int32) × (Int32)) => (r, u) = sh_X5_restore sv pa pn sn kp) (fun (u : (Nat → Int32) × (Nat → Int32) × (Int32)) => atW D (TYS cI cC cQ) (va_A (MO cI h0 a sv pa pn sn kp pd ln so po wr lt fr sc tm hd st) sz) (MO cI h0 a u.1 u.2.1 u.2.2 sn kp pd ln so po wr lt fr sc tm hd st)) (va_A (MO cI h0 a sv pa pn sn kp pd ln so po wr lt fr sc tm hd st) sz)) 0 0 (va_A (MO cI h0 a sv pa pn sn kp pd ln so po wr lt fr sc tm hd st) sz) := by
  refine k_meti .int rfl (by decide) (Nat.le_of_ble_eq_true rfl) ?_
  intro p e s m args below meth c A ls Q H locs hargs hret hx hb hts hown hml hname hN hA hS hP hK hD hl
  have hl : lv_has ls 2 [(0, .ref h0)] := hl
  obtain ⟨Xq, hX⟩ : ∃ Xq, Xq = sh_X5_restore sv pa pn sn kp := ⟨_, rfl⟩
  have hq : Xq = (if kp = 0 then ((-2 : Int32), sv, pa, pn) else (kb (sh_X5_records sv pa pn) (fun z_f5 => (lp_X5_restore_16 z_f5.1 z_f5.2 sn (((35 : Int32).toInt - (0 : Int32).toInt).toNat + 1) 0 sv)))) := hX
  refine lv_aload_n hx hb dX5_restore_0 rfl (lv_at hl 0 rfl) ?_
  refine va_get (D := D) (ci := 5) (v := .int kp) (C := RX5) (T := TX5) (N := 16) hx hb hts inA5 hown hK hP 0 rfl rfl 4 (by decide) (hts _ wd_fl_RX5_163) (fun _ h9 => h9) rfl dX5_restore_1 ?_
  refine lv_if_ne (tgt := 10) hx hb dX5_restore_4 (by decide) (fun c1 => ?_) (fun c1 => ?_)
  · have hq := it_neg hq c1
    refine lv_aload_n hx hb dX5_restore_10 rfl (lv_at hl 0 rfl) ?_
    have hPs := k_self hP
    have hDs := k_selfD hD
    refine k_behv (X := []) (Y := []) (va_runV (As := []) (rest := []) ⟨hx, hb, hml, hown, hts⟩ (c_X5_records l D cI cC cQ H.size h0 a sv pa pn sn kp pd ln so po wr lt fr sc tm hd st (hpn0)) (kcwV hts wd_ml_RX5_55 wd_im_yX5_records wd_sel_yX5_records wd_ini_RX5 wd_code_yX5_records rfl rfl rfl hd_X5_records ⟨Nat.le_of_ble_eq_true rfl, Nat.le_of_ble_eq_true rfl⟩) ⟨in_blind, va_recv hK (pa_l (pa_r hPs)) (ci := 5) (q0 := 0) rfl rfl, k_pre hK (pa_l (pa_r hPs)) (da_l (da_r hDs)) hN⟩ rfl rfl hl.1 rfl (lv_room (Nat.le_of_ble_eq_true rfl)) dX5_restore_11 ⟨Nat.le_of_ble_eq_true rfl, Nat.le_of_ble_eq_true rfl⟩) hPs hDs hS hA (fun u3 H locs hw4 hP hD hS => ?_)
    obtain ⟨f5, v6⟩ := u3
    have hP := k_unP hP
    have hD := k_unD hD
    have hP : va_P D vwCl (MO cI h0 a sv f5 v6 sn kp pd ln so po wr lt fr sc tm hd st) H := hP
    have hD : va_D A (MO cI h0 a sv f5 v6 sn kp pd ln so po wr lt fr sc tm hd st) := hD
    have hw4 : (f5, v6) = (sh_X5_records sv pa pn) := hw4
    have hq := kb_to hq hw4
    refine lv_iconst (v := 0) hx hb dX5_restore_14 (by decide) ?_
    refine lv_istore_n (lv' := [(1, .int 0), (0, .ref h0)]) hx hb dX5_restore_15 rfl hl (by decide) rfl (fun ls hl => ?_)
    have L16 : ∀ (fu : Nat) (k1 : Int32) (l_sv : Nat → Int32) (H : Heap) (locs : List Loc) (ls : Array Slot), ((35 : Int32).toInt - (k1 : Int32).toInt).toNat < fu → (¬ k1 < 0) → Xq = lp_X5_restore_16 f5 v6 sn fu k1 l_sv → va_P D vwCl (MO cI h0 a l_sv f5 v6 sn kp pd ln so po wr lt fr sc tm hd st) H → va_D A (MO cI h0 a l_sv f5 v6 sn kp pd ln so po wr lt fr sc tm hd st) → va_S A s.heap H locs → lv_has ls 2 [(1, .int k1), (0, .ref h0)] → W p l e rm_X5_restore s m args below meth c H locs 0 0 Q (F0 m 16 ls []) := by
      intro fu
      induction fu with
      | zero => intro k1 l_sv H locs ls hmu; exact absurd hmu (Nat.not_lt_zero _)
      | succ fu ih =>
        intro k1 l_sv H locs ls hmu hk hq hP hD hS hl
        have hq : Xq = (if 35 ≤ k1 then ((sh_X5_toner l_sv), l_sv, f5, v6) else (kb (α := Nat → Int32) (upd l_sv k1.toNatClampNeg (sn k1.toNatClampNeg)) (fun z_f11 => (lp_X5_restore_16 f5 v6 sn fu (k1 + 1) z_f11)))) := hq
        refine lv_iload_n hx hb dX5_restore_16 rfl (lv_at hl 0 rfl) ?_
        refine lv_bipush (v := 35) hx hb dX5_restore_17 (by decide) ?_
        refine lv_icmp_ge (tgt := 40) hx hb dX5_restore_19 (by decide) (fun c7 => ?_) (fun c7 => ?_)
        · have hq := it_pos hq c7
          refine lv_aload_n hx hb dX5_restore_40 rfl (lv_at hl 1 rfl) ?_
          have hPs := k_self hP
          have hDs := k_selfD hD
          refine k_behi (X := []) (Y := []) (va_runV (As := []) (rest := []) ⟨hx, hb, hml, hown, hts⟩ (c_X5_toner l D cI cC cQ H.size h0 a l_sv f5 v6 sn kp pd ln so po wr lt fr sc tm hd st ) (kcwV hts wd_ml_RX5_138 wd_im_yX5_toner wd_sel_yX5_toner wd_ini_RX5 wd_code_yX5_toner rfl rfl rfl hd_X5_toner ⟨Nat.le_of_ble_eq_true rfl, Nat.le_of_ble_eq_true rfl⟩) ⟨in_blind, va_recv hK (pa_l (pa_r hPs)) (ci := 5) (q0 := 0) rfl rfl, k_pre hK (pa_l (pa_r hPs)) (da_l (da_r hDs)) hN⟩ rfl rfl hl.1 rfl (lv_room (Nat.le_of_ble_eq_true rfl)) dX5_restore_41 ⟨Nat.le_of_ble_eq_true rfl, Nat.le_of_ble_eq_true rfl⟩) hPs hDs hS hA (fun r8 u9 H locs hw10 hP hD hS => ?_)
          have hP := k_unP hP
          have hD := k_unD hD
          have hP : va_P D vwCl (MO cI h0 a l_sv f5 v6 sn kp pd ln so po wr lt fr sc tm hd st) H := hP
          have hD : va_D A (MO cI h0 a l_sv f5 v6 sn kp pd ln so po wr lt fr sc tm hd st) := hD
          have hw10 : r8 = (sh_X5_toner l_sv) := hw10
          subst hw10
          exact hret _ _ _ _ ((sh_X5_toner l_sv)) (l_sv, f5, v6) dX5_restore_44 rfl (hq.symm.trans hX) hP hD hS
        · have hq := it_neg hq c7
          refine lv_aload_n hx hb dX5_restore_22 rfl (lv_at hl 1 rfl) ?_
          refine va_get (D := D) (ci := 5) (v := .ref (a 0)) (C := RX5) (T := TX5) (N := 16) hx hb hts inA5 hown hK hP 0 rfl rfl 0 (by decide) (hts _ wd_fl_RX5_7) (fun _ h9 => h9) rfl dX5_restore_23 ?_
          refine lv_iload_n hx hb dX5_restore_26 rfl (lv_at hl 0 rfl) ?_
          refine lv_aload_n hx hb dX5_restore_27 rfl (lv_at hl 1 rfl) ?_
          refine va_get (D := D) (ci := 5) (v := .ref (a 2)) (C := RX5) (T := TX5) (N := 16) hx hb hts inA5 hown hK hP 0 rfl rfl 3 (by decide) (hts _ wd_fl_RX5_16) (fun _ h9 => h9) rfl dX5_restore_28 ?_
          refine lv_iload_n hx hb dX5_restore_31 rfl (lv_at hl 0 rfl) ?_
          refine va_iald hx hb hK hP 3 0 rfl rfl (vp_of_le (n := 35) hk c7 (by decide)) dX5_restore_32 ?_
          refine va_iast hx hb hK hP hD hS 1 0 rfl rfl (vp_of_le (n := 35) hk c7 (by decide)) dX5_restore_33 (fun H locs hP hD hS => ?_)
          have hP : va_P D vwCl (MO cI h0 a (upd l_sv k1.toNatClampNeg (sn k1.toNatClampNeg)) f5 v6 sn kp pd ln so po wr lt fr sc tm hd st) H := hP
          have hD : va_D A (MO cI h0 a (upd l_sv k1.toNatClampNeg (sn k1.toNatClampNeg)) f5 v6 sn kp pd ln so po wr lt fr sc tm hd st) := hD
          obtain ⟨f11, hf12⟩ : ∃ z : Nat → Int32, z = (upd l_sv k1.toNatClampNeg (sn k1.toNatClampNeg)) := ⟨_, rfl⟩
          have hP : va_P D vwCl (MO cI h0 a f11 f5 v6 sn kp pd ln so po wr lt fr sc tm hd st) H := by rw [hf12]; exact hP
          have hD : va_D A (MO cI h0 a f11 f5 v6 sn kp pd ln so po wr lt fr sc tm hd st) := by rw [hf12]; exact hD
          have hq := kb_to hq hf12
          refine lv_iinc (v := (k1 + 1)) (lv' := [(1, .int (k1 + 1)), (0, .ref h0)]) hx hb dX5_restore_34 hl (k := 0) rfl rfl (by decide) rfl (fun ls hl => ?_)
          refine lv_goto (tgt := 16) hx hb dX5_restore_37 (by decide) ?_
          exact ih ((k1 + 1)) (f11) _ _ _ (k_mu hmu c7) (k_up hk c7 (by decide)) hq hP hD hS (lv_sub hl [0, 1] rfl)
    exact L16 (((35 : Int32).toInt - (0 : Int32).toInt).toNat + 1) (0) (sv) _ _ _ (Nat.lt_succ_self _) (by decide) hq hP hD hS (lv_sub hl [0, 1] rfl)
  · have hq := it_pos hq c1
    refine lv_bipush (v := (-2)) hx hb dX5_restore_7 (by decide) ?_
    exact hret _ _ _ _ ((-2)) (sv, pa, pn) dX5_restore_9 rfl (hq.symm.trans hX) hP hD hS
def sh_X5_shake (sv : Nat → Int32) (pa : Nat → Int32) (pn : Int32) (x1 : Int32) : Int32 × (Nat → Int32) × (Nat → Int32) × (Int32) := (if (sh_X5_isCup x1) = 0 then ((-1 : Int32), sv, pa, pn) else (kb (sh_X5_records sv pa pn) (fun z_f8 => (kb (sh_X5_shakes sv x1) (fun z_r10 => (z_r10.1, z_r10.2, z_f8.1, z_f8.2))))))
abbrev rm_X5_shake : Room := { frames := 2, cells := 0, slots := 0, locals := 42 }
theorem hd_X5_shake : hdT yX5_shake 1 := by decide +kernel
set_option maxHeartbeats 40000000 in
set_option maxRecDepth 100000 in
theorem c_X5_shake (l : Launch) (D : va_G) (cI cC cQ : ClassId) (sz : Nat) (h0 : Nat) (a : Nat → Nat) (sv : Nat → Int32) (pa : Nat → Int32) (pn : Int32) (sn : Nat → Int32) (kp : Int32) (pd : Nat → Int32) (ln : Int32) (so : Nat → Int32) (po : Int32) (wr : Int32) (lt : Int32) (fr : Int32) (sc : Int32) (tm : Int32) (hd : Int32) (st : Int32) (x1 : Int32) (hpn0 : vp_in pn 5) : Met l yX5_shake (wsO yX5_shake cX5_shake 2 (some .int)) rm_X5_shake (va_Pc [.ref h0, .int x1] (inW D (TYS cI cC cQ) (MO cI h0 a sv pa pn sn kp pd ln so po wr lt fr sc tm hd st) sz)) (va_Qi (fun (r : Int32) (u : (Nat → Int32) × (Nat → Int32) × (Int32)) => (r, u) = sh_X5_shake sv pa pn x1) (fun (u : (Nat → Int32) × (Nat → Int32) × (Int32)) => atW D (TYS cI cC cQ) (va_A (MO cI h0 a sv pa pn sn kp pd ln so po wr lt fr sc tm hd st) sz) (MO cI h0 a u.1 u.2.1 u.2.2 sn kp pd ln so po wr lt fr sc tm hd st)) (va_A (MO cI h0 a sv pa pn sn kp pd ln so po wr lt fr sc tm hd st) sz)) 0 0 (va_A (MO cI h0 a sv pa pn sn kp pd ln so po wr lt fr sc tm hd st) sz) := by
  refine k_meti .int rfl (by decide) (Nat.le_of_ble_eq_true rfl) ?_
  intro p e s m args below meth c A ls Q H locs hargs hret hx hb hts hown hml hname hN hA hS hP hK hD hl
  have hl : lv_has ls 2 [(0, .ref h0), (1, .int x1)] := hl
  obtain ⟨Xq, hX⟩ : ∃ Xq, Xq = sh_X5_shake sv pa pn x1 := ⟨_, rfl⟩
  have hq : Xq = (if (sh_X5_isCup x1) = 0 then ((-1 : Int32), sv, pa, pn) else (kb (sh_X5_records sv pa pn) (fun z_f8 => (kb (sh_X5_shakes sv x1) (fun z_r10 => (z_r10.1, z_r10.2, z_f8.1, z_f8.2)))))) := hX
  refine lv_iload_n hx hb dX5_shake_0 rfl (lv_at hl 1 rfl) ?_
  have hPs : va_P D vwCl ([] ++ ([] ++ (MO cI h0 a sv pa pn sn kp pd ln so po wr lt fr sc tm hd st))) H := hP
  have hDs : va_D A ([] ++ ([] ++ (MO cI h0 a sv pa pn sn kp pd ln so po wr lt fr sc tm hd st))) := hD
  refine k_behi (X := []) (Y := (MO cI h0 a sv pa pn sn kp pd ln so po wr lt fr sc tm hd st)) (va_runS (As := [.int x1]) (rest := []) ⟨hx, hb, hml, hown, hts⟩ (c_X5_isCup l D cI cC cQ H.size x1) (kcwS hts wd_ml_RX5_61 wd_st_yX5_isCup wd_ini_RX5 wd_code_yX5_isCup rfl rfl hd_X5_isCup ⟨Nat.le_of_ble_eq_true rfl, Nat.le_of_ble_eq_true rfl⟩) ⟨in_blind, k_pre hK (pa_l (pa_r hPs)) (da_l (da_r hDs)) hN⟩ rfl rfl hl.1 rfl (lv_room (Nat.le_of_ble_eq_true rfl)) dX5_shake_1 ⟨Nat.le_of_ble_eq_true rfl, Nat.le_of_ble_eq_true rfl⟩) hPs hDs hS hA (fun r1 u2 H locs hw3 hP hD hS => ?_)
  have hP : va_P D vwCl (MO cI h0 a sv pa pn sn kp pd ln so po wr lt fr sc tm hd st) H := hP
  have hD : va_D A (MO cI h0 a sv pa pn sn kp pd ln so po wr lt fr sc tm hd st) := hD
  have hw3 : r1 = (sh_X5_isCup x1) := hw3
  subst hw3
  refine lv_if_ne (tgt := 9) hx hb dX5_shake_4 (by decide) (fun c4 => ?_) (fun c4 => ?_)
  · have hq := it_neg hq c4
    refine lv_aload_n hx hb dX5_shake_9 rfl (lv_at hl 0 rfl) ?_
    have hPs := k_self hP
    have hDs := k_selfD hD
    refine k_behv (X := []) (Y := []) (va_runV (As := []) (rest := []) ⟨hx, hb, hml, hown, hts⟩ (c_X5_records l D cI cC cQ H.size h0 a sv pa pn sn kp pd ln so po wr lt fr sc tm hd st (hpn0)) (kcwV hts wd_ml_RX5_55 wd_im_yX5_records wd_sel_yX5_records wd_ini_RX5 wd_code_yX5_records rfl rfl rfl hd_X5_records ⟨Nat.le_of_ble_eq_true rfl, Nat.le_of_ble_eq_true rfl⟩) ⟨in_blind, va_recv hK (pa_l (pa_r hPs)) (ci := 5) (q0 := 0) rfl rfl, k_pre hK (pa_l (pa_r hPs)) (da_l (da_r hDs)) hN⟩ rfl rfl hl.1 rfl (lv_room (Nat.le_of_ble_eq_true rfl)) dX5_shake_10 ⟨Nat.le_of_ble_eq_true rfl, Nat.le_of_ble_eq_true rfl⟩) hPs hDs hS hA (fun u6 H locs hw7 hP hD hS => ?_)
    obtain ⟨f8, v9⟩ := u6
    have hP := k_unP hP
    have hD := k_unD hD
    have hP : va_P D vwCl (MO cI h0 a sv f8 v9 sn kp pd ln so po wr lt fr sc tm hd st) H := hP
    have hD : va_D A (MO cI h0 a sv f8 v9 sn kp pd ln so po wr lt fr sc tm hd st) := hD
    have hw7 : (f8, v9) = (sh_X5_records sv pa pn) := hw7
    have hq := kb_to hq hw7
    refine lv_aload_n hx hb dX5_shake_13 rfl (lv_at hl 0 rfl) ?_
    refine lv_iload_n hx hb dX5_shake_14 rfl (lv_at hl 1 rfl) ?_
    have hPs := k_self hP
    have hDs := k_selfD hD
    refine k_behi (X := []) (Y := []) (va_runV (As := [.int x1]) (rest := []) ⟨hx, hb, hml, hown, hts⟩ (c_X5_shakes l D cI cC cQ H.size h0 a sv f8 v9 sn kp pd ln so po wr lt fr sc tm hd st x1 ((mIn4 c4))) (kcwV hts wd_ml_RX5_64 wd_im_yX5_shakes wd_sel_yX5_shakes wd_ini_RX5 wd_code_yX5_shakes rfl rfl rfl hd_X5_shakes ⟨Nat.le_of_ble_eq_true rfl, Nat.le_of_ble_eq_true rfl⟩) ⟨in_blind, va_recv hK (pa_l (pa_r hPs)) (ci := 5) (q0 := 0) rfl rfl, k_pre hK (pa_l (pa_r hPs)) (da_l (da_r hDs)) hN⟩ rfl rfl hl.1 rfl (lv_room (Nat.le_of_ble_eq_true rfl)) dX5_shake_15 ⟨Nat.le_of_ble_eq_true rfl, Nat.le_of_ble_eq_true rfl⟩) hPs hDs hS hA (fun r10 u11 H locs hw12 hP hD hS => ?_)
    obtain ⟨f13, rfl⟩ : ∃ z, z = u11 := ⟨_, rfl⟩
    have hP := k_unP hP
    have hD := k_unD hD
    have hP : va_P D vwCl (MO cI h0 a f13 f8 v9 sn kp pd ln so po wr lt fr sc tm hd st) H := hP
    have hD : va_D A (MO cI h0 a f13 f8 v9 sn kp pd ln so po wr lt fr sc tm hd st) := hD
    have hw12 : (r10, f13) = (sh_X5_shakes sv x1) := hw12
    have hq := kb_to hq hw12
    exact hret _ _ _ _ (r10) (f13, f8, v9) dX5_shake_18 rfl (hq.symm.trans hX) hP hD hS
  · have hq := it_pos hq c4
    refine lv_iconst (v := (-1)) hx hb dX5_shake_7 (by decide) ?_
    exact hret _ _ _ _ ((-1)) (sv, pa, pn) dX5_shake_8 rfl (hq.symm.trans hX) hP hD hS
def sh_X5_append (pd : Nat → Int32) (ln : Int32) (x1 : Int32) : Int32 × (Nat → Int32) × (Int32) := (if (sh_X5_in x1 33 126) = 0 then ((-1 : Int32), pd, ln) else (if ln = 60 then ((-3 : Int32), pd, ln) else (kb (α := Nat → Int32) (upd pd ln.toNatClampNeg x1) (fun z_f6 => ((ln + 1), z_f6, (ln + 1))))))
abbrev rm_X5_append : Room := { frames := 1, cells := 0, slots := 0, locals := 22 }
theorem hd_X5_append : hdT yX5_append 1 := by decide +kernel
set_option maxHeartbeats 40000000 in
set_option maxRecDepth 100000 in
theorem c_X5_append (l : Launch) (D : va_G) (cI cC cQ : ClassId) (sz : Nat) (h0 : Nat) (a : Nat → Nat) (sv : Nat → Int32) (pa : Nat → Int32) (pn : Int32) (sn : Nat → Int32) (kp : Int32) (pd : Nat → Int32) (ln : Int32) (so : Nat → Int32) (po : Int32) (wr : Int32) (lt : Int32) (fr : Int32) (sc : Int32) (tm : Int32) (hd : Int32) (st : Int32) (x1 : Int32) (hln : vp_in ln 61) : Met l yX5_append (wsO yX5_append cX5_append 2 (some .int)) rm_X5_append (va_Pc [.ref h0, .int x1] (inW D (TYS cI cC cQ) (MO cI h0 a sv pa pn sn kp pd ln so po wr lt fr sc tm hd st) sz)) (va_Qi (fun (r : Int32) (u : (Nat → Int32) × (Int32)) => (r, u) = sh_X5_append pd ln x1) (fun (u : (Nat → Int32) × (Int32)) => atW D (TYS cI cC cQ) (va_A (MO cI h0 a sv pa pn sn kp pd ln so po wr lt fr sc tm hd st) sz) (MO cI h0 a sv pa pn sn kp u.1 u.2 so po wr lt fr sc tm hd st)) (va_A (MO cI h0 a sv pa pn sn kp pd ln so po wr lt fr sc tm hd st) sz)) 0 0 (va_A (MO cI h0 a sv pa pn sn kp pd ln so po wr lt fr sc tm hd st) sz) := by
  refine k_meti .int rfl (by decide) (Nat.le_of_ble_eq_true rfl) ?_
  intro p e s m args below meth c A ls Q H locs hargs hret hx hb hts hown hml hname hN hA hS hP hK hD hl
  have hl : lv_has ls 2 [(0, .ref h0), (1, .int x1)] := hl
  obtain ⟨Xq, hX⟩ : ∃ Xq, Xq = sh_X5_append pd ln x1 := ⟨_, rfl⟩
  have hq : Xq = (if (sh_X5_in x1 33 126) = 0 then ((-1 : Int32), pd, ln) else (if ln = 60 then ((-3 : Int32), pd, ln) else (kb (α := Nat → Int32) (upd pd ln.toNatClampNeg x1) (fun z_f6 => ((ln + 1), z_f6, (ln + 1)))))) := hX
  refine lv_iload_n hx hb dX5_append_0 rfl (lv_at hl 1 rfl) ?_
  refine lv_bipush (v := 33) hx hb dX5_append_1 (by decide) ?_
  refine lv_bipush (v := 126) hx hb dX5_append_3 (by decide) ?_
  have hPs : va_P D vwCl ([] ++ ([] ++ (MO cI h0 a sv pa pn sn kp pd ln so po wr lt fr sc tm hd st))) H := hP
  have hDs : va_D A ([] ++ ([] ++ (MO cI h0 a sv pa pn sn kp pd ln so po wr lt fr sc tm hd st))) := hD
  refine k_behi (X := []) (Y := (MO cI h0 a sv pa pn sn kp pd ln so po wr lt fr sc tm hd st)) (va_runS (As := [.int x1, .int 33, .int 126]) (rest := []) ⟨hx, hb, hml, hown, hts⟩ (c_X5_in l D cI cC cQ H.size x1 33 126) (kcwS hts wd_ml_RX5_25 wd_st_yX5_in wd_ini_RX5 wd_code_yX5_in rfl rfl hd_X5_in ⟨Nat.le_of_ble_eq_true rfl, Nat.le_of_ble_eq_true rfl⟩) ⟨in_blind, k_pre hK (pa_l (pa_r hPs)) (da_l (da_r hDs)) hN⟩ rfl rfl hl.1 rfl (lv_room (Nat.le_of_ble_eq_true rfl)) dX5_append_5 ⟨Nat.le_of_ble_eq_true rfl, Nat.le_of_ble_eq_true rfl⟩) hPs hDs hS hA (fun r1 u2 H locs hw3 hP hD hS => ?_)
  have hP : va_P D vwCl (MO cI h0 a sv pa pn sn kp pd ln so po wr lt fr sc tm hd st) H := hP
  have hD : va_D A (MO cI h0 a sv pa pn sn kp pd ln so po wr lt fr sc tm hd st) := hD
  have hw3 : r1 = (sh_X5_in x1 33 126) := hw3
  subst hw3
  refine lv_if_ne (tgt := 13) hx hb dX5_append_8 (by decide) (fun c4 => ?_) (fun c4 => ?_)
  · have hq := it_neg hq c4
    refine lv_aload_n hx hb dX5_append_13 rfl (lv_at hl 0 rfl) ?_
    refine va_get (D := D) (ci := 5) (v := .int ln) (C := RX5) (T := TX5) (N := 16) hx hb hts inA5 hown hK hP 0 rfl rfl 6 (by decide) (hts _ wd_fl_RX5_82) (fun _ h9 => h9) rfl dX5_append_14 ?_
    refine lv_bipush (v := 60) hx hb dX5_append_17 (by decide) ?_
    refine lv_icmp_ne (tgt := 25) hx hb dX5_append_19 (by decide) (fun c5 => ?_) (fun c5 => ?_)
    · have hq := it_neg hq c5
      refine lv_aload_n hx hb dX5_append_25 rfl (lv_at hl 0 rfl) ?_
      refine va_get (D := D) (ci := 5) (v := .ref (a 3)) (C := RX5) (T := TX5) (N := 16) hx hb hts inA5 hown hK hP 0 rfl rfl 5 (by decide) (hts _ wd_fl_RX5_19) (fun _ h9 => h9) rfl dX5_append_26 ?_
      refine lv_aload_n hx hb dX5_append_29 rfl (lv_at hl 0 rfl) ?_
      refine va_get (D := D) (ci := 5) (v := .int ln) (C := RX5) (T := TX5) (N := 16) hx hb hts inA5 hown hK hP 0 rfl rfl 6 (by decide) (hts _ wd_fl_RX5_82) (fun _ h9 => h9) rfl dX5_append_30 ?_
      refine lv_iload_n hx hb dX5_append_33 rfl (lv_at hl 1 rfl) ?_
      refine va_iast hx hb hK hP hD hS 4 0 rfl rfl (vp_decr hln c5 (by decide)) dX5_append_34 (fun H locs hP hD hS => ?_)
      have hP : va_P D vwCl (MO cI h0 a sv pa pn sn kp (upd pd ln.toNatClampNeg x1) ln so po wr lt fr sc tm hd st) H := hP
      have hD : va_D A (MO cI h0 a sv pa pn sn kp (upd pd ln.toNatClampNeg x1) ln so po wr lt fr sc tm hd st) := hD
      obtain ⟨f6, hf7⟩ : ∃ z : Nat → Int32, z = (upd pd ln.toNatClampNeg x1) := ⟨_, rfl⟩
      have hP : va_P D vwCl (MO cI h0 a sv pa pn sn kp f6 ln so po wr lt fr sc tm hd st) H := by rw [hf7]; exact hP
      have hD : va_D A (MO cI h0 a sv pa pn sn kp f6 ln so po wr lt fr sc tm hd st) := by rw [hf7]; exact hD
      have hq := kb_to hq hf7
      refine lv_aload_n hx hb dX5_append_35 rfl (lv_at hl 0 rfl) ?_
      refine lv_dup hx hb dX5_append_36 rfl ?_
      refine va_get (D := D) (ci := 5) (v := .int ln) (C := RX5) (T := TX5) (N := 16) hx hb hts inA5 hown hK hP 0 rfl rfl 6 (by decide) (hts _ wd_fl_RX5_82) (fun _ h9 => h9) rfl dX5_append_37 ?_
      refine lv_iconst (v := 1) hx hb dX5_append_40 (by decide) ?_
      refine lv_iadd hx hb dX5_append_41 ?_
      refine va_put (D := D) (ci := 5) (v := .int (ln + 1)) (ty := .int) (C := RX5) (T := TX5) (N := 16) hx hb hts inA5 tyX5 tyX5_ok nmX5 hown hK hP hD hS 0 rfl rfl 6 (by decide) (hts _ wd_fl_RX5_82) (fun _ h9 => h9) rfl (by decide +kernel) rfl rfl (Nat.le_of_ble_eq_true rfl) dX5_append_42 (fun H locs hP hD hS => ?_)
      have hP : va_P D vwCl (MO cI h0 a sv pa pn sn kp f6 (ln + 1) so po wr lt fr sc tm hd st) H := hP
      have hD : va_D A (MO cI h0 a sv pa pn sn kp f6 (ln + 1) so po wr lt fr sc tm hd st) := hD
      refine lv_aload_n hx hb dX5_append_45 rfl (lv_at hl 0 rfl) ?_
      refine va_get (D := D) (ci := 5) (v := .int (ln + 1)) (C := RX5) (T := TX5) (N := 16) hx hb hts inA5 hown hK hP 0 rfl rfl 6 (by decide) (hts _ wd_fl_RX5_82) (fun _ h9 => h9) rfl dX5_append_46 ?_
      exact hret _ _ _ _ ((ln + 1)) (f6, (ln + 1)) dX5_append_49 rfl (hq.symm.trans hX) hP hD hS
    · have hq := it_pos hq c5
      refine lv_bipush (v := (-3)) hx hb dX5_append_22 (by decide) ?_
      exact hret _ _ _ _ ((-3)) (pd, ln) dX5_append_24 rfl (hq.symm.trans hX) hP hD hS
  · have hq := it_pos hq c4
    refine lv_iconst (v := (-1)) hx hb dX5_append_11 (by decide) ?_
    exact hret _ _ _ _ ((-1)) (pd, ln) dX5_append_12 rfl (hq.symm.trans hX) hP hD hS
def sh_X5_why (so : Nat → Int32) (x1 : Int32) : Int32 := (if (sh_X5_in x1 0 3) = 0 then (-1 : Int32) else (if (so (0 : Int32).toNatClampNeg) = 0 then (-4 : Int32) else (so x1.toNatClampNeg)))
abbrev rm_X5_why : Room := { frames := 1, cells := 0, slots := 0, locals := 22 }
theorem hd_X5_why : hdT yX5_why 1 := by decide +kernel
set_option maxHeartbeats 40000000 in
set_option maxRecDepth 100000 in
theorem c_X5_why (l : Launch) (D : va_G) (cI cC cQ : ClassId) (sz : Nat) (h0 : Nat) (a : Nat → Nat) (sv : Nat → Int32) (pa : Nat → Int32) (pn : Int32) (sn : Nat → Int32) (kp : Int32) (pd : Nat → Int32) (ln : Int32) (so : Nat → Int32) (po : Int32) (wr : Int32) (lt : Int32) (fr : Int32) (sc : Int32) (tm : Int32) (hd : Int32) (st : Int32) (x1 : Int32)  : Met l yX5_why (wsO yX5_why cX5_why 2 (some .int)) rm_X5_why (va_Pc [.ref h0, .int x1] (inW D (TYS cI cC cQ) (MO cI h0 a sv pa pn sn kp pd ln so po wr lt fr sc tm hd st) sz)) (va_Qi (fun (r : Int32) (_ : Unit) => r = sh_X5_why so x1) (fun (u : Unit) => atW D (TYS cI cC cQ) (va_A (MO cI h0 a sv pa pn sn kp pd ln so po wr lt fr sc tm hd st) sz) (MO cI h0 a sv pa pn sn kp pd ln so po wr lt fr sc tm hd st)) (va_A (MO cI h0 a sv pa pn sn kp pd ln so po wr lt fr sc tm hd st) sz)) 0 0 (va_A (MO cI h0 a sv pa pn sn kp pd ln so po wr lt fr sc tm hd st) sz) := by
  refine k_meti .int rfl (by decide) (Nat.le_of_ble_eq_true rfl) ?_
  intro p e s m args below meth c A ls Q H locs hargs hret hx hb hts hown hml hname hN hA hS hP hK hD hl
  have hl : lv_has ls 2 [(0, .ref h0), (1, .int x1)] := hl
  obtain ⟨Xq, hX⟩ : ∃ Xq, Xq = sh_X5_why so x1 := ⟨_, rfl⟩
  have hq : Xq = (if (sh_X5_in x1 0 3) = 0 then (-1 : Int32) else (if (so (0 : Int32).toNatClampNeg) = 0 then (-4 : Int32) else (so x1.toNatClampNeg))) := hX
  refine lv_iload_n hx hb dX5_why_0 rfl (lv_at hl 1 rfl) ?_
  refine lv_iconst (v := 0) hx hb dX5_why_1 (by decide) ?_
  refine lv_iconst (v := 3) hx hb dX5_why_2 (by decide) ?_
  have hPs : va_P D vwCl ([] ++ ([] ++ (MO cI h0 a sv pa pn sn kp pd ln so po wr lt fr sc tm hd st))) H := hP
  have hDs : va_D A ([] ++ ([] ++ (MO cI h0 a sv pa pn sn kp pd ln so po wr lt fr sc tm hd st))) := hD
  refine k_behi (X := []) (Y := (MO cI h0 a sv pa pn sn kp pd ln so po wr lt fr sc tm hd st)) (va_runS (As := [.int x1, .int 0, .int 3]) (rest := []) ⟨hx, hb, hml, hown, hts⟩ (c_X5_in l D cI cC cQ H.size x1 0 3) (kcwS hts wd_ml_RX5_25 wd_st_yX5_in wd_ini_RX5 wd_code_yX5_in rfl rfl hd_X5_in ⟨Nat.le_of_ble_eq_true rfl, Nat.le_of_ble_eq_true rfl⟩) ⟨in_blind, k_pre hK (pa_l (pa_r hPs)) (da_l (da_r hDs)) hN⟩ rfl rfl hl.1 rfl (lv_room (Nat.le_of_ble_eq_true rfl)) dX5_why_3 ⟨Nat.le_of_ble_eq_true rfl, Nat.le_of_ble_eq_true rfl⟩) hPs hDs hS hA (fun r1 u2 H locs hw3 hP hD hS => ?_)
  have hP : va_P D vwCl (MO cI h0 a sv pa pn sn kp pd ln so po wr lt fr sc tm hd st) H := hP
  have hD : va_D A (MO cI h0 a sv pa pn sn kp pd ln so po wr lt fr sc tm hd st) := hD
  have hw3 : r1 = (sh_X5_in x1 0 3) := hw3
  subst hw3
  refine lv_if_ne (tgt := 11) hx hb dX5_why_6 (by decide) (fun c4 => ?_) (fun c4 => ?_)
  · have hq := it_neg hq c4
    refine lv_aload_n hx hb dX5_why_11 rfl (lv_at hl 0 rfl) ?_
    refine va_get (D := D) (ci := 5) (v := .ref (a 4)) (C := RX5) (T := TX5) (N := 16) hx hb hts inA5 hown hK hP 0 rfl rfl 7 (by decide) (hts _ wd_fl_RX5_22) (fun _ h9 => h9) rfl dX5_why_12 ?_
    refine lv_iconst (v := 0) hx hb dX5_why_15 (by decide) ?_
    refine va_iald hx hb hK hP 5 0 rfl rfl (k_in (by decide)) dX5_why_16 ?_
    refine lv_if_ne (tgt := 25) hx hb dX5_why_17 (by decide) (fun c5 => ?_) (fun c5 => ?_)
    · have hq := it_neg hq c5
      refine lv_aload_n hx hb dX5_why_25 rfl (lv_at hl 0 rfl) ?_
      refine va_get (D := D) (ci := 5) (v := .ref (a 4)) (C := RX5) (T := TX5) (N := 16) hx hb hts inA5 hown hK hP 0 rfl rfl 7 (by decide) (hts _ wd_fl_RX5_22) (fun _ h9 => h9) rfl dX5_why_26 ?_
      refine lv_iload_n hx hb dX5_why_29 rfl (lv_at hl 1 rfl) ?_
      refine va_iald hx hb hK hP 5 0 rfl rfl (inIn (n := 4) c4 (by decide)) dX5_why_30 ?_
      exact hret _ _ _ _ ((so x1.toNatClampNeg)) () dX5_why_31 rfl (hq.symm.trans hX) hP hD hS
    · have hq := it_pos hq c5
      refine lv_bipush (v := (-4)) hx hb dX5_why_20 (by decide) ?_
      refine lv_goto (tgt := 31) hx hb dX5_why_22 (by decide) ?_
      exact hret _ _ _ _ ((-4)) () dX5_why_31 rfl (hq.symm.trans hX) hP hD hS
  · have hq := it_pos hq c4
    refine lv_iconst (v := (-1)) hx hb dX5_why_9 (by decide) ?_
    exact hret _ _ _ _ ((-1)) () dX5_why_10 rfl (hq.symm.trans hX) hP hD hS
