/-- the cells of a Pad -/
abbrev PW (cI cC : ClassId) (h0 : Nat) (a : Nat → Nat) (sg : Nat → Int32) (ln po dd : Int32) (lt pl f1s s2s tms : Nat → Int32) : va_W := [(h0, .inr (2, [.ref (a 0), .int ln, .int po, .int dd, .ref (a 1), .ref (a 2), .ref (a 3), .ref (a 4), .ref (a 5)])), (a 0, .inl (cC, 60, .inl sg)), (a 1, .inl (cC, 30, .inl lt)), (a 2, .inl (cI, 30, .inl pl)), (a 3, .inl (cI, 30, .inl f1s)), (a 4, .inl (cI, 30, .inl s2s)), (a 5, .inl (cI, 30, .inl tms))]
/-- the cell of a Stop -/
abbrev SW (h0 : Nat) (rs de pc pg : Int32) : va_W := [(h0, .inr (3, [.int rs, .int de, .int pc, .int pg]))]
/-- the place in the pad, and its length -/
def poOK (po ln : Int32) : Prop := vp_in po 61 ∧ vp_in ln 61
theorem po_in {po ln : Int32} (h : poOK po ln) (c : ¬ ln ≤ po) : vp_in po 60 := by
  obtain ⟨h1, h2⟩ := h
  rw [vp_in_iff] at *
  rw [Int32.le_iff_toInt_le] at c
  omega
theorem dd_in {dd : Int32} (h : ¬ dd < 0) (c : dd < 30) : vp_in dd 30 := by
  rw [vp_in_iff]
  rw [Int32.lt_iff_toInt_lt] at h c
  have : (0 : Int32).toInt = 0 := rfl
  have : (30 : Int32).toInt = 30 := rfl
  omega
theorem po_up {po ln : Int32} (h : poOK po ln) (c : ¬ ln ≤ po) : poOK (po + 1) ln := by
  obtain ⟨h1, h2⟩ := h
  refine ⟨?_, h2⟩
  rw [vp_in_iff] at *
  rw [Int32.le_iff_toInt_le] at c
  have e : (po + 1).toInt = po.toInt + 1 := by
    rw [Int32.toInt_add]
    exact Int.bmod_eq_of_le (by simp; omega) (by simp; omega)
  omega
theorem poOK.place {po ln : Int32} (h : poOK po ln) : vp_in po 61 := h.1

def sh_X3_note (x1 : Int32) (x2 : Int32) (x3 : Int32) (x4 : Int32) : (Int32) × (Int32) × (Int32) × (Int32) := (x1, x2, x3, x4)
abbrev rm_X3_note : Room := { frames := 0, cells := 0, slots := 0, locals := 0 }
theorem hd_X3_note : hdT yX3_note 4 := by decide +kernel
set_option maxHeartbeats 40000000 in
set_option maxRecDepth 100000 in
theorem c_X3_note (l : Launch) (D : va_G) (cI cC cQ : ClassId) (sz : Nat) (h0 : Nat) (rs : Int32) (de : Int32) (pc : Int32) (pg : Int32) (x1 : Int32) (x2 : Int32) (x3 : Int32) (x4 : Int32)  : Met l yX3_note (wsO yX3_note cX3_note 5 none) rm_X3_note (va_Pc [.ref h0, .int x1, .int x2, .int x3, .int x4] (inW D (TYS cI cC cQ) (SW h0 rs de pc pg) sz)) (va_Qv (fun (u : (Int32) × (Int32) × (Int32) × (Int32)) => u = sh_X3_note x1 x2 x3 x4) (fun (u : (Int32) × (Int32) × (Int32) × (Int32)) => atW D (TYS cI cC cQ) (va_A (SW h0 rs de pc pg) sz) (SW h0 u.1 u.2.1 u.2.2.1 u.2.2.2)) (va_A (SW h0 rs de pc pg) sz)) 0 0 (va_A (SW h0 rs de pc pg) sz) := by
  refine k_metv rfl (by decide) (Nat.le_of_ble_eq_true rfl) ?_
  intro p e s m args below meth c A ls Q H locs hargs hret hx hb hts hown hml hname hN hA hS hP hK hD hl
  have hl : lv_has ls 5 [(0, .ref h0), (1, .int x1), (2, .int x2), (3, .int x3), (4, .int x4)] := hl
  obtain ⟨Xq, hX⟩ : ∃ Xq, Xq = sh_X3_note x1 x2 x3 x4 := ⟨_, rfl⟩
  have hq : Xq = (x1, x2, x3, x4) := hX
  refine lv_aload_n hx hb dX3_note_0 rfl (lv_at hl 0 rfl) ?_
  refine lv_iload_n hx hb dX3_note_1 rfl (lv_at hl 1 rfl) ?_
  refine va_put (D := D) (ci := 3) (v := .int x1) (ty := .int) (C := RX3) (T := TX3) (N := 4) hx hb hts inA3 tyX3 tyX3_ok nmX3 hown hK hP hD hS 0 rfl rfl 0 (by decide) (hts _ wd_fl_RX3_9) (fun _ h9 => h9) rfl (by decide +kernel) rfl rfl (Nat.le_of_ble_eq_true rfl) dX3_note_2 (fun H locs hP hD hS => ?_)
  have hP : va_P D vwCl (SW h0 x1 de pc pg) H := hP
  have hD : va_D A (SW h0 x1 de pc pg) := hD
  refine lv_aload_n hx hb dX3_note_5 rfl (lv_at hl 0 rfl) ?_
  refine lv_iload_n hx hb dX3_note_6 rfl (lv_at hl 2 rfl) ?_
  refine va_put (D := D) (ci := 3) (v := .int x2) (ty := .int) (C := RX3) (T := TX3) (N := 4) hx hb hts inA3 tyX3 tyX3_ok nmX3 hown hK hP hD hS 0 rfl rfl 1 (by decide) (hts _ wd_fl_RX3_15) (fun _ h9 => h9) rfl (by decide +kernel) rfl rfl (Nat.le_of_ble_eq_true rfl) dX3_note_7 (fun H locs hP hD hS => ?_)
  have hP : va_P D vwCl (SW h0 x1 x2 pc pg) H := hP
  have hD : va_D A (SW h0 x1 x2 pc pg) := hD
  refine lv_aload_n hx hb dX3_note_10 rfl (lv_at hl 0 rfl) ?_
  refine lv_iload_n hx hb dX3_note_11 rfl (lv_at hl 3 rfl) ?_
  refine va_put (D := D) (ci := 3) (v := .int x3) (ty := .int) (C := RX3) (T := TX3) (N := 4) hx hb hts inA3 tyX3 tyX3_ok nmX3 hown hK hP hD hS 0 rfl rfl 2 (by decide) (hts _ wd_fl_RX3_18) (fun _ h9 => h9) rfl (by decide +kernel) rfl rfl (Nat.le_of_ble_eq_true rfl) dX3_note_12 (fun H locs hP hD hS => ?_)
  have hP : va_P D vwCl (SW h0 x1 x2 x3 pg) H := hP
  have hD : va_D A (SW h0 x1 x2 x3 pg) := hD
  refine lv_aload_n hx hb dX3_note_15 rfl (lv_at hl 0 rfl) ?_
  refine lv_iload hx hb dX3_note_16 (lv_at hl 4 rfl) ?_
  refine va_put (D := D) (ci := 3) (v := .int x4) (ty := .int) (C := RX3) (T := TX3) (N := 4) hx hb hts inA3 tyX3 tyX3_ok nmX3 hown hK hP hD hS 0 rfl rfl 3 (by decide) (hts _ wd_fl_RX3_21) (fun _ h9 => h9) rfl (by decide +kernel) rfl rfl (Nat.le_of_ble_eq_true rfl) dX3_note_18 (fun H locs hP hD hS => ?_)
  have hP : va_P D vwCl (SW h0 x1 x2 x3 x4) H := hP
  have hD : va_D A (SW h0 x1 x2 x3 x4) := hD
  exact hret _ _ _ _ (x1, x2, x3, x4) dX3_note_21 (hq.symm.trans hX) hP hD hS
def sh_X3_forget  : (Int32) × (Int32) × (Int32) × (Int32) := (kb (sh_X3_note (-4) (-4) (-4) (-4)) (fun z_v4 => (z_v4.1, z_v4.2.1, z_v4.2.2.1, z_v4.2.2.2)))
abbrev rm_X3_forget : Room := { frames := 1, cells := 0, slots := 0, locals := 24 }
theorem hd_X3_forget : hdT yX3_forget 0 := by decide +kernel
set_option maxHeartbeats 40000000 in
set_option maxRecDepth 100000 in
theorem c_X3_forget (l : Launch) (D : va_G) (cI cC cQ : ClassId) (sz : Nat) (h0 : Nat) (rs : Int32) (de : Int32) (pc : Int32) (pg : Int32)   : Met l yX3_forget (wsO yX3_forget cX3_forget 1 none) rm_X3_forget (va_Pc [.ref h0] (inW D (TYS cI cC cQ) (SW h0 rs de pc pg) sz)) (va_Qv (fun (u : (Int32) × (Int32) × (Int32) × (Int32)) => u = sh_X3_forget) (fun (u : (Int32) × (Int32) × (Int32) × (Int32)) => atW D (TYS cI cC cQ) (va_A (SW h0 rs de pc pg) sz) (SW h0 u.1 u.2.1 u.2.2.1 u.2.2.2)) (va_A (SW h0 rs de pc pg) sz)) 0 0 (va_A (SW h0 rs de pc pg) sz) := by
  refine k_metv rfl (by decide) (Nat.le_of_ble_eq_true rfl) ?_
  intro p e s m args below meth c A ls Q H locs hargs hret hx hb hts hown hml hname hN hA hS hP hK hD hl
  have hl : lv_has ls 1 [(0, .ref h0)] := hl
  obtain ⟨Xq, hX⟩ : ∃ Xq, Xq = sh_X3_forget := ⟨_, rfl⟩
  have hq : Xq = (kb (sh_X3_note (-4) (-4) (-4) (-4)) (fun z_v4 => (z_v4.1, z_v4.2.1, z_v4.2.2.1, z_v4.2.2.2))) := hX
  refine lv_aload_n hx hb dX3_forget_0 rfl (lv_at hl 0 rfl) ?_
  refine lv_bipush (v := (-4)) hx hb dX3_forget_1 (by decide) ?_
  refine lv_bipush (v := (-4)) hx hb dX3_forget_3 (by decide) ?_
  refine lv_bipush (v := (-4)) hx hb dX3_forget_5 (by decide) ?_
  refine lv_bipush (v := (-4)) hx hb dX3_forget_7 (by decide) ?_
  have hPs := k_self hP
  have hDs := k_selfD hD
  refine k_behv (X := []) (Y := []) (va_runV (As := [.int (-4), .int (-4), .int (-4), .int (-4)]) (rest := []) ⟨hx, hb, hml, hown, hts⟩ (c_X3_note l D cI cC cQ H.size h0 rs de pc pg (-4) (-4) (-4) (-4)) (kcwV hts wd_ml_RX3_24 wd_im_yX3_note wd_sel_yX3_note wd_ini_RX3 wd_code_yX3_note rfl rfl rfl hd_X3_note ⟨Nat.le_of_ble_eq_true rfl, Nat.le_of_ble_eq_true rfl⟩) ⟨in_blind, va_recv hK (pa_l (pa_r hPs)) (ci := 3) (q0 := 0) rfl rfl, k_pre hK (pa_l (pa_r hPs)) (da_l (da_r hDs)) hN⟩ rfl rfl hl.1 rfl (lv_room (Nat.le_of_ble_eq_true rfl)) dX3_forget_9 ⟨Nat.le_of_ble_eq_true rfl, Nat.le_of_ble_eq_true rfl⟩) hPs hDs hS hA (fun u2 H locs hw3 hP hD hS => ?_)
  obtain ⟨v4, v5, v6, v7⟩ := u2
  have hP := k_unP hP
  have hD := k_unD hD
  have hP : va_P D vwCl (SW h0 v4 v5 v6 v7) H := hP
  have hD : va_D A (SW h0 v4 v5 v6 v7) := hD
  have hw3 : (v4, v5, v6, v7) = (sh_X3_note (-4) (-4) (-4) (-4)) := hw3
  have hq := kb_to hq hw3
  exact hret _ _ _ _ (v4, v5, v6, v7) dX3_forget_12 (hq.symm.trans hX) hP hD hS
def sh_X3_known (rs : Int32) : Int32 := (if rs = (-4) then (0 : Int32) else (1 : Int32))
abbrev rm_X3_known : Room := { frames := 0, cells := 0, slots := 0, locals := 0 }
theorem hd_X3_known : hdT yX3_known 0 := by decide +kernel
set_option maxHeartbeats 40000000 in
set_option maxRecDepth 100000 in
theorem c_X3_known (l : Launch) (D : va_G) (cI cC cQ : ClassId) (sz : Nat) (h0 : Nat) (rs : Int32) (de : Int32) (pc : Int32) (pg : Int32)   : Met l yX3_known (wsO yX3_known cX3_known 1 (some .boolean)) rm_X3_known (va_Pc [.ref h0] (inW D (TYS cI cC cQ) (SW h0 rs de pc pg) sz)) (va_Qi (fun (r : Int32) (_ : Unit) => r = sh_X3_known rs) (fun (u : Unit) => atW D (TYS cI cC cQ) (va_A (SW h0 rs de pc pg) sz) (SW h0 rs de pc pg)) (va_A (SW h0 rs de pc pg) sz)) 0 0 (va_A (SW h0 rs de pc pg) sz) := by
  refine k_meti .boolean rfl (by decide) (Nat.le_of_ble_eq_true rfl) ?_
  intro p e s m args below meth c A ls Q H locs hargs hret hx hb hts hown hml hname hN hA hS hP hK hD hl
  have hl : lv_has ls 1 [(0, .ref h0)] := hl
  obtain ⟨Xq, hX⟩ : ∃ Xq, Xq = sh_X3_known rs := ⟨_, rfl⟩
  have hq : Xq = (if rs = (-4) then (0 : Int32) else (1 : Int32)) := hX
  refine lv_aload_n hx hb dX3_known_0 rfl (lv_at hl 0 rfl) ?_
  refine va_get (D := D) (ci := 3) (v := .int rs) (C := RX3) (T := TX3) (N := 4) hx hb hts inA3 hown hK hP 0 rfl rfl 0 (by decide) (hts _ wd_fl_RX3_9) (fun _ h9 => h9) rfl dX3_known_1 ?_
  refine lv_bipush (v := (-4)) hx hb dX3_known_4 (by decide) ?_
  refine lv_icmp_eq (tgt := 13) hx hb dX3_known_6 (by decide) (fun c1 => ?_) (fun c1 => ?_)
  · have hq := it_pos hq c1
    refine lv_iconst (v := 0) hx hb dX3_known_13 (by decide) ?_
    exact hret _ _ _ _ (0) () dX3_known_14 rfl (hq.symm.trans hX) hP hD hS
  · have hq := it_neg hq c1
    refine lv_iconst (v := 1) hx hb dX3_known_9 (by decide) ?_
    refine lv_goto (tgt := 14) hx hb dX3_known_10 (by decide) ?_
    exact hret _ _ _ _ (1) () dX3_known_14 rfl (hq.symm.trans hX) hP hD hS
def sh_X2_wipe  : (Int32) := (0 : Int32)
abbrev rm_X2_wipe : Room := { frames := 0, cells := 0, slots := 0, locals := 0 }
theorem hd_X2_wipe : hdT yX2_wipe 0 := by decide +kernel
set_option maxHeartbeats 40000000 in
set_option maxRecDepth 100000 in
theorem c_X2_wipe (l : Launch) (D : va_G) (cI cC cQ : ClassId) (sz : Nat) (h0 : Nat) (a : Nat → Nat) (sg : Nat → Int32) (ln : Int32) (po : Int32) (dd : Int32) (lt : Nat → Int32) (pl : Nat → Int32) (f1s : Nat → Int32) (s2s : Nat → Int32) (tms : Nat → Int32)   : Met l yX2_wipe (wsO yX2_wipe cX2_wipe 1 none) rm_X2_wipe (va_Pc [.ref h0] (inW D (TYS cI cC cQ) (PW cI cC h0 a sg ln po dd lt pl f1s s2s tms) sz)) (va_Qv (fun (u : (Int32)) => u = sh_X2_wipe) (fun (u : (Int32)) => atW D (TYS cI cC cQ) (va_A (PW cI cC h0 a sg ln po dd lt pl f1s s2s tms) sz) (PW cI cC h0 a sg u po dd lt pl f1s s2s tms)) (va_A (PW cI cC h0 a sg ln po dd lt pl f1s s2s tms) sz)) 0 0 (va_A (PW cI cC h0 a sg ln po dd lt pl f1s s2s tms) sz) := by
  refine k_metv rfl (by decide) (Nat.le_of_ble_eq_true rfl) ?_
  intro p e s m args below meth c A ls Q H locs hargs hret hx hb hts hown hml hname hN hA hS hP hK hD hl
  have hl : lv_has ls 1 [(0, .ref h0)] := hl
  obtain ⟨Xq, hX⟩ : ∃ Xq, Xq = sh_X2_wipe := ⟨_, rfl⟩
  have hq : Xq = (0 : Int32) := hX
  refine lv_aload_n hx hb dX2_wipe_0 rfl (lv_at hl 0 rfl) ?_
  refine lv_iconst (v := 0) hx hb dX2_wipe_1 (by decide) ?_
  refine va_put (D := D) (ci := 2) (v := .int 0) (ty := .int) (C := RX2) (T := TX2) (N := 9) hx hb hts inA2 tyX2 tyX2_ok nmX2 hown hK hP hD hS 0 rfl rfl 1 (by decide) (hts _ wd_fl_RX2_15) (fun _ h9 => h9) rfl (by decide +kernel) rfl rfl (Nat.le_of_ble_eq_true rfl) dX2_wipe_2 (fun H locs hP hD hS => ?_)
  have hP : va_P D vwCl (PW cI cC h0 a sg 0 po dd lt pl f1s s2s tms) H := hP
  have hD : va_D A (PW cI cC h0 a sg 0 po dd lt pl f1s s2s tms) := hD
  exact hret _ _ _ _ 0 dX2_wipe_5 (hq.symm.trans hX) hP hD hS
def sh_X2_hasRoom (ln : Int32) : Int32 := (if 60 ≤ ln then (0 : Int32) else (1 : Int32))
abbrev rm_X2_hasRoom : Room := { frames := 0, cells := 0, slots := 0, locals := 0 }
theorem hd_X2_hasRoom : hdT yX2_hasRoom 0 := by decide +kernel
set_option maxHeartbeats 40000000 in
set_option maxRecDepth 100000 in
theorem c_X2_hasRoom (l : Launch) (D : va_G) (cI cC cQ : ClassId) (sz : Nat) (h0 : Nat) (a : Nat → Nat) (sg : Nat → Int32) (ln : Int32) (po : Int32) (dd : Int32) (lt : Nat → Int32) (pl : Nat → Int32) (f1s : Nat → Int32) (s2s : Nat → Int32) (tms : Nat → Int32)   : Met l yX2_hasRoom (wsO yX2_hasRoom cX2_hasRoom 1 (some .boolean)) rm_X2_hasRoom (va_Pc [.ref h0] (inW D (TYS cI cC cQ) (PW cI cC h0 a sg ln po dd lt pl f1s s2s tms) sz)) (va_Qi (fun (r : Int32) (_ : Unit) => r = sh_X2_hasRoom ln) (fun (u : Unit) => atW D (TYS cI cC cQ) (va_A (PW cI cC h0 a sg ln po dd lt pl f1s s2s tms) sz) (PW cI cC h0 a sg ln po dd lt pl f1s s2s tms)) (va_A (PW cI cC h0 a sg ln po dd lt pl f1s s2s tms) sz)) 0 0 (va_A (PW cI cC h0 a sg ln po dd lt pl f1s s2s tms) sz) := by
  refine k_meti .boolean rfl (by decide) (Nat.le_of_ble_eq_true rfl) ?_
  intro p e s m args below meth c A ls Q H locs hargs hret hx hb hts hown hml hname hN hA hS hP hK hD hl
  have hl : lv_has ls 1 [(0, .ref h0)] := hl
  obtain ⟨Xq, hX⟩ : ∃ Xq, Xq = sh_X2_hasRoom ln := ⟨_, rfl⟩
  have hq : Xq = (if 60 ≤ ln then (0 : Int32) else (1 : Int32)) := hX
  refine lv_aload_n hx hb dX2_hasRoom_0 rfl (lv_at hl 0 rfl) ?_
  refine va_get (D := D) (ci := 2) (v := .int ln) (C := RX2) (T := TX2) (N := 9) hx hb hts inA2 hown hK hP 0 rfl rfl 1 (by decide) (hts _ wd_fl_RX2_15) (fun _ h9 => h9) rfl dX2_hasRoom_1 ?_
  refine lv_bipush (v := 60) hx hb dX2_hasRoom_4 (by decide) ?_
  refine lv_icmp_ge (tgt := 13) hx hb dX2_hasRoom_6 (by decide) (fun c1 => ?_) (fun c1 => ?_)
  · have hq := it_pos hq c1
    refine lv_iconst (v := 0) hx hb dX2_hasRoom_13 (by decide) ?_
    exact hret _ _ _ _ (0) () dX2_hasRoom_14 rfl (hq.symm.trans hX) hP hD hS
  · have hq := it_neg hq c1
    refine lv_iconst (v := 1) hx hb dX2_hasRoom_9 (by decide) ?_
    refine lv_goto (tgt := 14) hx hb dX2_hasRoom_10 (by decide) ?_
    exact hret _ _ _ _ (1) () dX2_hasRoom_14 rfl (hq.symm.trans hX) hP hD hS
theorem room_in {ln : Int32} (h : vp_in ln 61) (c : ¬ sh_X2_hasRoom ln = 0) : vp_in ln 60 := by
  unfold sh_X2_hasRoom at c
  split at c
  · exact absurd rfl c
  · rename_i q
    rw [vp_in_iff] at *
    rw [Int32.le_iff_toInt_le] at q
    have : (60 : Int32).toInt = 60 := rfl
    omega
def sh_X2_add (sg : Nat → Int32) (ln : Int32) (x1 : Int32) : (Nat → Int32) × (Int32) := (if (sh_X2_hasRoom ln) = 0 then (sg, ln) else ((upd sg ln.toNatClampNeg (vp_nar .char x1)), (ln + 1)))
abbrev rm_X2_add : Room := { frames := 1, cells := 0, slots := 0, locals := 20 }
theorem hd_X2_add : hdT yX2_add 1 := by decide +kernel
set_option maxHeartbeats 40000000 in
set_option maxRecDepth 100000 in
theorem c_X2_add (l : Launch) (D : va_G) (cI cC cQ : ClassId) (sz : Nat) (h0 : Nat) (a : Nat → Nat) (sg : Nat → Int32) (ln : Int32) (po : Int32) (dd : Int32) (lt : Nat → Int32) (pl : Nat → Int32) (f1s : Nat → Int32) (s2s : Nat → Int32) (tms : Nat → Int32) (x1 : Int32) (hln : vp_in ln 61) : Met l yX2_add (wsO yX2_add cX2_add 2 none) rm_X2_add (va_Pc [.ref h0, .int x1] (inW D (TYS cI cC cQ) (PW cI cC h0 a sg ln po dd lt pl f1s s2s tms) sz)) (va_Qv (fun (u : (Nat → Int32) × (Int32)) => u = sh_X2_add sg ln x1) (fun (u : (Nat → Int32) × (Int32)) => atW D (TYS cI cC cQ) (va_A (PW cI cC h0 a sg ln po dd lt pl f1s s2s tms) sz) (PW cI cC h0 a u.1 u.2 po dd lt pl f1s s2s tms)) (va_A (PW cI cC h0 a sg ln po dd lt pl f1s s2s tms) sz)) 0 0 (va_A (PW cI cC h0 a sg ln po dd lt pl f1s s2s tms) sz) := by
  refine k_metv rfl (by decide) (Nat.le_of_ble_eq_true rfl) ?_
  intro p e s m args below meth c A ls Q H locs hargs hret hx hb hts hown hml hname hN hA hS hP hK hD hl
  have hl : lv_has ls 2 [(0, .ref h0), (1, .int x1)] := hl
  obtain ⟨Xq, hX⟩ : ∃ Xq, Xq = sh_X2_add sg ln x1 := ⟨_, rfl⟩
  have hq : Xq = (if (sh_X2_hasRoom ln) = 0 then (sg, ln) else ((upd sg ln.toNatClampNeg (vp_nar .char x1)), (ln + 1))) := hX
  refine lv_aload_n hx hb dX2_add_0 rfl (lv_at hl 0 rfl) ?_
  have hPs := k_self hP
  have hDs := k_selfD hD
  refine k_behi (X := []) (Y := []) (va_runV (As := []) (rest := []) ⟨hx, hb, hml, hown, hts⟩ (c_X2_hasRoom l D cI cC cQ H.size h0 a sg ln po dd lt pl f1s s2s tms ) (kcwV hts wd_ml_RX2_41 wd_im_yX2_hasRoom wd_sel_yX2_hasRoom wd_ini_RX2 wd_code_yX2_hasRoom rfl rfl rfl hd_X2_hasRoom ⟨Nat.le_of_ble_eq_true rfl, Nat.le_of_ble_eq_true rfl⟩) ⟨in_blind, va_recv hK (pa_l (pa_r hPs)) (ci := 2) (q0 := 0) rfl rfl, k_pre hK (pa_l (pa_r hPs)) (da_l (da_r hDs)) hN⟩ rfl rfl hl.1 rfl (lv_room (Nat.le_of_ble_eq_true rfl)) dX2_add_1 ⟨Nat.le_of_ble_eq_true rfl, Nat.le_of_ble_eq_true rfl⟩) hPs hDs hS hA (fun r1 u2 H locs hw3 hP hD hS => ?_)
  have hP := k_unP hP
  have hD := k_unD hD
  have hP : va_P D vwCl (PW cI cC h0 a sg ln po dd lt pl f1s s2s tms) H := hP
  have hD : va_D A (PW cI cC h0 a sg ln po dd lt pl f1s s2s tms) := hD
  have hw3 : r1 = (sh_X2_hasRoom ln) := hw3
  subst hw3
  refine lv_if_eq (tgt := 27) hx hb dX2_add_4 (by decide) (fun c4 => ?_) (fun c4 => ?_)
  · have hq := it_pos hq c4
    exact hret _ _ _ _ (sg, ln) dX2_add_27 (hq.symm.trans hX) hP hD hS
  · have hq := it_neg hq c4
    refine lv_aload_n hx hb dX2_add_7 rfl (lv_at hl 0 rfl) ?_
    refine va_get (D := D) (ci := 2) (v := .ref (a 0)) (C := RX2) (T := TX2) (N := 9) hx hb hts inA2 hown hK hP 0 rfl rfl 0 (by decide) (hts _ wd_fl_RX2_11) (fun _ h9 => h9) rfl dX2_add_8 ?_
    refine lv_aload_n hx hb dX2_add_11 rfl (lv_at hl 0 rfl) ?_
    refine va_get (D := D) (ci := 2) (v := .int ln) (C := RX2) (T := TX2) (N := 9) hx hb hts inA2 hown hK hP 0 rfl rfl 1 (by decide) (hts _ wd_fl_RX2_15) (fun _ h9 => h9) rfl dX2_add_12 ?_
    refine lv_iload_n hx hb dX2_add_15 rfl (lv_at hl 1 rfl) ?_
    refine va_cast hx hb hK hP hD hS 1 1 rfl rfl (room_in hln c4) dX2_add_16 (fun H locs hP hD hS => ?_)
    have hP : va_P D vwCl (PW cI cC h0 a (upd sg ln.toNatClampNeg (vp_nar .char x1)) ln po dd lt pl f1s s2s tms) H := hP
    have hD : va_D A (PW cI cC h0 a (upd sg ln.toNatClampNeg (vp_nar .char x1)) ln po dd lt pl f1s s2s tms) := hD
    refine lv_aload_n hx hb dX2_add_17 rfl (lv_at hl 0 rfl) ?_
    refine lv_dup hx hb dX2_add_18 rfl ?_
    refine va_get (D := D) (ci := 2) (v := .int ln) (C := RX2) (T := TX2) (N := 9) hx hb hts inA2 hown hK hP 0 rfl rfl 1 (by decide) (hts _ wd_fl_RX2_15) (fun _ h9 => h9) rfl dX2_add_19 ?_
    refine lv_iconst (v := 1) hx hb dX2_add_22 (by decide) ?_
    refine lv_iadd hx hb dX2_add_23 ?_
    refine va_put (D := D) (ci := 2) (v := .int (ln + 1)) (ty := .int) (C := RX2) (T := TX2) (N := 9) hx hb hts inA2 tyX2 tyX2_ok nmX2 hown hK hP hD hS 0 rfl rfl 1 (by decide) (hts _ wd_fl_RX2_15) (fun _ h9 => h9) rfl (by decide +kernel) rfl rfl (Nat.le_of_ble_eq_true rfl) dX2_add_24 (fun H locs hP hD hS => ?_)
    have hP : va_P D vwCl (PW cI cC h0 a (upd sg ln.toNatClampNeg (vp_nar .char x1)) (ln + 1) po dd lt pl f1s s2s tms) H := hP
    have hD : va_D A (PW cI cC h0 a (upd sg ln.toNatClampNeg (vp_nar .char x1)) (ln + 1) po dd lt pl f1s s2s tms) := hD
    exact hret _ _ _ _ ((upd sg ln.toNatClampNeg (vp_nar .char x1)), (ln + 1)) dX2_add_27 (hq.symm.trans hX) hP hD hS
def sh_X2_read (sg : Nat → Int32) (ln : Int32) (po : Int32) (x1 : Int32) : Int32 × (Int32) := (if ln ≤ po then ((0 : Int32), po) else (if (sg po.toNatClampNeg) = x1 then ((1 : Int32), (po + 1)) else ((0 : Int32), po)))
abbrev rm_X2_read : Room := { frames := 0, cells := 0, slots := 0, locals := 0 }
theorem hd_X2_read : hdT yX2_read 1 := by decide +kernel
set_option maxHeartbeats 40000000 in
set_option maxRecDepth 100000 in
theorem c_X2_read (l : Launch) (D : va_G) (cI cC cQ : ClassId) (sz : Nat) (h0 : Nat) (a : Nat → Nat) (sg : Nat → Int32) (ln : Int32) (po : Int32) (dd : Int32) (lt : Nat → Int32) (pl : Nat → Int32) (f1s : Nat → Int32) (s2s : Nat → Int32) (tms : Nat → Int32) (x1 : Int32) (hpo : poOK po ln) : Met l yX2_read (wsO yX2_read cX2_read 2 (some .boolean)) rm_X2_read (va_Pc [.ref h0, .int x1] (inW D (TYS cI cC cQ) (PW cI cC h0 a sg ln po dd lt pl f1s s2s tms) sz)) (va_Qi (fun (r : Int32) (u : (Int32)) => (r, u) = sh_X2_read sg ln po x1) (fun (u : (Int32)) => atW D (TYS cI cC cQ) (va_A (PW cI cC h0 a sg ln po dd lt pl f1s s2s tms) sz) (PW cI cC h0 a sg ln u dd lt pl f1s s2s tms)) (va_A (PW cI cC h0 a sg ln po dd lt pl f1s s2s tms) sz)) 0 0 (va_A (PW cI cC h0 a sg ln po dd lt pl f1s s2s tms) sz) := by
  refine k_meti .boolean rfl (by decide) (Nat.le_of_ble_eq_true rfl) ?_
  intro p e s m args below meth c A ls Q H locs hargs hret hx hb hts hown hml hname hN hA hS hP hK hD hl
  have hl : lv_has ls 2 [(0, .ref h0), (1, .int x1)] := hl
  obtain ⟨Xq, hX⟩ : ∃ Xq, Xq = sh_X2_read sg ln po x1 := ⟨_, rfl⟩
  have hq : Xq = (if ln ≤ po then ((0 : Int32), po) else (if (sg po.toNatClampNeg) = x1 then ((1 : Int32), (po + 1)) else ((0 : Int32), po))) := hX
  refine lv_aload_n hx hb dX2_read_0 rfl (lv_at hl 0 rfl) ?_
  refine va_get (D := D) (ci := 2) (v := .int po) (C := RX2) (T := TX2) (N := 9) hx hb hts inA2 hown hK hP 0 rfl rfl 2 (by decide) (hts _ wd_fl_RX2_19) (fun _ h9 => h9) rfl dX2_read_1 ?_
  refine lv_aload_n hx hb dX2_read_4 rfl (lv_at hl 0 rfl) ?_
  refine va_get (D := D) (ci := 2) (v := .int ln) (C := RX2) (T := TX2) (N := 9) hx hb hts inA2 hown hK hP 0 rfl rfl 1 (by decide) (hts _ wd_fl_RX2_15) (fun _ h9 => h9) rfl dX2_read_5 ?_
  refine lv_icmp_ge (tgt := 36) hx hb dX2_read_8 (by decide) (fun c1 => ?_) (fun c1 => ?_)
  · have hq := it_pos hq c1
    refine lv_iconst (v := 0) hx hb dX2_read_36 (by decide) ?_
    exact hret _ _ _ _ (0) po dX2_read_37 rfl (hq.symm.trans hX) hP hD hS
  · have hq := it_neg hq c1
    refine lv_aload_n hx hb dX2_read_11 rfl (lv_at hl 0 rfl) ?_
    refine va_get (D := D) (ci := 2) (v := .ref (a 0)) (C := RX2) (T := TX2) (N := 9) hx hb hts inA2 hown hK hP 0 rfl rfl 0 (by decide) (hts _ wd_fl_RX2_11) (fun _ h9 => h9) rfl dX2_read_12 ?_
    refine lv_aload_n hx hb dX2_read_15 rfl (lv_at hl 0 rfl) ?_
    refine va_get (D := D) (ci := 2) (v := .int po) (C := RX2) (T := TX2) (N := 9) hx hb hts inA2 hown hK hP 0 rfl rfl 2 (by decide) (hts _ wd_fl_RX2_19) (fun _ h9 => h9) rfl dX2_read_16 ?_
    refine va_cald hx hb hK hP 1 1 rfl rfl (po_in hpo c1) dX2_read_19 ?_
    refine lv_iload_n hx hb dX2_read_20 rfl (lv_at hl 1 rfl) ?_
    refine lv_icmp_ne (tgt := 36) hx hb dX2_read_21 (by decide) (fun c2 => ?_) (fun c2 => ?_)
    · have hq := it_neg hq c2
      refine lv_iconst (v := 0) hx hb dX2_read_36 (by decide) ?_
      exact hret _ _ _ _ (0) po dX2_read_37 rfl (hq.symm.trans hX) hP hD hS
    · have hq := it_pos hq c2
      refine lv_aload_n hx hb dX2_read_24 rfl (lv_at hl 0 rfl) ?_
      refine lv_dup hx hb dX2_read_25 rfl ?_
      refine va_get (D := D) (ci := 2) (v := .int po) (C := RX2) (T := TX2) (N := 9) hx hb hts inA2 hown hK hP 0 rfl rfl 2 (by decide) (hts _ wd_fl_RX2_19) (fun _ h9 => h9) rfl dX2_read_26 ?_
      refine lv_iconst (v := 1) hx hb dX2_read_29 (by decide) ?_
      refine lv_iadd hx hb dX2_read_30 ?_
      refine va_put (D := D) (ci := 2) (v := .int (po + 1)) (ty := .int) (C := RX2) (T := TX2) (N := 9) hx hb hts inA2 tyX2 tyX2_ok nmX2 hown hK hP hD hS 0 rfl rfl 2 (by decide) (hts _ wd_fl_RX2_19) (fun _ h9 => h9) rfl (by decide +kernel) rfl rfl (Nat.le_of_ble_eq_true rfl) dX2_read_31 (fun H locs hP hD hS => ?_)
      have hP : va_P D vwCl (PW cI cC h0 a sg ln (po + 1) dd lt pl f1s s2s tms) H := hP
      have hD : va_D A (PW cI cC h0 a sg ln (po + 1) dd lt pl f1s s2s tms) := hD
      refine lv_iconst (v := 1) hx hb dX2_read_34 (by decide) ?_
      exact hret _ _ _ _ (1) (po + 1) dX2_read_35 rfl (hq.symm.trans hX) hP hD hS
def sh_X2_readBelow (sg : Nat → Int32) (ln : Int32) (po : Int32) (x1 : Int32) : Int32 × (Int32) := (kb (α := (Int32)) (if ln ≤ po then (-4) else ((sg po.toNatClampNeg) - 48)) (fun z_v3 => (if z_v3 < 0 then ((-4 : Int32), po) else (if z_v3 < x1 then (z_v3, (po + 1)) else ((-4 : Int32), po)))))
abbrev rm_X2_readBelow : Room := { frames := 0, cells := 0, slots := 0, locals := 0 }
theorem hd_X2_readBelow : hdT yX2_readBelow 1 := by decide +kernel
set_option maxHeartbeats 40000000 in
set_option maxRecDepth 100000 in
theorem c_X2_readBelow (l : Launch) (D : va_G) (cI cC cQ : ClassId) (sz : Nat) (h0 : Nat) (a : Nat → Nat) (sg : Nat → Int32) (ln : Int32) (po : Int32) (dd : Int32) (lt : Nat → Int32) (pl : Nat → Int32) (f1s : Nat → Int32) (s2s : Nat → Int32) (tms : Nat → Int32) (x1 : Int32) (hpo : poOK po ln) : Met l yX2_readBelow (wsO yX2_readBelow cX2_readBelow 3 (some .int)) rm_X2_readBelow (va_Pc [.ref h0, .int x1] (inW D (TYS cI cC cQ) (PW cI cC h0 a sg ln po dd lt pl f1s s2s tms) sz)) (va_Qi (fun (r : Int32) (u : (Int32)) => (r, u) = sh_X2_readBelow sg ln po x1) (fun (u : (Int32)) => atW D (TYS cI cC cQ) (va_A (PW cI cC h0 a sg ln po dd lt pl f1s s2s tms) sz) (PW cI cC h0 a sg ln u dd lt pl f1s s2s tms)) (va_A (PW cI cC h0 a sg ln po dd lt pl f1s s2s tms) sz)) 0 0 (va_A (PW cI cC h0 a sg ln po dd lt pl f1s s2s tms) sz) := by
  refine k_meti .int rfl (by decide) (Nat.le_of_ble_eq_true rfl) ?_
  intro p e s m args below meth c A ls Q H locs hargs hret hx hb hts hown hml hname hN hA hS hP hK hD hl
  have hl : lv_has ls 3 [(0, .ref h0), (1, .int x1)] := hl
  obtain ⟨Xq, hX⟩ : ∃ Xq, Xq = sh_X2_readBelow sg ln po x1 := ⟨_, rfl⟩
  have hq : Xq = (kb (α := (Int32)) (if ln ≤ po then (-4) else ((sg po.toNatClampNeg) - 48)) (fun z_v3 => (if z_v3 < 0 then ((-4 : Int32), po) else (if z_v3 < x1 then (z_v3, (po + 1)) else ((-4 : Int32), po))))) := hX
  refine lv_aload_n hx hb dX2_readBelow_0 rfl (lv_at hl 0 rfl) ?_
  refine va_get (D := D) (ci := 2) (v := .int po) (C := RX2) (T := TX2) (N := 9) hx hb hts inA2 hown hK hP 0 rfl rfl 2 (by decide) (hts _ wd_fl_RX2_19) (fun _ h9 => h9) rfl dX2_readBelow_1 ?_
  refine lv_aload_n hx hb dX2_readBelow_4 rfl (lv_at hl 0 rfl) ?_
  refine va_get (D := D) (ci := 2) (v := .int ln) (C := RX2) (T := TX2) (N := 9) hx hb hts inA2 hown hK hP 0 rfl rfl 1 (by decide) (hts _ wd_fl_RX2_15) (fun _ h9 => h9) rfl dX2_readBelow_5 ?_
  have K : ∀ (v3 : Int32) (H : Heap) (locs : List Loc) (ls : Array Slot), v3 = (if ln ≤ po then (-4) else ((sg po.toNatClampNeg) - 48)) → va_P D vwCl (PW cI cC h0 a sg ln po dd lt pl f1s s2s tms) H → va_D A (PW cI cC h0 a sg ln po dd lt pl f1s s2s tms) → va_S A s.heap H locs → lv_has ls 3 [(0, .ref h0), (1, .int x1)] → W p l e rm_X2_readBelow s m args below meth c H locs 0 0 Q (F0 m 28 ls [.int v3]) := by
    intro v3 H locs ls hv2 hP hD hS hl
    have hq := kb_to hq hv2
    refine lv_istore_n (lv' := [(2, .int v3), (0, .ref h0), (1, .int x1)]) hx hb dX2_readBelow_28 rfl hl (by decide) rfl (fun ls hl => ?_)
    refine lv_iload_n hx hb dX2_readBelow_29 rfl (lv_at hl 0 rfl) ?_
    refine lv_if_lt (tgt := 38) hx hb dX2_readBelow_30 (by decide) (fun c4 => ?_) (fun c4 => ?_)
    · have hq := it_pos hq c4
      refine lv_bipush (v := (-4)) hx hb dX2_readBelow_38 (by decide) ?_
      exact hret _ _ _ _ ((-4)) po dX2_readBelow_40 rfl (hq.symm.trans hX) hP hD hS
    · have hq := it_neg hq c4
      refine lv_iload_n hx hb dX2_readBelow_33 rfl (lv_at hl 0 rfl) ?_
      refine lv_iload_n hx hb dX2_readBelow_34 rfl (lv_at hl 2 rfl) ?_
      refine lv_icmp_lt (tgt := 41) hx hb dX2_readBelow_35 (by decide) (fun c5 => ?_) (fun c5 => ?_)
      · have hq := it_pos hq c5
        refine lv_aload_n hx hb dX2_readBelow_41 rfl (lv_at hl 1 rfl) ?_
        refine lv_dup hx hb dX2_readBelow_42 rfl ?_
        refine va_get (D := D) (ci := 2) (v := .int po) (C := RX2) (T := TX2) (N := 9) hx hb hts inA2 hown hK hP 0 rfl rfl 2 (by decide) (hts _ wd_fl_RX2_19) (fun _ h9 => h9) rfl dX2_readBelow_43 ?_
        refine lv_iconst (v := 1) hx hb dX2_readBelow_46 (by decide) ?_
        refine lv_iadd hx hb dX2_readBelow_47 ?_
        refine va_put (D := D) (ci := 2) (v := .int (po + 1)) (ty := .int) (C := RX2) (T := TX2) (N := 9) hx hb hts inA2 tyX2 tyX2_ok nmX2 hown hK hP hD hS 0 rfl rfl 2 (by decide) (hts _ wd_fl_RX2_19) (fun _ h9 => h9) rfl (by decide +kernel) rfl rfl (Nat.le_of_ble_eq_true rfl) dX2_readBelow_48 (fun H locs hP hD hS => ?_)
        have hP : va_P D vwCl (PW cI cC h0 a sg ln (po + 1) dd lt pl f1s s2s tms) H := hP
        have hD : va_D A (PW cI cC h0 a sg ln (po + 1) dd lt pl f1s s2s tms) := hD
        refine lv_iload_n hx hb dX2_readBelow_51 rfl (lv_at hl 0 rfl) ?_
        exact hret _ _ _ _ (v3) (po + 1) dX2_readBelow_52 rfl (hq.symm.trans hX) hP hD hS
      · have hq := it_neg hq c5
        refine lv_bipush (v := (-4)) hx hb dX2_readBelow_38 (by decide) ?_
        exact hret _ _ _ _ ((-4)) po dX2_readBelow_40 rfl (hq.symm.trans hX) hP hD hS
  refine lv_icmp_ge (tgt := 26) hx hb dX2_readBelow_8 (by decide) (fun c1 => ?_) (fun c1 => ?_)
  · skip
    refine lv_bipush (v := (-4)) hx hb dX2_readBelow_26 (by decide) ?_
    exact K ((-4)) _ _ _ (by rw [if_pos c1]) hP hD hS (lv_sub hl [0, 1] rfl)
  · skip
    refine lv_aload_n hx hb dX2_readBelow_11 rfl (lv_at hl 0 rfl) ?_
    refine va_get (D := D) (ci := 2) (v := .ref (a 0)) (C := RX2) (T := TX2) (N := 9) hx hb hts inA2 hown hK hP 0 rfl rfl 0 (by decide) (hts _ wd_fl_RX2_11) (fun _ h9 => h9) rfl dX2_readBelow_12 ?_
    refine lv_aload_n hx hb dX2_readBelow_15 rfl (lv_at hl 0 rfl) ?_
    refine va_get (D := D) (ci := 2) (v := .int po) (C := RX2) (T := TX2) (N := 9) hx hb hts inA2 hown hK hP 0 rfl rfl 2 (by decide) (hts _ wd_fl_RX2_19) (fun _ h9 => h9) rfl dX2_readBelow_16 ?_
    refine va_cald hx hb hK hP 1 1 rfl rfl (po_in hpo c1) dX2_readBelow_19 ?_
    refine lv_bipush (v := 48) hx hb dX2_readBelow_20 (by decide) ?_
    refine lv_isub hx hb dX2_readBelow_22 ?_
    refine lv_goto (tgt := 28) hx hb dX2_readBelow_23 (by decide) ?_
    exact K (((sg po.toNatClampNeg) - 48)) _ _ _ (by rw [if_neg c1]) hP hD hS (lv_sub hl [0, 1] rfl)
def lp_X2_readNumber_8 (sg : Nat → Int32) (ln : Int32) (x1 : Int32) (x2 : Int32) : Nat → (Int32) → (Int32) → (Int32) → (Int32 × (Int32))
  | 0, _, _, _ => default
  | fu + 1, n3, i4, l_po => (if ln ≤ i4 then (if n3 < x1 then ((-4 : Int32), l_po) else (n3, l_po)) else (if ((sg i4.toNatClampNeg) - 48) < 0 then (if n3 < x1 then ((-4 : Int32), l_po) else (n3, l_po)) else (if 9 < ((sg i4.toNatClampNeg) - 48) then (if n3 < x1 then ((-4 : Int32), l_po) else (n3, l_po)) else (if ((10 * n3) + ((sg i4.toNatClampNeg) - 48)) = 0 then (if n3 < x1 then ((-4 : Int32), l_po) else (n3, l_po)) else (if ((10 * n3) + ((sg i4.toNatClampNeg) - 48)) ≤ x2 then (lp_X2_readNumber_8 sg ln x1 x2 fu ((10 * n3) + ((sg i4.toNatClampNeg) - 48)) (i4 + 1) (i4 + 1)) else (if n3 < x1 then ((-4 : Int32), l_po) else (n3, l_po)))))))
def sh_X2_readNumber (sg : Nat → Int32) (ln : Int32) (po : Int32) (x1 : Int32) (x2 : Int32) : Int32 × (Int32) := (lp_X2_readNumber_8 sg ln x1 x2 ((ln.toInt - (po : Int32).toInt).toNat + 1) 0 po po)
abbrev rm_X2_readNumber : Room := { frames := 0, cells := 0, slots := 0, locals := 0 }
theorem hd_X2_readNumber : hdT yX2_readNumber 2 := by decide +kernel
set_option maxHeartbeats 40000000 in
set_option maxRecDepth 100000 in
theorem c_X2_readNumber (l : Launch) (D : va_G) (cI cC cQ : ClassId) (sz : Nat) (h0 : Nat) (a : Nat → Nat) (sg : Nat → Int32) (ln : Int32) (po : Int32) (dd : Int32) (lt : Nat → Int32) (pl : Nat → Int32) (f1s : Nat → Int32) (s2s : Nat → Int32) (tms : Nat → Int32) (x1 : Int32) (x2 : Int32) (hpo : poOK po ln) : Met l yX2_readNumber (wsO yX2_readNumber cX2_readNumber 7 (some .int)) rm_X2_readNumber (va_Pc [.ref h0, .int x1, .int x2] (inW D (TYS cI cC cQ) (PW cI cC h0 a sg ln po dd lt pl f1s s2s tms) sz)) (va_Qi (fun (r : Int32) (u : (Int32)) => (r, u) = sh_X2_readNumber sg ln po x1 x2) (fun (u : (Int32)) => atW D (TYS cI cC cQ) (va_A (PW cI cC h0 a sg ln po dd lt pl f1s s2s tms) sz) (PW cI cC h0 a sg ln u dd lt pl f1s s2s tms)) (va_A (PW cI cC h0 a sg ln po dd lt pl f1s s2s tms) sz)) 0 0 (va_A (PW cI cC h0 a sg ln po dd lt pl f1s s2s tms) sz) := by
  refine k_meti .int rfl (by decide) (Nat.le_of_ble_eq_true rfl) ?_
  intro p e s m args below meth c A ls Q H locs hargs hret hx hb hts hown hml hname hN hA hS hP hK hD hl
  have hl : lv_has ls 7 [(0, .ref h0), (1, .int x1), (2, .int x2)] := hl
  obtain ⟨Xq, hX⟩ : ∃ Xq, Xq = sh_X2_readNumber sg ln po x1 x2 := ⟨_, rfl⟩
  have hq : Xq = (lp_X2_readNumber_8 sg ln x1 x2 ((ln.toInt - (po : Int32).toInt).toNat + 1) 0 po po) := hX
  refine lv_iconst (v := 0) hx hb dX2_readNumber_0 (by decide) ?_
  refine lv_istore_n (lv' := [(3, .int 0), (0, .ref h0), (1, .int x1), (2, .int x2)]) hx hb dX2_readNumber_1 rfl hl (by decide) rfl (fun ls hl => ?_)
  refine lv_aload_n hx hb dX2_readNumber_2 rfl (lv_at hl 1 rfl) ?_
  refine va_get (D := D) (ci := 2) (v := .int po) (C := RX2) (T := TX2) (N := 9) hx hb hts inA2 hown hK hP 0 rfl rfl 2 (by decide) (hts _ wd_fl_RX2_19) (fun _ h9 => h9) rfl dX2_readNumber_3 ?_
  refine lv_istore (lv' := [(4, .int po), (3, .int 0), (0, .ref h0), (1, .int x1), (2, .int x2)]) hx hb dX2_readNumber_6 hl (by decide) rfl (fun ls hl => ?_)
  have L8 : ∀ (fu : Nat) (n3 : Int32) (i4 : Int32) (l_po : Int32) (H : Heap) (locs : List Loc) (ls : Array Slot), (ln.toInt - (i4 : Int32).toInt).toNat < fu → (poOK i4 ln) → Xq = lp_X2_readNumber_8 sg ln x1 x2 fu n3 i4 l_po → va_P D vwCl (PW cI cC h0 a sg ln l_po dd lt pl f1s s2s tms) H → va_D A (PW cI cC h0 a sg ln l_po dd lt pl f1s s2s tms) → va_S A s.heap H locs → lv_has ls 7 [(4, .int i4), (3, .int n3), (0, .ref h0), (1, .int x1), (2, .int x2)] → W p l e rm_X2_readNumber s m args below meth c H locs 0 0 Q (F0 m 8 ls []) := by
    intro fu
    induction fu with
    | zero => intro n3 i4 l_po H locs ls hmu; exact absurd hmu (Nat.not_lt_zero _)
    | succ fu ih =>
      intro n3 i4 l_po H locs ls hmu hi4 hq hP hD hS hl
      have hq : Xq = (if ln ≤ i4 then (if n3 < x1 then ((-4 : Int32), l_po) else (n3, l_po)) else (if ((sg i4.toNatClampNeg) - 48) < 0 then (if n3 < x1 then ((-4 : Int32), l_po) else (n3, l_po)) else (if 9 < ((sg i4.toNatClampNeg) - 48) then (if n3 < x1 then ((-4 : Int32), l_po) else (n3, l_po)) else (if ((10 * n3) + ((sg i4.toNatClampNeg) - 48)) = 0 then (if n3 < x1 then ((-4 : Int32), l_po) else (n3, l_po)) else (if ((10 * n3) + ((sg i4.toNatClampNeg) - 48)) ≤ x2 then (lp_X2_readNumber_8 sg ln x1 x2 fu ((10 * n3) + ((sg i4.toNatClampNeg) - 48)) (i4 + 1) (i4 + 1)) else (if n3 < x1 then ((-4 : Int32), l_po) else (n3, l_po))))))) := hq
      refine lv_iload hx hb dX2_readNumber_8 (lv_at hl 0 rfl) ?_
      refine lv_aload_n hx hb dX2_readNumber_10 rfl (lv_at hl 2 rfl) ?_
      refine va_get (D := D) (ci := 2) (v := .int ln) (C := RX2) (T := TX2) (N := 9) hx hb hts inA2 hown hK hP 0 rfl rfl 1 (by decide) (hts _ wd_fl_RX2_15) (fun _ h9 => h9) rfl dX2_readNumber_11 ?_
      refine lv_icmp_ge (tgt := 81) hx hb dX2_readNumber_14 (by decide) (fun c1 => ?_) (fun c1 => ?_)
      · have hq := it_pos hq c1
        refine lv_iload_n hx hb dX2_readNumber_81 rfl (lv_at hl 1 rfl) ?_
        refine lv_iload_n hx hb dX2_readNumber_82 rfl (lv_at hl 3 rfl) ?_
        refine lv_icmp_lt (tgt := 90) hx hb dX2_readNumber_83 (by decide) (fun c2 => ?_) (fun c2 => ?_)
        · have hq := it_pos hq c2
          refine lv_bipush (v := (-4)) hx hb dX2_readNumber_90 (by decide) ?_
          exact hret _ _ _ _ ((-4)) l_po dX2_readNumber_92 rfl (hq.symm.trans hX) hP hD hS
        · have hq := it_neg hq c2
          refine lv_iload_n hx hb dX2_readNumber_86 rfl (lv_at hl 1 rfl) ?_
          refine lv_goto (tgt := 92) hx hb dX2_readNumber_87 (by decide) ?_
          exact hret _ _ _ _ (n3) l_po dX2_readNumber_92 rfl (hq.symm.trans hX) hP hD hS
      · have hq := it_neg hq c1
        refine lv_aload_n hx hb dX2_readNumber_17 rfl (lv_at hl 2 rfl) ?_
        refine va_get (D := D) (ci := 2) (v := .ref (a 0)) (C := RX2) (T := TX2) (N := 9) hx hb hts inA2 hown hK hP 0 rfl rfl 0 (by decide) (hts _ wd_fl_RX2_11) (fun _ h9 => h9) rfl dX2_readNumber_18 ?_
        refine lv_iload hx hb dX2_readNumber_21 (lv_at hl 0 rfl) ?_
        refine va_cald hx hb hK hP 1 1 rfl rfl (po_in hi4 c1) dX2_readNumber_23 ?_
        refine lv_bipush (v := 48) hx hb dX2_readNumber_24 (by decide) ?_
        refine lv_isub hx hb dX2_readNumber_26 ?_
        refine lv_istore (lv' := [(5, .int ((sg i4.toNatClampNeg) - 48)), (4, .int i4), (3, .int n3), (0, .ref h0), (1, .int x1), (2, .int x2)]) hx hb dX2_readNumber_27 hl (by decide) rfl (fun ls hl => ?_)
        refine lv_bipush (v := 10) hx hb dX2_readNumber_29 (by decide) ?_
        refine lv_iload_n hx hb dX2_readNumber_31 rfl (lv_at hl 2 rfl) ?_
        refine lv_imul hx hb dX2_readNumber_32 ?_
        refine lv_iload hx hb dX2_readNumber_33 (lv_at hl 0 rfl) ?_
        refine lv_iadd hx hb dX2_readNumber_35 ?_
        refine lv_istore (lv' := [(6, .int ((10 * n3) + ((sg i4.toNatClampNeg) - 48))), (5, .int ((sg i4.toNatClampNeg) - 48)), (4, .int i4), (3, .int n3), (0, .ref h0), (1, .int x1), (2, .int x2)]) hx hb dX2_readNumber_36 hl (by decide) rfl (fun ls hl => ?_)
        refine lv_iload hx hb dX2_readNumber_38 (lv_at hl 1 rfl) ?_
        refine lv_if_lt (tgt := 81) hx hb dX2_readNumber_40 (by decide) (fun c3 => ?_) (fun c3 => ?_)
        · have hq := it_pos hq c3
          refine lv_iload_n hx hb dX2_readNumber_81 rfl (lv_at hl 3 rfl) ?_
          refine lv_iload_n hx hb dX2_readNumber_82 rfl (lv_at hl 5 rfl) ?_
          refine lv_icmp_lt (tgt := 90) hx hb dX2_readNumber_83 (by decide) (fun c4 => ?_) (fun c4 => ?_)
          · have hq := it_pos hq c4
            refine lv_bipush (v := (-4)) hx hb dX2_readNumber_90 (by decide) ?_
            exact hret _ _ _ _ ((-4)) l_po dX2_readNumber_92 rfl (hq.symm.trans hX) hP hD hS
          · have hq := it_neg hq c4
            refine lv_iload_n hx hb dX2_readNumber_86 rfl (lv_at hl 3 rfl) ?_
            refine lv_goto (tgt := 92) hx hb dX2_readNumber_87 (by decide) ?_
            exact hret _ _ _ _ (n3) l_po dX2_readNumber_92 rfl (hq.symm.trans hX) hP hD hS
        · have hq := it_neg hq c3
          refine lv_iload hx hb dX2_readNumber_43 (lv_at hl 1 rfl) ?_
          refine lv_bipush (v := 9) hx hb dX2_readNumber_45 (by decide) ?_
          refine lv_icmp_gt (tgt := 81) hx hb dX2_readNumber_47 (by decide) (fun c5 => ?_) (fun c5 => ?_)
          · have hq := it_pos hq c5
            refine lv_iload_n hx hb dX2_readNumber_81 rfl (lv_at hl 3 rfl) ?_
            refine lv_iload_n hx hb dX2_readNumber_82 rfl (lv_at hl 5 rfl) ?_
            refine lv_icmp_lt (tgt := 90) hx hb dX2_readNumber_83 (by decide) (fun c6 => ?_) (fun c6 => ?_)
            · have hq := it_pos hq c6
              refine lv_bipush (v := (-4)) hx hb dX2_readNumber_90 (by decide) ?_
              exact hret _ _ _ _ ((-4)) l_po dX2_readNumber_92 rfl (hq.symm.trans hX) hP hD hS
            · have hq := it_neg hq c6
              refine lv_iload_n hx hb dX2_readNumber_86 rfl (lv_at hl 3 rfl) ?_
              refine lv_goto (tgt := 92) hx hb dX2_readNumber_87 (by decide) ?_
              exact hret _ _ _ _ (n3) l_po dX2_readNumber_92 rfl (hq.symm.trans hX) hP hD hS
          · have hq := it_neg hq c5
            refine lv_iload hx hb dX2_readNumber_50 (lv_at hl 0 rfl) ?_
            refine lv_if_eq (tgt := 81) hx hb dX2_readNumber_52 (by decide) (fun c7 => ?_) (fun c7 => ?_)
            · have hq := it_pos hq c7
              refine lv_iload_n hx hb dX2_readNumber_81 rfl (lv_at hl 3 rfl) ?_
              refine lv_iload_n hx hb dX2_readNumber_82 rfl (lv_at hl 5 rfl) ?_
              refine lv_icmp_lt (tgt := 90) hx hb dX2_readNumber_83 (by decide) (fun c8 => ?_) (fun c8 => ?_)
              · have hq := it_pos hq c8
                refine lv_bipush (v := (-4)) hx hb dX2_readNumber_90 (by decide) ?_
                exact hret _ _ _ _ ((-4)) l_po dX2_readNumber_92 rfl (hq.symm.trans hX) hP hD hS
              · have hq := it_neg hq c8
                refine lv_iload_n hx hb dX2_readNumber_86 rfl (lv_at hl 3 rfl) ?_
                refine lv_goto (tgt := 92) hx hb dX2_readNumber_87 (by decide) ?_
                exact hret _ _ _ _ (n3) l_po dX2_readNumber_92 rfl (hq.symm.trans hX) hP hD hS
            · have hq := it_neg hq c7
              refine lv_iload hx hb dX2_readNumber_55 (lv_at hl 0 rfl) ?_
              refine lv_iload_n hx hb dX2_readNumber_57 rfl (lv_at hl 6 rfl) ?_
              refine lv_icmp_le (tgt := 64) hx hb dX2_readNumber_58 (by decide) (fun c9 => ?_) (fun c9 => ?_)
              · have hq := it_pos hq c9
                refine lv_iload hx hb dX2_readNumber_64 (lv_at hl 0 rfl) ?_
                refine lv_istore_n (lv' := [(3, .int ((10 * n3) + ((sg i4.toNatClampNeg) - 48))), (6, .int ((10 * n3) + ((sg i4.toNatClampNeg) - 48))), (5, .int ((sg i4.toNatClampNeg) - 48)), (4, .int i4), (0, .ref h0), (1, .int x1), (2, .int x2)]) hx hb dX2_readNumber_66 rfl hl (by decide) rfl (fun ls hl => ?_)
                refine lv_aload_n hx hb dX2_readNumber_67 rfl (lv_at hl 4 rfl) ?_
                refine lv_iload hx hb dX2_readNumber_68 (lv_at hl 3 rfl) ?_
                refine lv_iconst (v := 1) hx hb dX2_readNumber_70 (by decide) ?_
                refine lv_iadd hx hb dX2_readNumber_71 ?_
                refine va_put (D := D) (ci := 2) (v := .int (i4 + 1)) (ty := .int) (C := RX2) (T := TX2) (N := 9) hx hb hts inA2 tyX2 tyX2_ok nmX2 hown hK hP hD hS 0 rfl rfl 2 (by decide) (hts _ wd_fl_RX2_19) (fun _ h9 => h9) rfl (by decide +kernel) rfl rfl (Nat.le_of_ble_eq_true rfl) dX2_readNumber_72 (fun H locs hP hD hS => ?_)
                have hP : va_P D vwCl (PW cI cC h0 a sg ln (i4 + 1) dd lt pl f1s s2s tms) H := hP
                have hD : va_D A (PW cI cC h0 a sg ln (i4 + 1) dd lt pl f1s s2s tms) := hD
                refine lv_iinc (v := (i4 + 1)) (lv' := [(4, .int (i4 + 1)), (3, .int ((10 * n3) + ((sg i4.toNatClampNeg) - 48))), (6, .int ((10 * n3) + ((sg i4.toNatClampNeg) - 48))), (5, .int ((sg i4.toNatClampNeg) - 48)), (0, .ref h0), (1, .int x1), (2, .int x2)]) hx hb dX2_readNumber_75 hl (k := 3) rfl rfl (by decide) rfl (fun ls hl => ?_)
                refine lv_goto (tgt := 8) hx hb dX2_readNumber_78 (by decide) ?_
                exact ih (((10 * n3) + ((sg i4.toNatClampNeg) - 48))) ((i4 + 1)) ((i4 + 1)) _ _ _ (k_mu hmu c1) (po_up hi4 c1) hq hP hD hS (lv_sub hl [0, 1, 4, 5, 6] rfl)
              · have hq := it_neg hq c9
                refine lv_goto (tgt := 81) hx hb dX2_readNumber_61 (by decide) ?_
                refine lv_iload_n hx hb dX2_readNumber_81 rfl (lv_at hl 3 rfl) ?_
                refine lv_iload_n hx hb dX2_readNumber_82 rfl (lv_at hl 5 rfl) ?_
                refine lv_icmp_lt (tgt := 90) hx hb dX2_readNumber_83 (by decide) (fun c10 => ?_) (fun c10 => ?_)
                · have hq := it_pos hq c10
                  refine lv_bipush (v := (-4)) hx hb dX2_readNumber_90 (by decide) ?_
                  exact hret _ _ _ _ ((-4)) l_po dX2_readNumber_92 rfl (hq.symm.trans hX) hP hD hS
                · have hq := it_neg hq c10
                  refine lv_iload_n hx hb dX2_readNumber_86 rfl (lv_at hl 3 rfl) ?_
                  refine lv_goto (tgt := 92) hx hb dX2_readNumber_87 (by decide) ?_
                  exact hret _ _ _ _ (n3) l_po dX2_readNumber_92 rfl (hq.symm.trans hX) hP hD hS
  exact L8 ((ln.toInt - (po : Int32).toInt).toNat + 1) (0) (po) (po) _ _ _ (Nat.lt_succ_self _) (hpo) hq hP hD hS (lv_sub hl [0, 1, 2, 3, 4] rfl)
