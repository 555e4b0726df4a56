theorem read_po {sg : Nat → Int32} {ln po x : Int32} (h : poOK po ln) : poOK (sh_X2_read sg ln po x).2 ln := by
  unfold sh_X2_read
  split
  · exact h
  · rename_i c
    split
    · exact po_up h c
    · exact h
theorem readBelow_po {sg : Nat → Int32} {ln po x : Int32} (h : poOK po ln) : poOK (sh_X2_readBelow sg ln po x).2 ln := by
  simp only [sh_X2_readBelow, kb]
  by_cases c : ln ≤ po
  · simp only [if_pos c]
    rw [if_pos (show (-4 : Int32) < 0 by decide)]; exact h
  · simp only [if_neg c]
    split
    · exact h
    · split
      · exact po_up h c
      · exact h
theorem lpRN_po {sg : Nat → Int32} {ln x1 x2 : Int32} : ∀ (fu : Nat) (n i q : Int32), (ln.toInt - i.toInt).toNat < fu → poOK i ln → poOK q ln → poOK (lp_X2_readNumber_8 sg ln x1 x2 fu n i q).2 ln := by
  intro fu
  induction fu with
  | zero => intro n i q h; exact absurd h (Nat.not_lt_zero _)
  | succ fu ih =>
    intro n i q hmu hi hq
    unfold lp_X2_readNumber_8
    split
    · split <;> exact hq
    · rename_i c
      split
      · split <;> exact hq
      · split
        · split <;> exact hq
        · split
          · split <;> exact hq
          · split
            · exact ih _ _ _ (k_mu hmu c) (po_up hi c) (po_up hi c)
            · split <;> exact hq
theorem readNumber_po {sg : Nat → Int32} {ln po x1 x2 : Int32} (h : poOK po ln) : poOK (sh_X2_readNumber sg ln po x1 x2).2 ln := lpRN_po _ _ _ _ (Nat.lt_succ_self _) h h
theorem poE1 {r q ln : Int32} {f : Int32 × Int32} (h : poOK f.2 ln) (e : (r, q) = f) : poOK q ln := by
  have : q = f.2 := by rw [← e]
  rw [this]; exact h
theorem poE2 {α : Type} {r q ln : Int32} {x : α} {f : Int32 × Int32 × α} (h : poOK f.2.1 ln) (e : (r, q, x) = f) : poOK q ln := by
  have : q = f.2.1 := by rw [← e]
  rw [this]; exact h
theorem nar01 {r : Int32} (h : r = 0 ∨ r = 1) : narrow .boolean (.int r) = .int r := by
  rcases h with rfl | rfl <;> rfl
theorem fst01 {α : Type} {r : Int32} {x : α} {f : Int32 × α} (h : f.1 = 0 ∨ f.1 = 1) (e : (r, x) = f) : r = 0 ∨ r = 1 := by
  have : r = f.1 := by rw [← e]
  rw [this]; exact h
def sh_X2_readShaking (sg : Nat → Int32) (ln : Int32) (po : Int32) (dd : Int32) (f1s : Nat → Int32) : Int32 × (Int32) × (Nat → Int32) := (kb (sh_X2_readBelow sg ln po 4) (fun z_r1 => (if z_r1.1 = (-4) then ((0 : Int32), z_r1.2, (upd f1s dd.toNatClampNeg z_r1.1)) else ((1 : Int32), z_r1.2, (upd f1s dd.toNatClampNeg z_r1.1)))))
abbrev rm_X2_readShaking : Room := { frames := 1, cells := 0, slots := 0, locals := 22 }
theorem hd_X2_readShaking : hdT yX2_readShaking 0 := by decide +kernel
set_option maxHeartbeats 40000000 in
set_option maxRecDepth 100000 in
theorem c_X2_readShaking (l : Launch) (D : va_G) (cI cC cQ : ClassId) (sz : Nat) (h0 : Nat) (a : Nat → Nat) (sg : Nat → Int32) (ln : Int32) (po : Int32) (dd : Int32) (lt : Nat → Int32) (pl : Nat → Int32) (f1s : Nat → Int32) (s2s : Nat → Int32) (tms : Nat → Int32)  (hpo : poOK po ln) (hdd : vp_in dd 30) : Met l yX2_readShaking (wsO yX2_readShaking cX2_readShaking 2 (some .boolean)) rm_X2_readShaking (va_Pc [.ref h0] (inW D (TYS cI cC cQ) (PW cI cC h0 a sg ln po dd lt pl f1s s2s tms) sz)) (va_Qi (fun (r : Int32) (u : (Int32) × (Nat → Int32)) => (r, u) = sh_X2_readShaking sg ln po dd f1s) (fun (u : (Int32) × (Nat → Int32)) => atW D (TYS cI cC cQ) (va_A (PW cI cC h0 a sg ln po dd lt pl f1s s2s tms) sz) (PW cI cC h0 a sg ln u.1 dd lt pl u.2 s2s tms)) (va_A (PW cI cC h0 a sg ln po dd lt pl f1s s2s tms) sz)) 0 0 (va_A (PW cI cC h0 a sg ln po dd lt pl f1s s2s tms) sz) := by
  refine k_meti .boolean rfl (by decide) (Nat.le_of_ble_eq_true rfl) ?_
  intro p e s m args below meth c A ls Q H locs hargs hret hx hb hts hown hml hname hN hA hS hP hK hD hl
  have hl : lv_has ls 2 [(0, .ref h0)] := hl
  obtain ⟨Xq, hX⟩ : ∃ Xq, Xq = sh_X2_readShaking sg ln po dd f1s := ⟨_, rfl⟩
  have hq : Xq = (kb (sh_X2_readBelow sg ln po 4) (fun z_r1 => (if z_r1.1 = (-4) then ((0 : Int32), z_r1.2, (upd f1s dd.toNatClampNeg z_r1.1)) else ((1 : Int32), z_r1.2, (upd f1s dd.toNatClampNeg z_r1.1))))) := hX
  refine lv_aload_n hx hb dX2_readShaking_0 rfl (lv_at hl 0 rfl) ?_
  refine lv_iconst (v := 4) hx hb dX2_readShaking_1 (by decide) ?_
  have hPs := k_self hP
  have hDs := k_selfD hD
  refine k_behi (X := []) (Y := []) (va_runV (As := [.int 4]) (rest := []) ⟨hx, hb, hml, hown, hts⟩ (c_X2_readBelow l D cI cC cQ H.size h0 a sg ln po dd lt pl f1s s2s tms 4 (hpo)) (kcwV hts wd_ml_RX2_61 wd_im_yX2_readBelow wd_sel_yX2_readBelow wd_ini_RX2 wd_code_yX2_readBelow rfl rfl rfl hd_X2_readBelow ⟨Nat.le_of_ble_eq_true rfl, Nat.le_of_ble_eq_true rfl⟩) ⟨in_blind, va_recv hK (pa_l (pa_r hPs)) (ci := 2) (q0 := 0) rfl rfl, k_pre hK (pa_l (pa_r hPs)) (da_l (da_r hDs)) hN⟩ rfl rfl hl.1 rfl (lv_room (Nat.le_of_ble_eq_true rfl)) dX2_readShaking_2 ⟨Nat.le_of_ble_eq_true rfl, Nat.le_of_ble_eq_true rfl⟩) hPs hDs hS hA (fun r1 u2 H locs hw3 hP hD hS => ?_)
  obtain ⟨v4, rfl⟩ : ∃ z, z = u2 := ⟨_, rfl⟩
  have hP := k_unP hP
  have hD := k_unD hD
  have hP : va_P D vwCl (PW cI cC h0 a sg ln v4 dd lt pl f1s s2s tms) H := hP
  have hD : va_D A (PW cI cC h0 a sg ln v4 dd lt pl f1s s2s tms) := hD
  have hw3 : (r1, v4) = (sh_X2_readBelow sg ln po 4) := hw3
  have hq := kb_to hq hw3
  refine lv_istore_n (lv' := [(1, .int r1), (0, .ref h0)]) hx hb dX2_readShaking_5 rfl hl (by decide) rfl (fun ls hl => ?_)
  refine lv_aload_n hx hb dX2_readShaking_6 rfl (lv_at hl 1 rfl) ?_
  refine va_get (D := D) (ci := 2) (v := .ref (a 3)) (C := RX2) (T := TX2) (N := 9) hx hb hts inA2 hown hK hP 0 rfl rfl 6 (by decide) (hts _ wd_fl_RX2_32) (fun _ h9 => h9) rfl dX2_readShaking_7 ?_
  refine lv_aload_n hx hb dX2_readShaking_10 rfl (lv_at hl 1 rfl) ?_
  refine va_get (D := D) (ci := 2) (v := .int dd) (C := RX2) (T := TX2) (N := 9) hx hb hts inA2 hown hK hP 0 rfl rfl 3 (by decide) (hts _ wd_fl_RX2_22) (fun _ h9 => h9) rfl dX2_readShaking_11 ?_
  refine lv_iload_n hx hb dX2_readShaking_14 rfl (lv_at hl 0 rfl) ?_
  refine va_iast hx hb hK hP hD hS 4 0 rfl rfl hdd dX2_readShaking_15 (fun H locs hP hD hS => ?_)
  have hP : va_P D vwCl (PW cI cC h0 a sg ln v4 dd lt pl (upd f1s dd.toNatClampNeg r1) s2s tms) H := hP
  have hD : va_D A (PW cI cC h0 a sg ln v4 dd lt pl (upd f1s dd.toNatClampNeg r1) s2s tms) := hD
  refine lv_iload_n hx hb dX2_readShaking_16 rfl (lv_at hl 0 rfl) ?_
  refine lv_bipush (v := (-4)) hx hb dX2_readShaking_17 (by decide) ?_
  refine lv_icmp_eq (tgt := 26) hx hb dX2_readShaking_19 (by decide) (fun c5 => ?_) (fun c5 => ?_)
  · have hq := it_pos hq c5
    refine lv_iconst (v := 0) hx hb dX2_readShaking_26 (by decide) ?_
    exact hret _ _ _ _ (0) (v4, (upd f1s dd.toNatClampNeg r1)) dX2_readShaking_27 rfl (hq.symm.trans hX) hP hD hS
  · have hq := it_neg hq c5
    refine lv_iconst (v := 1) hx hb dX2_readShaking_22 (by decide) ?_
    refine lv_goto (tgt := 27) hx hb dX2_readShaking_23 (by decide) ?_
    exact hret _ _ _ _ (1) (v4, (upd f1s dd.toNatClampNeg r1)) dX2_readShaking_27 rfl (hq.symm.trans hX) hP hD hS
def sh_X2_readMoving (sg : Nat → Int32) (ln : Int32) (po : Int32) (dd : Int32) (f1s : Nat → Int32) (s2s : Nat → Int32) : Int32 × (Int32) × (Nat → Int32) × (Nat → Int32) := (kb (sh_X2_readBelow sg ln po 4) (fun z_r1 => (if z_r1.1 = (-4) then ((0 : Int32), z_r1.2, f1s, s2s) else (kb (sh_X2_read sg ln z_r1.2 62) (fun z_r6 => (if z_r6.1 = 0 then ((0 : Int32), z_r6.2, f1s, s2s) else (kb (sh_X2_readBelow sg ln z_r6.2 2) (fun z_r11 => (if z_r11.1 = (-4) then ((0 : Int32), z_r11.2, (upd f1s dd.toNatClampNeg z_r1.1), (upd s2s dd.toNatClampNeg z_r11.1)) else ((1 : Int32), z_r11.2, (upd f1s dd.toNatClampNeg z_r1.1), (upd s2s dd.toNatClampNeg z_r11.1)))))))))))
abbrev rm_X2_readMoving : Room := { frames := 1, cells := 0, slots := 0, locals := 22 }
theorem hd_X2_readMoving : hdT yX2_readMoving 0 := by decide +kernel
set_option maxHeartbeats 40000000 in
set_option maxRecDepth 100000 in
theorem c_X2_readMoving (l : Launch) (D : va_G) (cI cC cQ : ClassId) (sz : Nat) (h0 : Nat) (a : Nat → Nat) (sg : Nat → Int32) (ln : Int32) (po : Int32) (dd : Int32) (lt : Nat → Int32) (pl : Nat → Int32) (f1s : Nat → Int32) (s2s : Nat → Int32) (tms : Nat → Int32)  (hpo : poOK po ln) (hdd : vp_in dd 30) : Met l yX2_readMoving (wsO yX2_readMoving cX2_readMoving 3 (some .boolean)) rm_X2_readMoving (va_Pc [.ref h0] (inW D (TYS cI cC cQ) (PW cI cC h0 a sg ln po dd lt pl f1s s2s tms) sz)) (va_Qi (fun (r : Int32) (u : (Int32) × (Nat → Int32) × (Nat → Int32)) => (r, u) = sh_X2_readMoving sg ln po dd f1s s2s) (fun (u : (Int32) × (Nat → Int32) × (Nat → Int32)) => atW D (TYS cI cC cQ) (va_A (PW cI cC h0 a sg ln po dd lt pl f1s s2s tms) sz) (PW cI cC h0 a sg ln u.1 dd lt pl u.2.1 u.2.2 tms)) (va_A (PW cI cC h0 a sg ln po dd lt pl f1s s2s tms) sz)) 0 0 (va_A (PW cI cC h0 a sg ln po dd lt pl f1s s2s tms) sz) := by
  refine k_meti .boolean rfl (by decide) (Nat.le_of_ble_eq_true rfl) ?_
  intro p e s m args below meth c A ls Q H locs hargs hret hx hb hts hown hml hname hN hA hS hP hK hD hl
  have hl : lv_has ls 3 [(0, .ref h0)] := hl
  obtain ⟨Xq, hX⟩ : ∃ Xq, Xq = sh_X2_readMoving sg ln po dd f1s s2s := ⟨_, rfl⟩
  have hq : Xq = (kb (sh_X2_readBelow sg ln po 4) (fun z_r1 => (if z_r1.1 = (-4) then ((0 : Int32), z_r1.2, f1s, s2s) else (kb (sh_X2_read sg ln z_r1.2 62) (fun z_r6 => (if z_r6.1 = 0 then ((0 : Int32), z_r6.2, f1s, s2s) else (kb (sh_X2_readBelow sg ln z_r6.2 2) (fun z_r11 => (if z_r11.1 = (-4) then ((0 : Int32), z_r11.2, (upd f1s dd.toNatClampNeg z_r1.1), (upd s2s dd.toNatClampNeg z_r11.1)) else ((1 : Int32), z_r11.2, (upd f1s dd.toNatClampNeg z_r1.1), (upd s2s dd.toNatClampNeg z_r11.1))))))))))) := hX
  refine lv_aload_n hx hb dX2_readMoving_0 rfl (lv_at hl 0 rfl) ?_
  refine lv_iconst (v := 4) hx hb dX2_readMoving_1 (by decide) ?_
  have hPs := k_self hP
  have hDs := k_selfD hD
  refine k_behi (X := []) (Y := []) (va_runV (As := [.int 4]) (rest := []) ⟨hx, hb, hml, hown, hts⟩ (c_X2_readBelow l D cI cC cQ H.size h0 a sg ln po dd lt pl f1s s2s tms 4 (hpo)) (kcwV hts wd_ml_RX2_61 wd_im_yX2_readBelow wd_sel_yX2_readBelow wd_ini_RX2 wd_code_yX2_readBelow rfl rfl rfl hd_X2_readBelow ⟨Nat.le_of_ble_eq_true rfl, Nat.le_of_ble_eq_true rfl⟩) ⟨in_blind, va_recv hK (pa_l (pa_r hPs)) (ci := 2) (q0 := 0) rfl rfl, k_pre hK (pa_l (pa_r hPs)) (da_l (da_r hDs)) hN⟩ rfl rfl hl.1 rfl (lv_room (Nat.le_of_ble_eq_true rfl)) dX2_readMoving_2 ⟨Nat.le_of_ble_eq_true rfl, Nat.le_of_ble_eq_true rfl⟩) hPs hDs hS hA (fun r1 u2 H locs hw3 hP hD hS => ?_)
  obtain ⟨v4, rfl⟩ : ∃ z, z = u2 := ⟨_, rfl⟩
  have hP := k_unP hP
  have hD := k_unD hD
  have hP : va_P D vwCl (PW cI cC h0 a sg ln v4 dd lt pl f1s s2s tms) H := hP
  have hD : va_D A (PW cI cC h0 a sg ln v4 dd lt pl f1s s2s tms) := hD
  have hw3 : (r1, v4) = (sh_X2_readBelow sg ln po 4) := hw3
  have hq := kb_to hq hw3
  refine lv_istore_n (lv' := [(1, .int r1), (0, .ref h0)]) hx hb dX2_readMoving_5 rfl hl (by decide) rfl (fun ls hl => ?_)
  refine lv_iload_n hx hb dX2_readMoving_6 rfl (lv_at hl 0 rfl) ?_
  refine lv_bipush (v := (-4)) hx hb dX2_readMoving_7 (by decide) ?_
  refine lv_icmp_eq (tgt := 21) hx hb dX2_readMoving_9 (by decide) (fun c5 => ?_) (fun c5 => ?_)
  · have hq := it_pos hq c5
    refine lv_iconst (v := 0) hx hb dX2_readMoving_21 (by decide) ?_
    exact hret _ _ _ _ (0) (v4, f1s, s2s) dX2_readMoving_22 rfl (hq.symm.trans hX) hP hD hS
  · have hq := it_neg hq c5
    refine lv_aload_n hx hb dX2_readMoving_12 rfl (lv_at hl 1 rfl) ?_
    refine lv_bipush (v := 62) hx hb dX2_readMoving_13 (by decide) ?_
    have hPs := k_self hP
    have hDs := k_selfD hD
    refine k_behi (X := []) (Y := []) (va_runV (As := [.int 62]) (rest := []) ⟨hx, hb, hml, hown, hts⟩ (c_X2_read l D cI cC cQ H.size h0 a sg ln v4 dd lt pl f1s s2s tms 62 ((poE1 (readBelow_po hpo) hw3))) (kcwV hts wd_ml_RX2_48 wd_im_yX2_read wd_sel_yX2_read wd_ini_RX2 wd_code_yX2_read rfl rfl rfl hd_X2_read ⟨Nat.le_of_ble_eq_true rfl, Nat.le_of_ble_eq_true rfl⟩) ⟨in_blind, va_recv hK (pa_l (pa_r hPs)) (ci := 2) (q0 := 0) rfl rfl, k_pre hK (pa_l (pa_r hPs)) (da_l (da_r hDs)) hN⟩ rfl rfl hl.1 rfl (lv_room (Nat.le_of_ble_eq_true rfl)) dX2_readMoving_15 ⟨Nat.le_of_ble_eq_true rfl, Nat.le_of_ble_eq_true rfl⟩) hPs hDs hS hA (fun r6 u7 H locs hw8 hP hD hS => ?_)
    obtain ⟨v9, rfl⟩ : ∃ z, z = u7 := ⟨_, rfl⟩
    have hP := k_unP hP
    have hD := k_unD hD
    have hP : va_P D vwCl (PW cI cC h0 a sg ln v9 dd lt pl f1s s2s tms) H := hP
    have hD : va_D A (PW cI cC h0 a sg ln v9 dd lt pl f1s s2s tms) := hD
    have hw8 : (r6, v9) = (sh_X2_read sg ln v4 62) := hw8
    have hq := kb_to hq hw8
    refine lv_if_ne (tgt := 23) hx hb dX2_readMoving_18 (by decide) (fun c10 => ?_) (fun c10 => ?_)
    · have hq := it_neg hq c10
      refine lv_aload_n hx hb dX2_readMoving_23 rfl (lv_at hl 1 rfl) ?_
      refine lv_iconst (v := 2) hx hb dX2_readMoving_24 (by decide) ?_
      have hPs := k_self hP
      have hDs := k_selfD hD
      refine k_behi (X := []) (Y := []) (va_runV (As := [.int 2]) (rest := []) ⟨hx, hb, hml, hown, hts⟩ (c_X2_readBelow l D cI cC cQ H.size h0 a sg ln v9 dd lt pl f1s s2s tms 2 ((poE1 (read_po (poE1 (readBelow_po hpo) hw3)) hw8))) (kcwV hts wd_ml_RX2_61 wd_im_yX2_readBelow wd_sel_yX2_readBelow wd_ini_RX2 wd_code_yX2_readBelow rfl rfl rfl hd_X2_readBelow ⟨Nat.le_of_ble_eq_true rfl, Nat.le_of_ble_eq_true rfl⟩) ⟨in_blind, va_recv hK (pa_l (pa_r hPs)) (ci := 2) (q0 := 0) rfl rfl, k_pre hK (pa_l (pa_r hPs)) (da_l (da_r hDs)) hN⟩ rfl rfl hl.1 rfl (lv_room (Nat.le_of_ble_eq_true rfl)) dX2_readMoving_25 ⟨Nat.le_of_ble_eq_true rfl, Nat.le_of_ble_eq_true rfl⟩) hPs hDs hS hA (fun r11 u12 H locs hw13 hP hD hS => ?_)
      obtain ⟨v14, rfl⟩ : ∃ z, z = u12 := ⟨_, rfl⟩
      have hP := k_unP hP
      have hD := k_unD hD
      have hP : va_P D vwCl (PW cI cC h0 a sg ln v14 dd lt pl f1s s2s tms) H := hP
      have hD : va_D A (PW cI cC h0 a sg ln v14 dd lt pl f1s s2s tms) := hD
      have hw13 : (r11, v14) = (sh_X2_readBelow sg ln v9 2) := hw13
      have hq := kb_to hq hw13
      refine lv_istore_n (lv' := [(2, .int r11), (1, .int r1), (0, .ref h0)]) hx hb dX2_readMoving_28 rfl hl (by decide) rfl (fun ls hl => ?_)
      refine lv_aload_n hx hb dX2_readMoving_29 rfl (lv_at hl 2 rfl) ?_
      refine va_get (D := D) (ci := 2) (v := .ref (a 3)) (C := RX2) (T := TX2) (N := 9) hx hb hts inA2 hown hK hP 0 rfl rfl 6 (by decide) (hts _ wd_fl_RX2_32) (fun _ h9 => h9) rfl dX2_readMoving_30 ?_
      refine lv_aload_n hx hb dX2_readMoving_33 rfl (lv_at hl 2 rfl) ?_
      refine va_get (D := D) (ci := 2) (v := .int dd) (C := RX2) (T := TX2) (N := 9) hx hb hts inA2 hown hK hP 0 rfl rfl 3 (by decide) (hts _ wd_fl_RX2_22) (fun _ h9 => h9) rfl dX2_readMoving_34 ?_
      refine lv_iload_n hx hb dX2_readMoving_37 rfl (lv_at hl 1 rfl) ?_
      refine va_iast hx hb hK hP hD hS 4 0 rfl rfl hdd dX2_readMoving_38 (fun H locs hP hD hS => ?_)
      have hP : va_P D vwCl (PW cI cC h0 a sg ln v14 dd lt pl (upd f1s dd.toNatClampNeg r1) s2s tms) H := hP
      have hD : va_D A (PW cI cC h0 a sg ln v14 dd lt pl (upd f1s dd.toNatClampNeg r1) s2s tms) := hD
      refine lv_aload_n hx hb dX2_readMoving_39 rfl (lv_at hl 2 rfl) ?_
      refine va_get (D := D) (ci := 2) (v := .ref (a 4)) (C := RX2) (T := TX2) (N := 9) hx hb hts inA2 hown hK hP 0 rfl rfl 7 (by decide) (hts _ wd_fl_RX2_35) (fun _ h9 => h9) rfl dX2_readMoving_40 ?_
      refine lv_aload_n hx hb dX2_readMoving_43 rfl (lv_at hl 2 rfl) ?_
      refine va_get (D := D) (ci := 2) (v := .int dd) (C := RX2) (T := TX2) (N := 9) hx hb hts inA2 hown hK hP 0 rfl rfl 3 (by decide) (hts _ wd_fl_RX2_22) (fun _ h9 => h9) rfl dX2_readMoving_44 ?_
      refine lv_iload_n hx hb dX2_readMoving_47 rfl (lv_at hl 0 rfl) ?_
      refine va_iast hx hb hK hP hD hS 5 0 rfl rfl hdd dX2_readMoving_48 (fun H locs hP hD hS => ?_)
      have hP : va_P D vwCl (PW cI cC h0 a sg ln v14 dd lt pl (upd f1s dd.toNatClampNeg r1) (upd s2s dd.toNatClampNeg r11) tms) H := hP
      have hD : va_D A (PW cI cC h0 a sg ln v14 dd lt pl (upd f1s dd.toNatClampNeg r1) (upd s2s dd.toNatClampNeg r11) tms) := hD
      refine lv_iload_n hx hb dX2_readMoving_49 rfl (lv_at hl 0 rfl) ?_
      refine lv_bipush (v := (-4)) hx hb dX2_readMoving_50 (by decide) ?_
      refine lv_icmp_eq (tgt := 59) hx hb dX2_readMoving_52 (by decide) (fun c15 => ?_) (fun c15 => ?_)
      · have hq := it_pos hq c15
        refine lv_iconst (v := 0) hx hb dX2_readMoving_59 (by decide) ?_
        exact hret _ _ _ _ (0) (v14, (upd f1s dd.toNatClampNeg r1), (upd s2s dd.toNatClampNeg r11)) dX2_readMoving_60 rfl (hq.symm.trans hX) hP hD hS
      · have hq := it_neg hq c15
        refine lv_iconst (v := 1) hx hb dX2_readMoving_55 (by decide) ?_
        refine lv_goto (tgt := 60) hx hb dX2_readMoving_56 (by decide) ?_
        exact hret _ _ _ _ (1) (v14, (upd f1s dd.toNatClampNeg r1), (upd s2s dd.toNatClampNeg r11)) dX2_readMoving_60 rfl (hq.symm.trans hX) hP hD hS
    · have hq := it_pos hq c10
      refine lv_iconst (v := 0) hx hb dX2_readMoving_21 (by decide) ?_
      exact hret _ _ _ _ (0) (v9, f1s, s2s) dX2_readMoving_22 rfl (hq.symm.trans hX) hP hD hS
def sh_X2_readPrinting (sg : Nat → Int32) (ln : Int32) (po : Int32) (dd : Int32) (f1s : Nat → Int32) (s2s : Nat → Int32) (tms : Nat → Int32) : Int32 × (Int32) × (Nat → Int32) × (Nat → Int32) × (Nat → Int32) := (kb (sh_X2_readBelow sg ln po 2) (fun z_r1 => (if z_r1.1 = (-4) then ((0 : Int32), z_r1.2, f1s, s2s, tms) else (kb (sh_X2_read sg ln z_r1.2 58) (fun z_r6 => (if z_r6.1 = 0 then ((0 : Int32), z_r6.2, f1s, s2s, tms) else (kb (sh_X2_readNumber sg ln z_r6.2 1 999) (fun z_r11 => (if z_r11.1 = (-4) then ((0 : Int32), z_r11.2, f1s, s2s, tms) else (kb (sh_X2_read sg ln z_r11.2 120) (fun z_r16 => (if z_r16.1 = 0 then ((1 : Int32), z_r16.2, (upd f1s dd.toNatClampNeg z_r1.1), (upd s2s dd.toNatClampNeg z_r11.1), (upd tms dd.toNatClampNeg 1)) else (kb (sh_X2_readNumber sg ln z_r16.2 2 50) (fun z_r21 => (if z_r21.1 = (-4) then ((0 : Int32), z_r21.2, (upd f1s dd.toNatClampNeg z_r1.1), (upd s2s dd.toNatClampNeg z_r11.1), (upd tms dd.toNatClampNeg z_r21.1)) else ((1 : Int32), z_r21.2, (upd f1s dd.toNatClampNeg z_r1.1), (upd s2s dd.toNatClampNeg z_r11.1), (upd tms dd.toNatClampNeg z_r21.1)))))))))))))))))
abbrev rm_X2_readPrinting : Room := { frames := 1, cells := 0, slots := 0, locals := 26 }
theorem hd_X2_readPrinting : hdT yX2_readPrinting 0 := by decide +kernel
set_option maxHeartbeats 40000000 in
set_option maxRecDepth 100000 in
theorem c_X2_readPrinting (l : Launch) (D : va_G) (cI cC cQ : ClassId) (sz : Nat) (h0 : Nat) (a : Nat → Nat) (sg : Nat → Int32) (ln : Int32) (po : Int32) (dd : Int32) (lt : Nat → Int32) (pl : Nat → Int32) (f1s : Nat → Int32) (s2s : Nat → Int32) (tms : Nat → Int32)  (hpo : poOK po ln) (hdd : vp_in dd 30) : Met l yX2_readPrinting (wsO yX2_readPrinting cX2_readPrinting 4 (some .boolean)) rm_X2_readPrinting (va_Pc [.ref h0] (inW D (TYS cI cC cQ) (PW cI cC h0 a sg ln po dd lt pl f1s s2s tms) sz)) (va_Qi (fun (r : Int32) (u : (Int32) × (Nat → Int32) × (Nat → Int32) × (Nat → Int32)) => (r, u) = sh_X2_readPrinting sg ln po dd f1s s2s tms) (fun (u : (Int32) × (Nat → Int32) × (Nat → Int32) × (Nat → Int32)) => atW D (TYS cI cC cQ) (va_A (PW cI cC h0 a sg ln po dd lt pl f1s s2s tms) sz) (PW cI cC h0 a sg ln u.1 dd lt pl u.2.1 u.2.2.1 u.2.2.2)) (va_A (PW cI cC h0 a sg ln po dd lt pl f1s s2s tms) sz)) 0 0 (va_A (PW cI cC h0 a sg ln po dd lt pl f1s s2s tms) sz) := by
  refine k_meti .boolean rfl (by decide) (Nat.le_of_ble_eq_true rfl) ?_
  intro p e s m args below meth c A ls Q H locs hargs hret hx hb hts hown hml hname hN hA hS hP hK hD hl
  have hl : lv_has ls 4 [(0, .ref h0)] := hl
  obtain ⟨Xq, hX⟩ : ∃ Xq, Xq = sh_X2_readPrinting sg ln po dd f1s s2s tms := ⟨_, rfl⟩
  have hq : Xq = (kb (sh_X2_readBelow sg ln po 2) (fun z_r1 => (if z_r1.1 = (-4) then ((0 : Int32), z_r1.2, f1s, s2s, tms) else (kb (sh_X2_read sg ln z_r1.2 58) (fun z_r6 => (if z_r6.1 = 0 then ((0 : Int32), z_r6.2, f1s, s2s, tms) else (kb (sh_X2_readNumber sg ln z_r6.2 1 999) (fun z_r11 => (if z_r11.1 = (-4) then ((0 : Int32), z_r11.2, f1s, s2s, tms) else (kb (sh_X2_read sg ln z_r11.2 120) (fun z_r16 => (if z_r16.1 = 0 then ((1 : Int32), z_r16.2, (upd f1s dd.toNatClampNeg z_r1.1), (upd s2s dd.toNatClampNeg z_r11.1), (upd tms dd.toNatClampNeg 1)) else (kb (sh_X2_readNumber sg ln z_r16.2 2 50) (fun z_r21 => (if z_r21.1 = (-4) then ((0 : Int32), z_r21.2, (upd f1s dd.toNatClampNeg z_r1.1), (upd s2s dd.toNatClampNeg z_r11.1), (upd tms dd.toNatClampNeg z_r21.1)) else ((1 : Int32), z_r21.2, (upd f1s dd.toNatClampNeg z_r1.1), (upd s2s dd.toNatClampNeg z_r11.1), (upd tms dd.toNatClampNeg z_r21.1))))))))))))))))) := hX
  refine lv_aload_n hx hb dX2_readPrinting_0 rfl (lv_at hl 0 rfl) ?_
  refine lv_iconst (v := 2) hx hb dX2_readPrinting_1 (by decide) ?_
  have hPs := k_self hP
  have hDs := k_selfD hD
  refine k_behi (X := []) (Y := []) (va_runV (As := [.int 2]) (rest := []) ⟨hx, hb, hml, hown, hts⟩ (c_X2_readBelow l D cI cC cQ H.size h0 a sg ln po dd lt pl f1s s2s tms 2 (hpo)) (kcwV hts wd_ml_RX2_61 wd_im_yX2_readBelow wd_sel_yX2_readBelow wd_ini_RX2 wd_code_yX2_readBelow rfl rfl rfl hd_X2_readBelow ⟨Nat.le_of_ble_eq_true rfl, Nat.le_of_ble_eq_true rfl⟩) ⟨in_blind, va_recv hK (pa_l (pa_r hPs)) (ci := 2) (q0 := 0) rfl rfl, k_pre hK (pa_l (pa_r hPs)) (da_l (da_r hDs)) hN⟩ rfl rfl hl.1 rfl (lv_room (Nat.le_of_ble_eq_true rfl)) dX2_readPrinting_2 ⟨Nat.le_of_ble_eq_true rfl, Nat.le_of_ble_eq_true rfl⟩) hPs hDs hS hA (fun r1 u2 H locs hw3 hP hD hS => ?_)
  obtain ⟨v4, rfl⟩ : ∃ z, z = u2 := ⟨_, rfl⟩
  have hP := k_unP hP
  have hD := k_unD hD
  have hP : va_P D vwCl (PW cI cC h0 a sg ln v4 dd lt pl f1s s2s tms) H := hP
  have hD : va_D A (PW cI cC h0 a sg ln v4 dd lt pl f1s s2s tms) := hD
  have hw3 : (r1, v4) = (sh_X2_readBelow sg ln po 2) := hw3
  have hq := kb_to hq hw3
  refine lv_istore_n (lv' := [(1, .int r1), (0, .ref h0)]) hx hb dX2_readPrinting_5 rfl hl (by decide) rfl (fun ls hl => ?_)
  refine lv_iload_n hx hb dX2_readPrinting_6 rfl (lv_at hl 0 rfl) ?_
  refine lv_bipush (v := (-4)) hx hb dX2_readPrinting_7 (by decide) ?_
  refine lv_icmp_eq (tgt := 21) hx hb dX2_readPrinting_9 (by decide) (fun c5 => ?_) (fun c5 => ?_)
  · have hq := it_pos hq c5
    refine lv_iconst (v := 0) hx hb dX2_readPrinting_21 (by decide) ?_
    exact hret _ _ _ _ (0) (v4, f1s, s2s, tms) dX2_readPrinting_22 rfl (hq.symm.trans hX) hP hD hS
  · have hq := it_neg hq c5
    refine lv_aload_n hx hb dX2_readPrinting_12 rfl (lv_at hl 1 rfl) ?_
    refine lv_bipush (v := 58) hx hb dX2_readPrinting_13 (by decide) ?_
    have hPs := k_self hP
    have hDs := k_selfD hD
    refine k_behi (X := []) (Y := []) (va_runV (As := [.int 58]) (rest := []) ⟨hx, hb, hml, hown, hts⟩ (c_X2_read l D cI cC cQ H.size h0 a sg ln v4 dd lt pl f1s s2s tms 58 ((poE1 (readBelow_po hpo) hw3))) (kcwV hts wd_ml_RX2_48 wd_im_yX2_read wd_sel_yX2_read wd_ini_RX2 wd_code_yX2_read rfl rfl rfl hd_X2_read ⟨Nat.le_of_ble_eq_true rfl, Nat.le_of_ble_eq_true rfl⟩) ⟨in_blind, va_recv hK (pa_l (pa_r hPs)) (ci := 2) (q0 := 0) rfl rfl, k_pre hK (pa_l (pa_r hPs)) (da_l (da_r hDs)) hN⟩ rfl rfl hl.1 rfl (lv_room (Nat.le_of_ble_eq_true rfl)) dX2_readPrinting_15 ⟨Nat.le_of_ble_eq_true rfl, Nat.le_of_ble_eq_true rfl⟩) hPs hDs hS hA (fun r6 u7 H locs hw8 hP hD hS => ?_)
    obtain ⟨v9, rfl⟩ : ∃ z, z = u7 := ⟨_, rfl⟩
    have hP := k_unP hP
    have hD := k_unD hD
    have hP : va_P D vwCl (PW cI cC h0 a sg ln v9 dd lt pl f1s s2s tms) H := hP
    have hD : va_D A (PW cI cC h0 a sg ln v9 dd lt pl f1s s2s tms) := hD
    have hw8 : (r6, v9) = (sh_X2_read sg ln v4 58) := hw8
    have hq := kb_to hq hw8
    refine lv_if_ne (tgt := 23) hx hb dX2_readPrinting_18 (by decide) (fun c10 => ?_) (fun c10 => ?_)
    · have hq := it_neg hq c10
      refine lv_aload_n hx hb dX2_readPrinting_23 rfl (lv_at hl 1 rfl) ?_
      refine lv_iconst (v := 1) hx hb dX2_readPrinting_24 (by decide) ?_
      refine lv_sipush (v := 999) hx hb dX2_readPrinting_25 (by decide) ?_
      have hPs := k_self hP
      have hDs := k_selfD hD
      refine k_behi (X := []) (Y := []) (va_runV (As := [.int 1, .int 999]) (rest := []) ⟨hx, hb, hml, hown, hts⟩ (c_X2_readNumber l D cI cC cQ H.size h0 a sg ln v9 dd lt pl f1s s2s tms 1 999 ((poE1 (read_po (poE1 (readBelow_po hpo) hw3)) hw8))) (kcwV hts wd_ml_RX2_65 wd_im_yX2_readNumber wd_sel_yX2_readNumber wd_ini_RX2 wd_code_yX2_readNumber rfl rfl rfl hd_X2_readNumber ⟨Nat.le_of_ble_eq_true rfl, Nat.le_of_ble_eq_true rfl⟩) ⟨in_blind, va_recv hK (pa_l (pa_r hPs)) (ci := 2) (q0 := 0) rfl rfl, k_pre hK (pa_l (pa_r hPs)) (da_l (da_r hDs)) hN⟩ rfl rfl hl.1 rfl (lv_room (Nat.le_of_ble_eq_true rfl)) dX2_readPrinting_28 ⟨Nat.le_of_ble_eq_true rfl, Nat.le_of_ble_eq_true rfl⟩) hPs hDs hS hA (fun r11 u12 H locs hw13 hP hD hS => ?_)
      obtain ⟨v14, rfl⟩ : ∃ z, z = u12 := ⟨_, rfl⟩
      have hP := k_unP hP
      have hD := k_unD hD
      have hP : va_P D vwCl (PW cI cC h0 a sg ln v14 dd lt pl f1s s2s tms) H := hP
      have hD : va_D A (PW cI cC h0 a sg ln v14 dd lt pl f1s s2s tms) := hD
      have hw13 : (r11, v14) = (sh_X2_readNumber sg ln v9 1 999) := hw13
      have hq := kb_to hq hw13
      refine lv_istore_n (lv' := [(2, .int r11), (1, .int r1), (0, .ref h0)]) hx hb dX2_readPrinting_31 rfl hl (by decide) rfl (fun ls hl => ?_)
      refine lv_iload_n hx hb dX2_readPrinting_32 rfl (lv_at hl 0 rfl) ?_
      refine lv_bipush (v := (-4)) hx hb dX2_readPrinting_33 (by decide) ?_
      refine lv_icmp_ne (tgt := 40) hx hb dX2_readPrinting_35 (by decide) (fun c15 => ?_) (fun c15 => ?_)
      · have hq := it_neg hq c15
        refine lv_aload_n hx hb dX2_readPrinting_40 rfl (lv_at hl 2 rfl) ?_
        refine lv_bipush (v := 120) hx hb dX2_readPrinting_41 (by decide) ?_
        have hPs := k_self hP
        have hDs := k_selfD hD
        refine k_behi (X := []) (Y := []) (va_runV (As := [.int 120]) (rest := []) ⟨hx, hb, hml, hown, hts⟩ (c_X2_read l D cI cC cQ H.size h0 a sg ln v14 dd lt pl f1s s2s tms 120 ((poE1 (readNumber_po (poE1 (read_po (poE1 (readBelow_po hpo) hw3)) hw8)) hw13))) (kcwV hts wd_ml_RX2_48 wd_im_yX2_read wd_sel_yX2_read wd_ini_RX2 wd_code_yX2_read rfl rfl rfl hd_X2_read ⟨Nat.le_of_ble_eq_true rfl, Nat.le_of_ble_eq_true rfl⟩) ⟨in_blind, va_recv hK (pa_l (pa_r hPs)) (ci := 2) (q0 := 0) rfl rfl, k_pre hK (pa_l (pa_r hPs)) (da_l (da_r hDs)) hN⟩ rfl rfl hl.1 rfl (lv_room (Nat.le_of_ble_eq_true rfl)) dX2_readPrinting_43 ⟨Nat.le_of_ble_eq_true rfl, Nat.le_of_ble_eq_true rfl⟩) hPs hDs hS hA (fun r16 u17 H locs hw18 hP hD hS => ?_)
        obtain ⟨v19, rfl⟩ : ∃ z, z = u17 := ⟨_, rfl⟩
        have hP := k_unP hP
        have hD := k_unD hD
        have hP : va_P D vwCl (PW cI cC h0 a sg ln v19 dd lt pl f1s s2s tms) H := hP
        have hD : va_D A (PW cI cC h0 a sg ln v19 dd lt pl f1s s2s tms) := hD
        have hw18 : (r16, v19) = (sh_X2_read sg ln v14 120) := hw18
        have hq := kb_to hq hw18
        refine lv_if_eq (tgt := 59) hx hb dX2_readPrinting_46 (by decide) (fun c20 => ?_) (fun c20 => ?_)
        · have hq := it_pos hq c20
          refine lv_iconst (v := 1) hx hb dX2_readPrinting_59 (by decide) ?_
          refine lv_istore_n (lv' := [(3, .int 1), (2, .int r11), (1, .int r1), (0, .ref h0)]) hx hb dX2_readPrinting_60 rfl hl (by decide) rfl (fun ls hl => ?_)
          refine lv_aload_n hx hb dX2_readPrinting_61 rfl (lv_at hl 3 rfl) ?_
          refine va_get (D := D) (ci := 2) (v := .ref (a 3)) (C := RX2) (T := TX2) (N := 9) hx hb hts inA2 hown hK hP 0 rfl rfl 6 (by decide) (hts _ wd_fl_RX2_32) (fun _ h9 => h9) rfl dX2_readPrinting_62 ?_
          refine lv_aload_n hx hb dX2_readPrinting_65 rfl (lv_at hl 3 rfl) ?_
          refine va_get (D := D) (ci := 2) (v := .int dd) (C := RX2) (T := TX2) (N := 9) hx hb hts inA2 hown hK hP 0 rfl rfl 3 (by decide) (hts _ wd_fl_RX2_22) (fun _ h9 => h9) rfl dX2_readPrinting_66 ?_
          refine lv_iload_n hx hb dX2_readPrinting_69 rfl (lv_at hl 2 rfl) ?_
          refine va_iast hx hb hK hP hD hS 4 0 rfl rfl hdd dX2_readPrinting_70 (fun H locs hP hD hS => ?_)
          have hP : va_P D vwCl (PW cI cC h0 a sg ln v19 dd lt pl (upd f1s dd.toNatClampNeg r1) s2s tms) H := hP
          have hD : va_D A (PW cI cC h0 a sg ln v19 dd lt pl (upd f1s dd.toNatClampNeg r1) s2s tms) := hD
          refine lv_aload_n hx hb dX2_readPrinting_71 rfl (lv_at hl 3 rfl) ?_
          refine va_get (D := D) (ci := 2) (v := .ref (a 4)) (C := RX2) (T := TX2) (N := 9) hx hb hts inA2 hown hK hP 0 rfl rfl 7 (by decide) (hts _ wd_fl_RX2_35) (fun _ h9 => h9) rfl dX2_readPrinting_72 ?_
          refine lv_aload_n hx hb dX2_readPrinting_75 rfl (lv_at hl 3 rfl) ?_
          refine va_get (D := D) (ci := 2) (v := .int dd) (C := RX2) (T := TX2) (N := 9) hx hb hts inA2 hown hK hP 0 rfl rfl 3 (by decide) (hts _ wd_fl_RX2_22) (fun _ h9 => h9) rfl dX2_readPrinting_76 ?_
          refine lv_iload_n hx hb dX2_readPrinting_79 rfl (lv_at hl 1 rfl) ?_
          refine va_iast hx hb hK hP hD hS 5 0 rfl rfl hdd dX2_readPrinting_80 (fun H locs hP hD hS => ?_)
          have hP : va_P D vwCl (PW cI cC h0 a sg ln v19 dd lt pl (upd f1s dd.toNatClampNeg r1) (upd s2s dd.toNatClampNeg r11) tms) H := hP
          have hD : va_D A (PW cI cC h0 a sg ln v19 dd lt pl (upd f1s dd.toNatClampNeg r1) (upd s2s dd.toNatClampNeg r11) tms) := hD
          refine lv_aload_n hx hb dX2_readPrinting_81 rfl (lv_at hl 3 rfl) ?_
          refine va_get (D := D) (ci := 2) (v := .ref (a 5)) (C := RX2) (T := TX2) (N := 9) hx hb hts inA2 hown hK hP 0 rfl rfl 8 (by decide) (hts _ wd_fl_RX2_38) (fun _ h9 => h9) rfl dX2_readPrinting_82 ?_
          refine lv_aload_n hx hb dX2_readPrinting_85 rfl (lv_at hl 3 rfl) ?_
          refine va_get (D := D) (ci := 2) (v := .int dd) (C := RX2) (T := TX2) (N := 9) hx hb hts inA2 hown hK hP 0 rfl rfl 3 (by decide) (hts _ wd_fl_RX2_22) (fun _ h9 => h9) rfl dX2_readPrinting_86 ?_
          refine lv_iload_n hx hb dX2_readPrinting_89 rfl (lv_at hl 0 rfl) ?_
          refine va_iast hx hb hK hP hD hS 6 0 rfl rfl hdd dX2_readPrinting_90 (fun H locs hP hD hS => ?_)
          have hP : va_P D vwCl (PW cI cC h0 a sg ln v19 dd lt pl (upd f1s dd.toNatClampNeg r1) (upd s2s dd.toNatClampNeg r11) (upd tms dd.toNatClampNeg 1)) H := hP
          have hD : va_D A (PW cI cC h0 a sg ln v19 dd lt pl (upd f1s dd.toNatClampNeg r1) (upd s2s dd.toNatClampNeg r11) (upd tms dd.toNatClampNeg 1)) := hD
          refine lv_iload_n hx hb dX2_readPrinting_91 rfl (lv_at hl 0 rfl) ?_
          refine lv_bipush (v := (-4)) hx hb dX2_readPrinting_92 (by decide) ?_
          refine lv_icmp_eq (tgt := 101) hx hb dX2_readPrinting_94 (by decide) (fun c9 => absurd c9 (by decide)) (fun _ => ?_)
          refine lv_iconst (v := 1) hx hb dX2_readPrinting_97 (by decide) ?_
          refine lv_goto (tgt := 102) hx hb dX2_readPrinting_98 (by decide) ?_
          exact hret _ _ _ _ (1) (v19, (upd f1s dd.toNatClampNeg r1), (upd s2s dd.toNatClampNeg r11), (upd tms dd.toNatClampNeg 1)) dX2_readPrinting_102 rfl (hq.symm.trans hX) hP hD hS
        · have hq := it_neg hq c20
          refine lv_aload_n hx hb dX2_readPrinting_49 rfl (lv_at hl 2 rfl) ?_
          refine lv_iconst (v := 2) hx hb dX2_readPrinting_50 (by decide) ?_
          refine lv_bipush (v := 50) hx hb dX2_readPrinting_51 (by decide) ?_
          have hPs := k_self hP
          have hDs := k_selfD hD
          refine k_behi (X := []) (Y := []) (va_runV (As := [.int 2, .int 50]) (rest := []) ⟨hx, hb, hml, hown, hts⟩ (c_X2_readNumber l D cI cC cQ H.size h0 a sg ln v19 dd lt pl f1s s2s tms 2 50 ((poE1 (read_po (poE1 (readNumber_po (poE1 (read_po (poE1 (readBelow_po hpo) hw3)) hw8)) hw13)) hw18))) (kcwV hts wd_ml_RX2_65 wd_im_yX2_readNumber wd_sel_yX2_readNumber wd_ini_RX2 wd_code_yX2_readNumber rfl rfl rfl hd_X2_readNumber ⟨Nat.le_of_ble_eq_true rfl, Nat.le_of_ble_eq_true rfl⟩) ⟨in_blind, va_recv hK (pa_l (pa_r hPs)) (ci := 2) (q0 := 0) rfl rfl, k_pre hK (pa_l (pa_r hPs)) (da_l (da_r hDs)) hN⟩ rfl rfl hl.1 rfl (lv_room (Nat.le_of_ble_eq_true rfl)) dX2_readPrinting_53 ⟨Nat.le_of_ble_eq_true rfl, Nat.le_of_ble_eq_true rfl⟩) hPs hDs hS hA (fun r21 u22 H locs hw23 hP hD hS => ?_)
          obtain ⟨v24, rfl⟩ : ∃ z, z = u22 := ⟨_, rfl⟩
          have hP := k_unP hP
          have hD := k_unD hD
          have hP : va_P D vwCl (PW cI cC h0 a sg ln v24 dd lt pl f1s s2s tms) H := hP
          have hD : va_D A (PW cI cC h0 a sg ln v24 dd lt pl f1s s2s tms) := hD
          have hw23 : (r21, v24) = (sh_X2_readNumber sg ln v19 2 50) := hw23
          have hq := kb_to hq hw23
          refine lv_goto (tgt := 60) hx hb dX2_readPrinting_56 (by decide) ?_
          refine lv_istore_n (lv' := [(3, .int r21), (2, .int r11), (1, .int r1), (0, .ref h0)]) hx hb dX2_readPrinting_60 rfl hl (by decide) rfl (fun ls hl => ?_)
          refine lv_aload_n hx hb dX2_readPrinting_61 rfl (lv_at hl 3 rfl) ?_
          refine va_get (D := D) (ci := 2) (v := .ref (a 3)) (C := RX2) (T := TX2) (N := 9) hx hb hts inA2 hown hK hP 0 rfl rfl 6 (by decide) (hts _ wd_fl_RX2_32) (fun _ h9 => h9) rfl dX2_readPrinting_62 ?_
          refine lv_aload_n hx hb dX2_readPrinting_65 rfl (lv_at hl 3 rfl) ?_
          refine va_get (D := D) (ci := 2) (v := .int dd) (C := RX2) (T := TX2) (N := 9) hx hb hts inA2 hown hK hP 0 rfl rfl 3 (by decide) (hts _ wd_fl_RX2_22) (fun _ h9 => h9) rfl dX2_readPrinting_66 ?_
          refine lv_iload_n hx hb dX2_readPrinting_69 rfl (lv_at hl 2 rfl) ?_
          refine va_iast hx hb hK hP hD hS 4 0 rfl rfl hdd dX2_readPrinting_70 (fun H locs hP hD hS => ?_)
          have hP : va_P D vwCl (PW cI cC h0 a sg ln v24 dd lt pl (upd f1s dd.toNatClampNeg r1) s2s tms) H := hP
          have hD : va_D A (PW cI cC h0 a sg ln v24 dd lt pl (upd f1s dd.toNatClampNeg r1) s2s tms) := hD
          refine lv_aload_n hx hb dX2_readPrinting_71 rfl (lv_at hl 3 rfl) ?_
          refine va_get (D := D) (ci := 2) (v := .ref (a 4)) (C := RX2) (T := TX2) (N := 9) hx hb hts inA2 hown hK hP 0 rfl rfl 7 (by decide) (hts _ wd_fl_RX2_35) (fun _ h9 => h9) rfl dX2_readPrinting_72 ?_
          refine lv_aload_n hx hb dX2_readPrinting_75 rfl (lv_at hl 3 rfl) ?_
          refine va_get (D := D) (ci := 2) (v := .int dd) (C := RX2) (T := TX2) (N := 9) hx hb hts inA2 hown hK hP 0 rfl rfl 3 (by decide) (hts _ wd_fl_RX2_22) (fun _ h9 => h9) rfl dX2_readPrinting_76 ?_
          refine lv_iload_n hx hb dX2_readPrinting_79 rfl (lv_at hl 1 rfl) ?_
          refine va_iast hx hb hK hP hD hS 5 0 rfl rfl hdd dX2_readPrinting_80 (fun H locs hP hD hS => ?_)
          have hP : va_P D vwCl (PW cI cC h0 a sg ln v24 dd lt pl (upd f1s dd.toNatClampNeg r1) (upd s2s dd.toNatClampNeg r11) tms) H := hP
          have hD : va_D A (PW cI cC h0 a sg ln v24 dd lt pl (upd f1s dd.toNatClampNeg r1) (upd s2s dd.toNatClampNeg r11) tms) := hD
          refine lv_aload_n hx hb dX2_readPrinting_81 rfl (lv_at hl 3 rfl) ?_
          refine va_get (D := D) (ci := 2) (v := .ref (a 5)) (C := RX2) (T := TX2) (N := 9) hx hb hts inA2 hown hK hP 0 rfl rfl 8 (by decide) (hts _ wd_fl_RX2_38) (fun _ h9 => h9) rfl dX2_readPrinting_82 ?_
          refine lv_aload_n hx hb dX2_readPrinting_85 rfl (lv_at hl 3 rfl) ?_
          refine va_get (D := D) (ci := 2) (v := .int dd) (C := RX2) (T := TX2) (N := 9) hx hb hts inA2 hown hK hP 0 rfl rfl 3 (by decide) (hts _ wd_fl_RX2_22) (fun _ h9 => h9) rfl dX2_readPrinting_86 ?_
          refine lv_iload_n hx hb dX2_readPrinting_89 rfl (lv_at hl 0 rfl) ?_
          refine va_iast hx hb hK hP hD hS 6 0 rfl rfl hdd dX2_readPrinting_90 (fun H locs hP hD hS => ?_)
          have hP : va_P D vwCl (PW cI cC h0 a sg ln v24 dd lt pl (upd f1s dd.toNatClampNeg r1) (upd s2s dd.toNatClampNeg r11) (upd tms dd.toNatClampNeg r21)) H := hP
          have hD : va_D A (PW cI cC h0 a sg ln v24 dd lt pl (upd f1s dd.toNatClampNeg r1) (upd s2s dd.toNatClampNeg r11) (upd tms dd.toNatClampNeg r21)) := hD
          refine lv_iload_n hx hb dX2_readPrinting_91 rfl (lv_at hl 0 rfl) ?_
          refine lv_bipush (v := (-4)) hx hb dX2_readPrinting_92 (by decide) ?_
          refine lv_icmp_eq (tgt := 101) hx hb dX2_readPrinting_94 (by decide) (fun c25 => ?_) (fun c25 => ?_)
          · have hq := it_pos hq c25
            refine lv_iconst (v := 0) hx hb dX2_readPrinting_101 (by decide) ?_
            exact hret _ _ _ _ (0) (v24, (upd f1s dd.toNatClampNeg r1), (upd s2s dd.toNatClampNeg r11), (upd tms dd.toNatClampNeg r21)) dX2_readPrinting_102 rfl (hq.symm.trans hX) hP hD hS
          · have hq := it_neg hq c25
            refine lv_iconst (v := 1) hx hb dX2_readPrinting_97 (by decide) ?_
            refine lv_goto (tgt := 102) hx hb dX2_readPrinting_98 (by decide) ?_
            exact hret _ _ _ _ (1) (v24, (upd f1s dd.toNatClampNeg r1), (upd s2s dd.toNatClampNeg r11), (upd tms dd.toNatClampNeg r21)) dX2_readPrinting_102 rfl (hq.symm.trans hX) hP hD hS
      · have hq := it_pos hq c15
        refine lv_iconst (v := 0) hx hb dX2_readPrinting_38 (by decide) ?_
        exact hret _ _ _ _ (0) (v14, f1s, s2s, tms) dX2_readPrinting_39 rfl (hq.symm.trans hX) hP hD hS
    · have hq := it_pos hq c10
      refine lv_iconst (v := 0) hx hb dX2_readPrinting_21 (by decide) ?_
      exact hret _ _ _ _ (0) (v9, f1s, s2s, tms) dX2_readPrinting_22 rfl (hq.symm.trans hX) hP hD hS
set_option maxHeartbeats 200000 in
theorem readShaking_po {sg : Nat → Int32} {ln : Int32} {po : Int32} {dd : Int32} {f1s : Nat → Int32} (h : poOK po ln) : poOK (sh_X2_readShaking sg ln po dd f1s).2.1 ln := by
  simp only [sh_X2_readShaking, kb]
  (repeat' split) <;> (try dsimp only) <;> (repeat' first | with_reducible exact h | with_reducible apply readNumber_po | with_reducible apply read_po | with_reducible apply readBelow_po)
set_option maxHeartbeats 200000 in
theorem b01f_X2_readShaking {sg : Nat → Int32} {ln : Int32} {po : Int32} {dd : Int32} {f1s : Nat → Int32} : (sh_X2_readShaking sg ln po dd f1s).1 = 0 ∨ (sh_X2_readShaking sg ln po dd f1s).1 = 1 := by
  simp only [sh_X2_readShaking, kb]
  (repeat' split) <;> (try dsimp only) <;> first | with_reducible exact Or.inl rfl | with_reducible exact Or.inr rfl
theorem b01_X2_readShaking {sg : Nat → Int32} {ln : Int32} {po : Int32} {dd : Int32} {f1s : Nat → Int32} {r : Int32} {x} (e : (r, x) = sh_X2_readShaking sg ln po dd f1s) : r = 0 ∨ r = 1 := fst01 b01f_X2_readShaking e
set_option maxHeartbeats 200000 in
theorem readMoving_po {sg : Nat → Int32} {ln : Int32} {po : Int32} {dd : Int32} {f1s : Nat → Int32} {s2s : Nat → Int32} (h : poOK po ln) : poOK (sh_X2_readMoving sg ln po dd f1s s2s).2.1 ln := by
  simp only [sh_X2_readMoving, kb]
  (repeat' split) <;> (try dsimp only) <;> (repeat' first | with_reducible exact h | with_reducible apply readNumber_po | with_reducible apply read_po | with_reducible apply readBelow_po)
set_option maxHeartbeats 200000 in
theorem b01f_X2_readMoving {sg : Nat → Int32} {ln : Int32} {po : Int32} {dd : Int32} {f1s : Nat → Int32} {s2s : Nat → Int32} : (sh_X2_readMoving sg ln po dd f1s s2s).1 = 0 ∨ (sh_X2_readMoving sg ln po dd f1s s2s).1 = 1 := by
  simp only [sh_X2_readMoving, kb]
  (repeat' split) <;> (try dsimp only) <;> first | with_reducible exact Or.inl rfl | with_reducible exact Or.inr rfl
theorem b01_X2_readMoving {sg : Nat → Int32} {ln : Int32} {po : Int32} {dd : Int32} {f1s : Nat → Int32} {s2s : Nat → Int32} {r : Int32} {x} (e : (r, x) = sh_X2_readMoving sg ln po dd f1s s2s) : r = 0 ∨ r = 1 := fst01 b01f_X2_readMoving e
set_option maxHeartbeats 200000 in
theorem readPrinting_po {sg : Nat → Int32} {ln : Int32} {po : Int32} {dd : Int32} {f1s : Nat → Int32} {s2s : Nat → Int32} {tms : Nat → Int32} (h : poOK po ln) : poOK (sh_X2_readPrinting sg ln po dd f1s s2s tms).2.1 ln := by
  simp only [sh_X2_readPrinting, kb]
  (repeat' split) <;> (try dsimp only) <;> (repeat' first | with_reducible exact h | with_reducible apply readNumber_po | with_reducible apply read_po | with_reducible apply readBelow_po)
set_option maxHeartbeats 200000 in
theorem b01f_X2_readPrinting {sg : Nat → Int32} {ln : Int32} {po : Int32} {dd : Int32} {f1s : Nat → Int32} {s2s : Nat → Int32} {tms : Nat → Int32} : (sh_X2_readPrinting sg ln po dd f1s s2s tms).1 = 0 ∨ (sh_X2_readPrinting sg ln po dd f1s s2s tms).1 = 1 := by
  simp only [sh_X2_readPrinting, kb]
  (repeat' split) <;> (try dsimp only) <;> first | with_reducible exact Or.inl rfl | with_reducible exact Or.inr rfl
theorem b01_X2_readPrinting {sg : Nat → Int32} {ln : Int32} {po : Int32} {dd : Int32} {f1s : Nat → Int32} {s2s : Nat → Int32} {tms : Nat → Int32} {r : Int32} {x} (e : (r, x) = sh_X2_readPrinting sg ln po dd f1s s2s tms) : r = 0 ∨ r = 1 := fst01 b01f_X2_readPrinting e
def sh_X2_readDeed (sg : Nat → Int32) (ln : Int32) (po : Int32) (dd : Int32) (lt : Nat → Int32) (pl : Nat → Int32) (f1s : Nat → Int32) (s2s : Nat → Int32) (tms : Nat → Int32) : Int32 × (Int32) × (Int32) × (Nat → Int32) × (Nat → Int32) × (Nat → Int32) × (Nat → Int32) × (Nat → Int32) := (if dd < 30 then (kb (sh_X2_read sg ln po 112) (fun z_r2 => (if z_r2.1 = 0 then (kb (sh_X2_read sg ln z_r2.2 115) (fun z_r7 => (if z_r7.1 = 0 then (kb (sh_X2_read sg ln z_r7.2 109) (fun z_r12 => (if z_r12.1 = 0 then ((0 : Int32), z_r12.2, (dd + 1), (upd lt dd.toNatClampNeg (vp_nar .char 109)), (upd pl dd.toNatClampNeg po), f1s, s2s, tms) else (kb (sh_X2_readMoving sg ln z_r12.2 dd f1s s2s) (fun z_r17 => (if z_r17.1 = 0 then ((0 : Int32), z_r17.2.1, (dd + 1), (upd lt dd.toNatClampNeg (vp_nar .char 109)), (upd pl dd.toNatClampNeg po), z_r17.2.2.1, z_r17.2.2.2, tms) else ((1 : Int32), z_r17.2.1, (dd + 1), (upd lt dd.toNatClampNeg (vp_nar .char 109)), (upd pl dd.toNatClampNeg po), z_r17.2.2.1, z_r17.2.2.2, tms))))))) else (kb (sh_X2_readShaking sg ln z_r7.2 dd f1s) (fun z_r24 => (z_r24.1, z_r24.2.1, (dd + 1), (upd lt dd.toNatClampNeg (vp_nar .char 115)), (upd pl dd.toNatClampNeg po), z_r24.2.2, s2s, tms)))))) else (kb (sh_X2_readPrinting sg ln z_r2.2 dd f1s s2s tms) (fun z_r29 => (z_r29.1, z_r29.2.1, (dd + 1), (upd lt dd.toNatClampNeg (vp_nar .char 112)), (upd pl dd.toNatClampNeg po), z_r29.2.2.1, z_r29.2.2.2.1, z_r29.2.2.2.2)))))) else ((0 : Int32), po, dd, lt, pl, f1s, s2s, tms))
abbrev rm_X2_readDeed : Room := { frames := 2, cells := 0, slots := 0, locals := 49 }
theorem hd_X2_readDeed : hdT yX2_readDeed 0 := by decide +kernel
set_option maxHeartbeats 40000000 in
set_option maxRecDepth 100000 in
theorem c_X2_readDeed (l : Launch) (D : va_G) (cI cC cQ : ClassId) (sz : Nat) (h0 : Nat) (a : Nat → Nat) (sg : Nat → Int32) (ln : Int32) (po : Int32) (dd : Int32) (lt : Nat → Int32) (pl : Nat → Int32) (f1s : Nat → Int32) (s2s : Nat → Int32) (tms : Nat → Int32)  (hpo : poOK po ln) (hdd0 : ¬ dd < 0) : Met l yX2_readDeed (wsO yX2_readDeed cX2_readDeed 2 (some .boolean)) rm_X2_readDeed (va_Pc [.ref h0] (inW D (TYS cI cC cQ) (PW cI cC h0 a sg ln po dd lt pl f1s s2s tms) sz)) (va_Qi (fun (r : Int32) (u : (Int32) × (Int32) × (Nat → Int32) × (Nat → Int32) × (Nat → Int32) × (Nat → Int32) × (Nat → Int32)) => (r, u) = sh_X2_readDeed sg ln po dd lt pl f1s s2s tms) (fun (u : (Int32) × (Int32) × (Nat → Int32) × (Nat → Int32) × (Nat → Int32) × (Nat → Int32) × (Nat → Int32)) => atW D (TYS cI cC cQ) (va_A (PW cI cC h0 a sg ln po dd lt pl f1s s2s tms) sz) (PW cI cC h0 a sg ln u.1 u.2.1 u.2.2.1 u.2.2.2.1 u.2.2.2.2.1 u.2.2.2.2.2.1 u.2.2.2.2.2.2)) (va_A (PW cI cC h0 a sg ln po dd lt pl f1s s2s tms) sz)) 0 0 (va_A (PW cI cC h0 a sg ln po dd lt pl f1s s2s tms) sz) := by
  refine k_meti .boolean rfl (by decide) (Nat.le_of_ble_eq_true rfl) ?_
  intro p e s m args below meth c A ls Q H locs hargs hret hx hb hts hown hml hname hN hA hS hP hK hD hl
  have hl : lv_has ls 2 [(0, .ref h0)] := hl
  obtain ⟨Xq, hX⟩ : ∃ Xq, Xq = sh_X2_readDeed sg ln po dd lt pl f1s s2s tms := ⟨_, rfl⟩
  have hq : Xq = (if dd < 30 then (kb (sh_X2_read sg ln po 112) (fun z_r2 => (if z_r2.1 = 0 then (kb (sh_X2_read sg ln z_r2.2 115) (fun z_r7 => (if z_r7.1 = 0 then (kb (sh_X2_read sg ln z_r7.2 109) (fun z_r12 => (if z_r12.1 = 0 then ((0 : Int32), z_r12.2, (dd + 1), (upd lt dd.toNatClampNeg (vp_nar .char 109)), (upd pl dd.toNatClampNeg po), f1s, s2s, tms) else (kb (sh_X2_readMoving sg ln z_r12.2 dd f1s s2s) (fun z_r17 => (if z_r17.1 = 0 then ((0 : Int32), z_r17.2.1, (dd + 1), (upd lt dd.toNatClampNeg (vp_nar .char 109)), (upd pl dd.toNatClampNeg po), z_r17.2.2.1, z_r17.2.2.2, tms) else ((1 : Int32), z_r17.2.1, (dd + 1), (upd lt dd.toNatClampNeg (vp_nar .char 109)), (upd pl dd.toNatClampNeg po), z_r17.2.2.1, z_r17.2.2.2, tms))))))) else (kb (sh_X2_readShaking sg ln z_r7.2 dd f1s) (fun z_r24 => (z_r24.1, z_r24.2.1, (dd + 1), (upd lt dd.toNatClampNeg (vp_nar .char 115)), (upd pl dd.toNatClampNeg po), z_r24.2.2, s2s, tms)))))) else (kb (sh_X2_readPrinting sg ln z_r2.2 dd f1s s2s tms) (fun z_r29 => (z_r29.1, z_r29.2.1, (dd + 1), (upd lt dd.toNatClampNeg (vp_nar .char 112)), (upd pl dd.toNatClampNeg po), z_r29.2.2.1, z_r29.2.2.2.1, z_r29.2.2.2.2)))))) else ((0 : Int32), po, dd, lt, pl, f1s, s2s, tms)) := hX
  refine lv_aload_n hx hb dX2_readDeed_0 rfl (lv_at hl 0 rfl) ?_
  refine va_get (D := D) (ci := 2) (v := .int dd) (C := RX2) (T := TX2) (N := 9) hx hb hts inA2 hown hK hP 0 rfl rfl 3 (by decide) (hts _ wd_fl_RX2_22) (fun _ h9 => h9) rfl dX2_readDeed_1 ?_
  refine lv_bipush (v := 30) hx hb dX2_readDeed_4 (by decide) ?_
  refine lv_icmp_lt (tgt := 11) hx hb dX2_readDeed_6 (by decide) (fun c1 => ?_) (fun c1 => ?_)
  · have hq := it_pos hq c1
    refine lv_aload_n hx hb dX2_readDeed_11 rfl (lv_at hl 0 rfl) ?_
    refine va_get (D := D) (ci := 2) (v := .ref (a 2)) (C := RX2) (T := TX2) (N := 9) hx hb hts inA2 hown hK hP 0 rfl rfl 5 (by decide) (hts _ wd_fl_RX2_28) (fun _ h9 => h9) rfl dX2_readDeed_12 ?_
    refine lv_aload_n hx hb dX2_readDeed_15 rfl (lv_at hl 0 rfl) ?_
    refine va_get (D := D) (ci := 2) (v := .int dd) (C := RX2) (T := TX2) (N := 9) hx hb hts inA2 hown hK hP 0 rfl rfl 3 (by decide) (hts _ wd_fl_RX2_22) (fun _ h9 => h9) rfl dX2_readDeed_16 ?_
    refine lv_aload_n hx hb dX2_readDeed_19 rfl (lv_at hl 0 rfl) ?_
    refine va_get (D := D) (ci := 2) (v := .int po) (C := RX2) (T := TX2) (N := 9) hx hb hts inA2 hown hK hP 0 rfl rfl 2 (by decide) (hts _ wd_fl_RX2_19) (fun _ h9 => h9) rfl dX2_readDeed_20 ?_
    refine va_iast hx hb hK hP hD hS 3 0 rfl rfl (dd_in hdd0 c1) dX2_readDeed_23 (fun H locs hP hD hS => ?_)
    have hP : va_P D vwCl (PW cI cC h0 a sg ln po dd lt (upd pl dd.toNatClampNeg po) f1s s2s tms) H := hP
    have hD : va_D A (PW cI cC h0 a sg ln po dd lt (upd pl dd.toNatClampNeg po) f1s s2s tms) := hD
    refine lv_aload_n hx hb dX2_readDeed_24 rfl (lv_at hl 0 rfl) ?_
    refine lv_bipush (v := 112) hx hb dX2_readDeed_25 (by decide) ?_
    have hPs := k_self hP
    have hDs := k_selfD hD
    refine k_behi (X := []) (Y := []) (va_runV (As := [.int 112]) (rest := []) ⟨hx, hb, hml, hown, hts⟩ (c_X2_read l D cI cC cQ H.size h0 a sg ln po dd lt (upd pl dd.toNatClampNeg po) f1s s2s tms 112 (hpo)) (kcwV hts wd_ml_RX2_48 wd_im_yX2_read wd_sel_yX2_read wd_ini_RX2 wd_code_yX2_read rfl rfl rfl hd_X2_read ⟨Nat.le_of_ble_eq_true rfl, Nat.le_of_ble_eq_true rfl⟩) ⟨in_blind, va_recv hK (pa_l (pa_r hPs)) (ci := 2) (q0 := 0) rfl rfl, k_pre hK (pa_l (pa_r hPs)) (da_l (da_r hDs)) hN⟩ rfl rfl hl.1 rfl (lv_room (Nat.le_of_ble_eq_true rfl)) dX2_readDeed_27 ⟨Nat.le_of_ble_eq_true rfl, Nat.le_of_ble_eq_true rfl⟩) hPs hDs hS hA (fun r2 u3 H locs hw4 hP hD hS => ?_)
    obtain ⟨v5, rfl⟩ : ∃ z, z = u3 := ⟨_, rfl⟩
    have hP := k_unP hP
    have hD := k_unD hD
    have hP : va_P D vwCl (PW cI cC h0 a sg ln v5 dd lt (upd pl dd.toNatClampNeg po) f1s s2s tms) H := hP
    have hD : va_D A (PW cI cC h0 a sg ln v5 dd lt (upd pl dd.toNatClampNeg po) f1s s2s tms) := hD
    have hw4 : (r2, v5) = (sh_X2_read sg ln po 112) := hw4
    have hq := kb_to hq hw4
    refine lv_if_eq (tgt := 52) hx hb dX2_readDeed_30 (by decide) (fun c6 => ?_) (fun c6 => ?_)
    · have hq := it_pos hq c6
      refine lv_aload_n hx hb dX2_readDeed_52 rfl (lv_at hl 0 rfl) ?_
      refine lv_bipush (v := 115) hx hb dX2_readDeed_53 (by decide) ?_
      have hPs := k_self hP
      have hDs := k_selfD hD
      refine k_behi (X := []) (Y := []) (va_runV (As := [.int 115]) (rest := []) ⟨hx, hb, hml, hown, hts⟩ (c_X2_read l D cI cC cQ H.size h0 a sg ln v5 dd lt (upd pl dd.toNatClampNeg po) f1s s2s tms 115 ((poE1 (read_po hpo) hw4))) (kcwV hts wd_ml_RX2_48 wd_im_yX2_read wd_sel_yX2_read wd_ini_RX2 wd_code_yX2_read rfl rfl rfl hd_X2_read ⟨Nat.le_of_ble_eq_true rfl, Nat.le_of_ble_eq_true rfl⟩) ⟨in_blind, va_recv hK (pa_l (pa_r hPs)) (ci := 2) (q0 := 0) rfl rfl, k_pre hK (pa_l (pa_r hPs)) (da_l (da_r hDs)) hN⟩ rfl rfl hl.1 rfl (lv_room (Nat.le_of_ble_eq_true rfl)) dX2_readDeed_55 ⟨Nat.le_of_ble_eq_true rfl, Nat.le_of_ble_eq_true rfl⟩) hPs hDs hS hA (fun r7 u8 H locs hw9 hP hD hS => ?_)
      obtain ⟨v10, rfl⟩ : ∃ z, z = u8 := ⟨_, rfl⟩
      have hP := k_unP hP
      have hD := k_unD hD
      have hP : va_P D vwCl (PW cI cC h0 a sg ln v10 dd lt (upd pl dd.toNatClampNeg po) f1s s2s tms) H := hP
      have hD : va_D A (PW cI cC h0 a sg ln v10 dd lt (upd pl dd.toNatClampNeg po) f1s s2s tms) := hD
      have hw9 : (r7, v10) = (sh_X2_read sg ln v5 115) := hw9
      have hq := kb_to hq hw9
      refine lv_if_eq (tgt := 80) hx hb dX2_readDeed_58 (by decide) (fun c11 => ?_) (fun c11 => ?_)
      · have hq := it_pos hq c11
        refine lv_aload_n hx hb dX2_readDeed_80 rfl (lv_at hl 0 rfl) ?_
        refine va_get (D := D) (ci := 2) (v := .ref (a 1)) (C := RX2) (T := TX2) (N := 9) hx hb hts inA2 hown hK hP 0 rfl rfl 4 (by decide) (hts _ wd_fl_RX2_25) (fun _ h9 => h9) rfl dX2_readDeed_81 ?_
        refine lv_aload_n hx hb dX2_readDeed_84 rfl (lv_at hl 0 rfl) ?_
        refine va_get (D := D) (ci := 2) (v := .int dd) (C := RX2) (T := TX2) (N := 9) hx hb hts inA2 hown hK hP 0 rfl rfl 3 (by decide) (hts _ wd_fl_RX2_22) (fun _ h9 => h9) rfl dX2_readDeed_85 ?_
        refine lv_bipush (v := 109) hx hb dX2_readDeed_88 (by decide) ?_
        refine va_cast hx hb hK hP hD hS 2 1 rfl rfl (dd_in hdd0 c1) dX2_readDeed_90 (fun H locs hP hD hS => ?_)
        have hP : va_P D vwCl (PW cI cC h0 a sg ln v10 dd (upd lt dd.toNatClampNeg (vp_nar .char 109)) (upd pl dd.toNatClampNeg po) f1s s2s tms) H := hP
        have hD : va_D A (PW cI cC h0 a sg ln v10 dd (upd lt dd.toNatClampNeg (vp_nar .char 109)) (upd pl dd.toNatClampNeg po) f1s s2s tms) := hD
        refine lv_aload_n hx hb dX2_readDeed_91 rfl (lv_at hl 0 rfl) ?_
        refine lv_bipush (v := 109) hx hb dX2_readDeed_92 (by decide) ?_
        have hPs := k_self hP
        have hDs := k_selfD hD
        refine k_behi (X := []) (Y := []) (va_runV (As := [.int 109]) (rest := []) ⟨hx, hb, hml, hown, hts⟩ (c_X2_read l D cI cC cQ H.size h0 a sg ln v10 dd (upd lt dd.toNatClampNeg (vp_nar .char 109)) (upd pl dd.toNatClampNeg po) f1s s2s tms 109 ((poE1 (read_po (poE1 (read_po hpo) hw4)) hw9))) (kcwV hts wd_ml_RX2_48 wd_im_yX2_read wd_sel_yX2_read wd_ini_RX2 wd_code_yX2_read rfl rfl rfl hd_X2_read ⟨Nat.le_of_ble_eq_true rfl, Nat.le_of_ble_eq_true rfl⟩) ⟨in_blind, va_recv hK (pa_l (pa_r hPs)) (ci := 2) (q0 := 0) rfl rfl, k_pre hK (pa_l (pa_r hPs)) (da_l (da_r hDs)) hN⟩ rfl rfl hl.1 rfl (lv_room (Nat.le_of_ble_eq_true rfl)) dX2_readDeed_94 ⟨Nat.le_of_ble_eq_true rfl, Nat.le_of_ble_eq_true rfl⟩) hPs hDs hS hA (fun r12 u13 H locs hw14 hP hD hS => ?_)
        obtain ⟨v15, rfl⟩ : ∃ z, z = u13 := ⟨_, rfl⟩
        have hP := k_unP hP
        have hD := k_unD hD
        have hP : va_P D vwCl (PW cI cC h0 a sg ln v15 dd (upd lt dd.toNatClampNeg (vp_nar .char 109)) (upd pl dd.toNatClampNeg po) f1s s2s tms) H := hP
        have hD : va_D A (PW cI cC h0 a sg ln v15 dd (upd lt dd.toNatClampNeg (vp_nar .char 109)) (upd pl dd.toNatClampNeg po) f1s s2s tms) := hD
        have hw14 : (r12, v15) = (sh_X2_read sg ln v10 109) := hw14
        have hq := kb_to hq hw14
        refine lv_if_eq (tgt := 111) hx hb dX2_readDeed_97 (by decide) (fun c16 => ?_) (fun c16 => ?_)
        · have hq := it_pos hq c16
          refine lv_iconst (v := 0) hx hb dX2_readDeed_111 (by decide) ?_
          refine lv_istore_n (lv' := [(1, .int 0), (0, .ref h0)]) hx hb dX2_readDeed_112 rfl hl (by decide) rfl (fun ls hl => ?_)
          refine lv_aload_n hx hb dX2_readDeed_113 rfl (lv_at hl 1 rfl) ?_
          refine lv_dup hx hb dX2_readDeed_114 rfl ?_
          refine va_get (D := D) (ci := 2) (v := .int dd) (C := RX2) (T := TX2) (N := 9) hx hb hts inA2 hown hK hP 0 rfl rfl 3 (by decide) (hts _ wd_fl_RX2_22) (fun _ h9 => h9) rfl dX2_readDeed_115 ?_
          refine lv_iconst (v := 1) hx hb dX2_readDeed_118 (by decide) ?_
          refine lv_iadd hx hb dX2_readDeed_119 ?_
          refine va_put (D := D) (ci := 2) (v := .int (dd + 1)) (ty := .int) (C := RX2) (T := TX2) (N := 9) hx hb hts inA2 tyX2 tyX2_ok nmX2 hown hK hP hD hS 0 rfl rfl 3 (by decide) (hts _ wd_fl_RX2_22) (fun _ h9 => h9) rfl (by decide +kernel) rfl rfl (Nat.le_of_ble_eq_true rfl) dX2_readDeed_120 (fun H locs hP hD hS => ?_)
          have hP : va_P D vwCl (PW cI cC h0 a sg ln v15 (dd + 1) (upd lt dd.toNatClampNeg (vp_nar .char 109)) (upd pl dd.toNatClampNeg po) f1s s2s tms) H := hP
          have hD : va_D A (PW cI cC h0 a sg ln v15 (dd + 1) (upd lt dd.toNatClampNeg (vp_nar .char 109)) (upd pl dd.toNatClampNeg po) f1s s2s tms) := hD
          refine lv_iload_n hx hb dX2_readDeed_123 rfl (lv_at hl 0 rfl) ?_
          exact hret _ _ _ _ (0) (v15, (dd + 1), (upd lt dd.toNatClampNeg (vp_nar .char 109)), (upd pl dd.toNatClampNeg po), f1s, s2s, tms) dX2_readDeed_124 rfl (hq.symm.trans hX) hP hD hS
        · have hq := it_neg hq c16
          refine lv_aload_n hx hb dX2_readDeed_100 rfl (lv_at hl 0 rfl) ?_
          have hPs := k_self hP
          have hDs := k_selfD hD
          refine k_behi (X := []) (Y := []) (va_runV (As := []) (rest := []) ⟨hx, hb, hml, hown, hts⟩ (c_X2_readMoving l D cI cC cQ H.size h0 a sg ln v15 dd (upd lt dd.toNatClampNeg (vp_nar .char 109)) (upd pl dd.toNatClampNeg po) f1s s2s tms ((poE1 (read_po (poE1 (read_po (poE1 (read_po hpo) hw4)) hw9)) hw14)) ((dd_in hdd0 c1))) (kcwV hts wd_ml_RX2_58 wd_im_yX2_readMoving wd_sel_yX2_readMoving wd_ini_RX2 wd_code_yX2_readMoving rfl rfl rfl hd_X2_readMoving ⟨Nat.le_of_ble_eq_true rfl, Nat.le_of_ble_eq_true rfl⟩) ⟨in_blind, va_recv hK (pa_l (pa_r hPs)) (ci := 2) (q0 := 0) rfl rfl, k_pre hK (pa_l (pa_r hPs)) (da_l (da_r hDs)) hN⟩ rfl rfl hl.1 rfl (lv_room (Nat.le_of_ble_eq_true rfl)) dX2_readDeed_101 ⟨Nat.le_of_ble_eq_true rfl, Nat.le_of_ble_eq_true rfl⟩) hPs hDs hS hA (fun r17 u18 H locs hw19 hP hD hS => ?_)
          obtain ⟨v20, f21, f22⟩ := u18
          have hP := k_unP hP
          have hD := k_unD hD
          have hP : va_P D vwCl (PW cI cC h0 a sg ln v20 dd (upd lt dd.toNatClampNeg (vp_nar .char 109)) (upd pl dd.toNatClampNeg po) f21 f22 tms) H := hP
          have hD : va_D A (PW cI cC h0 a sg ln v20 dd (upd lt dd.toNatClampNeg (vp_nar .char 109)) (upd pl dd.toNatClampNeg po) f21 f22 tms) := hD
          have hw19 : (r17, v20, f21, f22) = (sh_X2_readMoving sg ln v15 dd f1s s2s) := hw19
          have hq := kb_to hq hw19
          refine lv_if_eq (tgt := 111) hx hb dX2_readDeed_104 (by decide) (fun c23 => ?_) (fun c23 => ?_)
          · have hq := it_pos hq c23
            refine lv_iconst (v := 0) hx hb dX2_readDeed_111 (by decide) ?_
            refine lv_istore_n (lv' := [(1, .int 0), (0, .ref h0)]) hx hb dX2_readDeed_112 rfl hl (by decide) rfl (fun ls hl => ?_)
            refine lv_aload_n hx hb dX2_readDeed_113 rfl (lv_at hl 1 rfl) ?_
            refine lv_dup hx hb dX2_readDeed_114 rfl ?_
            refine va_get (D := D) (ci := 2) (v := .int dd) (C := RX2) (T := TX2) (N := 9) hx hb hts inA2 hown hK hP 0 rfl rfl 3 (by decide) (hts _ wd_fl_RX2_22) (fun _ h9 => h9) rfl dX2_readDeed_115 ?_
            refine lv_iconst (v := 1) hx hb dX2_readDeed_118 (by decide) ?_
            refine lv_iadd hx hb dX2_readDeed_119 ?_
            refine va_put (D := D) (ci := 2) (v := .int (dd + 1)) (ty := .int) (C := RX2) (T := TX2) (N := 9) hx hb hts inA2 tyX2 tyX2_ok nmX2 hown hK hP hD hS 0 rfl rfl 3 (by decide) (hts _ wd_fl_RX2_22) (fun _ h9 => h9) rfl (by decide +kernel) rfl rfl (Nat.le_of_ble_eq_true rfl) dX2_readDeed_120 (fun H locs hP hD hS => ?_)
            have hP : va_P D vwCl (PW cI cC h0 a sg ln v20 (dd + 1) (upd lt dd.toNatClampNeg (vp_nar .char 109)) (upd pl dd.toNatClampNeg po) f21 f22 tms) H := hP
            have hD : va_D A (PW cI cC h0 a sg ln v20 (dd + 1) (upd lt dd.toNatClampNeg (vp_nar .char 109)) (upd pl dd.toNatClampNeg po) f21 f22 tms) := hD
            refine lv_iload_n hx hb dX2_readDeed_123 rfl (lv_at hl 0 rfl) ?_
            exact hret _ _ _ _ (0) (v20, (dd + 1), (upd lt dd.toNatClampNeg (vp_nar .char 109)), (upd pl dd.toNatClampNeg po), f21, f22, tms) dX2_readDeed_124 rfl (hq.symm.trans hX) hP hD hS
          · have hq := it_neg hq c23
            refine lv_iconst (v := 1) hx hb dX2_readDeed_107 (by decide) ?_
            refine lv_goto (tgt := 112) hx hb dX2_readDeed_108 (by decide) ?_
            refine lv_istore_n (lv' := [(1, .int 1), (0, .ref h0)]) hx hb dX2_readDeed_112 rfl hl (by decide) rfl (fun ls hl => ?_)
            refine lv_aload_n hx hb dX2_readDeed_113 rfl (lv_at hl 1 rfl) ?_
            refine lv_dup hx hb dX2_readDeed_114 rfl ?_
            refine va_get (D := D) (ci := 2) (v := .int dd) (C := RX2) (T := TX2) (N := 9) hx hb hts inA2 hown hK hP 0 rfl rfl 3 (by decide) (hts _ wd_fl_RX2_22) (fun _ h9 => h9) rfl dX2_readDeed_115 ?_
            refine lv_iconst (v := 1) hx hb dX2_readDeed_118 (by decide) ?_
            refine lv_iadd hx hb dX2_readDeed_119 ?_
            refine va_put (D := D) (ci := 2) (v := .int (dd + 1)) (ty := .int) (C := RX2) (T := TX2) (N := 9) hx hb hts inA2 tyX2 tyX2_ok nmX2 hown hK hP hD hS 0 rfl rfl 3 (by decide) (hts _ wd_fl_RX2_22) (fun _ h9 => h9) rfl (by decide +kernel) rfl rfl (Nat.le_of_ble_eq_true rfl) dX2_readDeed_120 (fun H locs hP hD hS => ?_)
            have hP : va_P D vwCl (PW cI cC h0 a sg ln v20 (dd + 1) (upd lt dd.toNatClampNeg (vp_nar .char 109)) (upd pl dd.toNatClampNeg po) f21 f22 tms) H := hP
            have hD : va_D A (PW cI cC h0 a sg ln v20 (dd + 1) (upd lt dd.toNatClampNeg (vp_nar .char 109)) (upd pl dd.toNatClampNeg po) f21 f22 tms) := hD
            refine lv_iload_n hx hb dX2_readDeed_123 rfl (lv_at hl 0 rfl) ?_
            exact hret _ _ _ _ (1) (v20, (dd + 1), (upd lt dd.toNatClampNeg (vp_nar .char 109)), (upd pl dd.toNatClampNeg po), f21, f22, tms) dX2_readDeed_124 rfl (hq.symm.trans hX) hP hD hS
      · have hq := it_neg hq c11
        refine lv_aload_n hx hb dX2_readDeed_61 rfl (lv_at hl 0 rfl) ?_
        refine va_get (D := D) (ci := 2) (v := .ref (a 1)) (C := RX2) (T := TX2) (N := 9) hx hb hts inA2 hown hK hP 0 rfl rfl 4 (by decide) (hts _ wd_fl_RX2_25) (fun _ h9 => h9) rfl dX2_readDeed_62 ?_
        refine lv_aload_n hx hb dX2_readDeed_65 rfl (lv_at hl 0 rfl) ?_
        refine va_get (D := D) (ci := 2) (v := .int dd) (C := RX2) (T := TX2) (N := 9) hx hb hts inA2 hown hK hP 0 rfl rfl 3 (by decide) (hts _ wd_fl_RX2_22) (fun _ h9 => h9) rfl dX2_readDeed_66 ?_
        refine lv_bipush (v := 115) hx hb dX2_readDeed_69 (by decide) ?_
        refine va_cast hx hb hK hP hD hS 2 1 rfl rfl (dd_in hdd0 c1) dX2_readDeed_71 (fun H locs hP hD hS => ?_)
        have hP : va_P D vwCl (PW cI cC h0 a sg ln v10 dd (upd lt dd.toNatClampNeg (vp_nar .char 115)) (upd pl dd.toNatClampNeg po) f1s s2s tms) H := hP
        have hD : va_D A (PW cI cC h0 a sg ln v10 dd (upd lt dd.toNatClampNeg (vp_nar .char 115)) (upd pl dd.toNatClampNeg po) f1s s2s tms) := hD
        refine lv_aload_n hx hb dX2_readDeed_72 rfl (lv_at hl 0 rfl) ?_
        have hPs := k_self hP
        have hDs := k_selfD hD
        refine k_behi (X := []) (Y := []) (va_runV (As := []) (rest := []) ⟨hx, hb, hml, hown, hts⟩ (c_X2_readShaking l D cI cC cQ H.size h0 a sg ln v10 dd (upd lt dd.toNatClampNeg (vp_nar .char 115)) (upd pl dd.toNatClampNeg po) f1s s2s tms ((poE1 (read_po (poE1 (read_po hpo) hw4)) hw9)) ((dd_in hdd0 c1))) (kcwV hts wd_ml_RX2_55 wd_im_yX2_readShaking wd_sel_yX2_readShaking wd_ini_RX2 wd_code_yX2_readShaking rfl rfl rfl hd_X2_readShaking ⟨Nat.le_of_ble_eq_true rfl, Nat.le_of_ble_eq_true rfl⟩) ⟨in_blind, va_recv hK (pa_l (pa_r hPs)) (ci := 2) (q0 := 0) rfl rfl, k_pre hK (pa_l (pa_r hPs)) (da_l (da_r hDs)) hN⟩ rfl rfl hl.1 rfl (lv_room (Nat.le_of_ble_eq_true rfl)) dX2_readDeed_73 ⟨Nat.le_of_ble_eq_true rfl, Nat.le_of_ble_eq_true rfl⟩) hPs hDs hS hA (fun r24 u25 H locs hw26 hP hD hS => ?_)
        obtain ⟨v27, f28⟩ := u25
        have hP := k_unP hP
        have hD := k_unD hD
        have hP : va_P D vwCl (PW cI cC h0 a sg ln v27 dd (upd lt dd.toNatClampNeg (vp_nar .char 115)) (upd pl dd.toNatClampNeg po) f28 s2s tms) H := hP
        have hD : va_D A (PW cI cC h0 a sg ln v27 dd (upd lt dd.toNatClampNeg (vp_nar .char 115)) (upd pl dd.toNatClampNeg po) f28 s2s tms) := hD
        have hw26 : (r24, v27, f28) = (sh_X2_readShaking sg ln v10 dd f1s) := hw26
        have hq := kb_to hq hw26
        refine lv_istore_n (lv' := [(1, .int r24), (0, .ref h0)]) hx hb dX2_readDeed_76 rfl hl (by decide) rfl (fun ls hl => ?_)
        refine lv_goto (tgt := 113) hx hb dX2_readDeed_77 (by decide) ?_
        refine lv_aload_n hx hb dX2_readDeed_113 rfl (lv_at hl 1 rfl) ?_
        refine lv_dup hx hb dX2_readDeed_114 rfl ?_
        refine va_get (D := D) (ci := 2) (v := .int dd) (C := RX2) (T := TX2) (N := 9) hx hb hts inA2 hown hK hP 0 rfl rfl 3 (by decide) (hts _ wd_fl_RX2_22) (fun _ h9 => h9) rfl dX2_readDeed_115 ?_
        refine lv_iconst (v := 1) hx hb dX2_readDeed_118 (by decide) ?_
        refine lv_iadd hx hb dX2_readDeed_119 ?_
        refine va_put (D := D) (ci := 2) (v := .int (dd + 1)) (ty := .int) (C := RX2) (T := TX2) (N := 9) hx hb hts inA2 tyX2 tyX2_ok nmX2 hown hK hP hD hS 0 rfl rfl 3 (by decide) (hts _ wd_fl_RX2_22) (fun _ h9 => h9) rfl (by decide +kernel) rfl rfl (Nat.le_of_ble_eq_true rfl) dX2_readDeed_120 (fun H locs hP hD hS => ?_)
        have hP : va_P D vwCl (PW cI cC h0 a sg ln v27 (dd + 1) (upd lt dd.toNatClampNeg (vp_nar .char 115)) (upd pl dd.toNatClampNeg po) f28 s2s tms) H := hP
        have hD : va_D A (PW cI cC h0 a sg ln v27 (dd + 1) (upd lt dd.toNatClampNeg (vp_nar .char 115)) (upd pl dd.toNatClampNeg po) f28 s2s tms) := hD
        refine lv_iload_n hx hb dX2_readDeed_123 rfl (lv_at hl 0 rfl) ?_
        exact hret _ _ _ _ (r24) (v27, (dd + 1), (upd lt dd.toNatClampNeg (vp_nar .char 115)), (upd pl dd.toNatClampNeg po), f28, s2s, tms) dX2_readDeed_124 (nar01 (b01_X2_readShaking hw26)) (hq.symm.trans hX) hP hD hS
    · have hq := it_neg hq c6
      refine lv_aload_n hx hb dX2_readDeed_33 rfl (lv_at hl 0 rfl) ?_
      refine va_get (D := D) (ci := 2) (v := .ref (a 1)) (C := RX2) (T := TX2) (N := 9) hx hb hts inA2 hown hK hP 0 rfl rfl 4 (by decide) (hts _ wd_fl_RX2_25) (fun _ h9 => h9) rfl dX2_readDeed_34 ?_
      refine lv_aload_n hx hb dX2_readDeed_37 rfl (lv_at hl 0 rfl) ?_
      refine va_get (D := D) (ci := 2) (v := .int dd) (C := RX2) (T := TX2) (N := 9) hx hb hts inA2 hown hK hP 0 rfl rfl 3 (by decide) (hts _ wd_fl_RX2_22) (fun _ h9 => h9) rfl dX2_readDeed_38 ?_
      refine lv_bipush (v := 112) hx hb dX2_readDeed_41 (by decide) ?_
      refine va_cast hx hb hK hP hD hS 2 1 rfl rfl (dd_in hdd0 c1) dX2_readDeed_43 (fun H locs hP hD hS => ?_)
      have hP : va_P D vwCl (PW cI cC h0 a sg ln v5 dd (upd lt dd.toNatClampNeg (vp_nar .char 112)) (upd pl dd.toNatClampNeg po) f1s s2s tms) H := hP
      have hD : va_D A (PW cI cC h0 a sg ln v5 dd (upd lt dd.toNatClampNeg (vp_nar .char 112)) (upd pl dd.toNatClampNeg po) f1s s2s tms) := hD
      refine lv_aload_n hx hb dX2_readDeed_44 rfl (lv_at hl 0 rfl) ?_
      have hPs := k_self hP
      have hDs := k_selfD hD
      refine k_behi (X := []) (Y := []) (va_runV (As := []) (rest := []) ⟨hx, hb, hml, hown, hts⟩ (c_X2_readPrinting l D cI cC cQ H.size h0 a sg ln v5 dd (upd lt dd.toNatClampNeg (vp_nar .char 112)) (upd pl dd.toNatClampNeg po) f1s s2s tms ((poE1 (read_po hpo) hw4)) ((dd_in hdd0 c1))) (kcwV hts wd_ml_RX2_52 wd_im_yX2_readPrinting wd_sel_yX2_readPrinting wd_ini_RX2 wd_code_yX2_readPrinting rfl rfl rfl hd_X2_readPrinting ⟨Nat.le_of_ble_eq_true rfl, Nat.le_of_ble_eq_true rfl⟩) ⟨in_blind, va_recv hK (pa_l (pa_r hPs)) (ci := 2) (q0 := 0) rfl rfl, k_pre hK (pa_l (pa_r hPs)) (da_l (da_r hDs)) hN⟩ rfl rfl hl.1 rfl (lv_room (Nat.le_of_ble_eq_true rfl)) dX2_readDeed_45 ⟨Nat.le_of_ble_eq_true rfl, Nat.le_of_ble_eq_true rfl⟩) hPs hDs hS hA (fun r29 u30 H locs hw31 hP hD hS => ?_)
      obtain ⟨v32, f33, f34, f35⟩ := u30
      have hP := k_unP hP
      have hD := k_unD hD
      have hP : va_P D vwCl (PW cI cC h0 a sg ln v32 dd (upd lt dd.toNatClampNeg (vp_nar .char 112)) (upd pl dd.toNatClampNeg po) f33 f34 f35) H := hP
      have hD : va_D A (PW cI cC h0 a sg ln v32 dd (upd lt dd.toNatClampNeg (vp_nar .char 112)) (upd pl dd.toNatClampNeg po) f33 f34 f35) := hD
      have hw31 : (r29, v32, f33, f34, f35) = (sh_X2_readPrinting sg ln v5 dd f1s s2s tms) := hw31
      have hq := kb_to hq hw31
      refine lv_istore_n (lv' := [(1, .int r29), (0, .ref h0)]) hx hb dX2_readDeed_48 rfl hl (by decide) rfl (fun ls hl => ?_)
      refine lv_goto (tgt := 113) hx hb dX2_readDeed_49 (by decide) ?_
      refine lv_aload_n hx hb dX2_readDeed_113 rfl (lv_at hl 1 rfl) ?_
      refine lv_dup hx hb dX2_readDeed_114 rfl ?_
      refine va_get (D := D) (ci := 2) (v := .int dd) (C := RX2) (T := TX2) (N := 9) hx hb hts inA2 hown hK hP 0 rfl rfl 3 (by decide) (hts _ wd_fl_RX2_22) (fun _ h9 => h9) rfl dX2_readDeed_115 ?_
      refine lv_iconst (v := 1) hx hb dX2_readDeed_118 (by decide) ?_
      refine lv_iadd hx hb dX2_readDeed_119 ?_
      refine va_put (D := D) (ci := 2) (v := .int (dd + 1)) (ty := .int) (C := RX2) (T := TX2) (N := 9) hx hb hts inA2 tyX2 tyX2_ok nmX2 hown hK hP hD hS 0 rfl rfl 3 (by decide) (hts _ wd_fl_RX2_22) (fun _ h9 => h9) rfl (by decide +kernel) rfl rfl (Nat.le_of_ble_eq_true rfl) dX2_readDeed_120 (fun H locs hP hD hS => ?_)
      have hP : va_P D vwCl (PW cI cC h0 a sg ln v32 (dd + 1) (upd lt dd.toNatClampNeg (vp_nar .char 112)) (upd pl dd.toNatClampNeg po) f33 f34 f35) H := hP
      have hD : va_D A (PW cI cC h0 a sg ln v32 (dd + 1) (upd lt dd.toNatClampNeg (vp_nar .char 112)) (upd pl dd.toNatClampNeg po) f33 f34 f35) := hD
      refine lv_iload_n hx hb dX2_readDeed_123 rfl (lv_at hl 0 rfl) ?_
      exact hret _ _ _ _ (r29) (v32, (dd + 1), (upd lt dd.toNatClampNeg (vp_nar .char 112)), (upd pl dd.toNatClampNeg po), f33, f34, f35) dX2_readDeed_124 (nar01 (b01_X2_readPrinting hw31)) (hq.symm.trans hX) hP hD hS
  · have hq := it_neg hq c1
    refine lv_iconst (v := 0) hx hb dX2_readDeed_9 (by decide) ?_
    exact hret _ _ _ _ (0) (po, dd, lt, pl, f1s, s2s, tms) dX2_readDeed_10 rfl (hq.symm.trans hX) hP hD hS
set_option maxHeartbeats 200000 in
theorem readDeed_po {sg : Nat → Int32} {ln : Int32} {po : Int32} {dd : Int32} {lt : Nat → Int32} {pl : Nat → Int32} {f1s : Nat → Int32} {s2s : Nat → Int32} {tms : Nat → Int32} (h : poOK po ln) : poOK (sh_X2_readDeed sg ln po dd lt pl f1s s2s tms).2.1 ln := by
  simp only [sh_X2_readDeed, kb]
  (repeat' split) <;> (try dsimp only) <;> (repeat' first | with_reducible exact h | with_reducible apply readPrinting_po | with_reducible apply readShaking_po | with_reducible apply readMoving_po | with_reducible apply read_po)
theorem dd_up {dd : Int32} (h : ¬ dd < 0) (c : dd < 30) : ¬ dd + 1 < 0 := by
  rw [Int32.lt_iff_toInt_lt] at *
  have : (0 : Int32).toInt = 0 := rfl
  have : (30 : Int32).toInt = 30 := rfl
  have e : (dd + 1).toInt = dd.toInt + 1 := by
    rw [Int32.toInt_add]
    exact Int.bmod_eq_of_le (by simp; omega) (by simp; omega)
  omega
set_option maxHeartbeats 200000 in
theorem readDeed_dd {sg : Nat → Int32} {ln : Int32} {po : Int32} {dd : Int32} {lt : Nat → Int32} {pl : Nat → Int32} {f1s : Nat → Int32} {s2s : Nat → Int32} {tms : Nat → Int32} (h : ¬ dd < 0) : ¬ (sh_X2_readDeed sg ln po dd lt pl f1s s2s tms).2.2.1 < 0 := by
  simp only [sh_X2_readDeed, kb]
  by_cases c : dd < 30
  · simp only [if_pos c]
    (repeat' split) <;> (try dsimp only) <;> with_reducible exact dd_up h c
  · simp only [if_neg c]
    with_reducible exact h
set_option maxHeartbeats 200000 in
theorem b01f_X2_readDeed {sg : Nat → Int32} {ln : Int32} {po : Int32} {dd : Int32} {lt : Nat → Int32} {pl : Nat → Int32} {f1s : Nat → Int32} {s2s : Nat → Int32} {tms : Nat → Int32} : (sh_X2_readDeed sg ln po dd lt pl f1s s2s tms).1 = 0 ∨ (sh_X2_readDeed sg ln po dd lt pl f1s s2s tms).1 = 1 := by
  simp only [sh_X2_readDeed, kb]
  (repeat' split) <;> (try dsimp only) <;> first | with_reducible exact b01f_X2_readPrinting | with_reducible exact b01f_X2_readShaking | with_reducible exact b01f_X2_readMoving | with_reducible exact Or.inl rfl | with_reducible exact Or.inr rfl
theorem b01_X2_readDeed {sg : Nat → Int32} {ln : Int32} {po : Int32} {dd : Int32} {lt : Nat → Int32} {pl : Nat → Int32} {f1s : Nat → Int32} {s2s : Nat → Int32} {tms : Nat → Int32} {r : Int32} {x} (e : (r, x) = sh_X2_readDeed sg ln po dd lt pl f1s s2s tms) : r = 0 ∨ r = 1 := fst01 b01f_X2_readDeed e
theorem ddE {α : Type} {r q q2 : Int32} {x : α} {f : Int32 × Int32 × Int32 × α} (h : ¬ f.2.2.1 < 0) (e : (r, q, q2, x) = f) : ¬ q2 < 0 := by
  have : q2 = f.2.2.1 := by rw [← e]
  rw [this]; exact h
def lp_X2_findFault_17 (sg : Nat → Int32) (ln : Int32) : Nat → (Int32) → (Int32) → (Int32) → (Int32) → (Nat → Int32) → (Nat → Int32) → (Nat → Int32) → (Nat → Int32) → (Nat → Int32) → (Int32 × (Int32) × (Int32) × (Nat → Int32) × (Nat → Int32) × (Nat → Int32) × (Nat → Int32) × (Nat → Int32))
  | 0, _, _, _, _, _, _, _, _, _ => default
  | fu + 1, s1, m2, l_po, l_dd, l_lt, l_pl, l_f1s, l_s2s, l_tms => (if 30 ≤ m2 then (if s1 = 0 then (l_po, l_po, l_dd, l_lt, l_pl, l_f1s, l_s2s, l_tms) else (if l_po = ln then ((-4 : Int32), l_po, l_dd, l_lt, l_pl, l_f1s, l_s2s, l_tms) else (l_po, l_po, l_dd, l_lt, l_pl, l_f1s, l_s2s, l_tms))) else (if s1 = 0 then (if s1 = 0 then (l_po, l_po, l_dd, l_lt, l_pl, l_f1s, l_s2s, l_tms) else (if l_po = ln then ((-4 : Int32), l_po, l_dd, l_lt, l_pl, l_f1s, l_s2s, l_tms) else (l_po, l_po, l_dd, l_lt, l_pl, l_f1s, l_s2s, l_tms))) else (kb (sh_X2_read sg ln l_po 59) (fun z_r17 => (if z_r17.1 = 0 then (if s1 = 0 then (z_r17.2, z_r17.2, l_dd, l_lt, l_pl, l_f1s, l_s2s, l_tms) else (if z_r17.2 = ln then ((-4 : Int32), z_r17.2, l_dd, l_lt, l_pl, l_f1s, l_s2s, l_tms) else (z_r17.2, z_r17.2, l_dd, l_lt, l_pl, l_f1s, l_s2s, l_tms))) else (kb (sh_X2_readDeed sg ln z_r17.2 l_dd l_lt l_pl l_f1s l_s2s l_tms) (fun z_r24 => (lp_X2_findFault_17 sg ln fu z_r24.1 (m2 + 1) z_r24.2.1 z_r24.2.2.1 z_r24.2.2.2.1 z_r24.2.2.2.2.1 z_r24.2.2.2.2.2.1 z_r24.2.2.2.2.2.2.1 z_r24.2.2.2.2.2.2.2))))))))
def sh_X2_findFault (sg : Nat → Int32) (ln : Int32) (lt : Nat → Int32) (pl : Nat → Int32) (f1s : Nat → Int32) (s2s : Nat → Int32) (tms : Nat → Int32) : Int32 × (Int32) × (Int32) × (Nat → Int32) × (Nat → Int32) × (Nat → Int32) × (Nat → Int32) × (Nat → Int32) := (kb (sh_X2_readDeed sg ln 0 0 lt pl f1s s2s tms) (fun z_r1 => (lp_X2_findFault_17 sg ln (((30 : Int32).toInt - (1 : Int32).toInt).toNat + 1) z_r1.1 1 z_r1.2.1 z_r1.2.2.1 z_r1.2.2.2.1 z_r1.2.2.2.2.1 z_r1.2.2.2.2.2.1 z_r1.2.2.2.2.2.2.1 z_r1.2.2.2.2.2.2.2)))
abbrev rm_X2_findFault : Room := { frames := 3, cells := 0, slots := 0, locals := 70 }
theorem hd_X2_findFault : hdT yX2_findFault 0 := by decide +kernel
set_option maxHeartbeats 40000000 in
set_option maxRecDepth 100000 in
theorem c_X2_findFault (l : Launch) (D : va_G) (cI cC cQ : ClassId) (sz : Nat) (h0 : Nat) (a : Nat → Nat) (sg : Nat → Int32) (ln : Int32) (po : Int32) (dd : Int32) (lt : Nat → Int32) (pl : Nat → Int32) (f1s : Nat → Int32) (s2s : Nat → Int32) (tms : Nat → Int32)  (hln : vp_in ln 61) : Met l yX2_findFault (wsO yX2_findFault cX2_findFault 3 (some .int)) rm_X2_findFault (va_Pc [.ref h0] (inW D (TYS cI cC cQ) (PW cI cC h0 a sg ln po dd lt pl f1s s2s tms) sz)) (va_Qi (fun (r : Int32) (u : (Int32) × (Int32) × (Nat → Int32) × (Nat → Int32) × (Nat → Int32) × (Nat → Int32) × (Nat → Int32)) => (r, u) = sh_X2_findFault sg ln lt pl f1s s2s tms) (fun (u : (Int32) × (Int32) × (Nat → Int32) × (Nat → Int32) × (Nat → Int32) × (Nat → Int32) × (Nat → Int32)) => atW D (TYS cI cC cQ) (va_A (PW cI cC h0 a sg ln po dd lt pl f1s s2s tms) sz) (PW cI cC h0 a sg ln u.1 u.2.1 u.2.2.1 u.2.2.2.1 u.2.2.2.2.1 u.2.2.2.2.2.1 u.2.2.2.2.2.2)) (va_A (PW cI cC h0 a sg ln po dd lt pl f1s s2s tms) sz)) 0 0 (va_A (PW cI cC h0 a sg ln po dd lt pl f1s s2s tms) sz) := by
  refine k_meti .int rfl (by decide) (Nat.le_of_ble_eq_true rfl) ?_
  intro p e s m args below meth c A ls Q H locs hargs hret hx hb hts hown hml hname hN hA hS hP hK hD hl
  have hl : lv_has ls 3 [(0, .ref h0)] := hl
  obtain ⟨Xq, hX⟩ : ∃ Xq, Xq = sh_X2_findFault sg ln lt pl f1s s2s tms := ⟨_, rfl⟩
  have hq : Xq = (kb (sh_X2_readDeed sg ln 0 0 lt pl f1s s2s tms) (fun z_r1 => (lp_X2_findFault_17 sg ln (((30 : Int32).toInt - (1 : Int32).toInt).toNat + 1) z_r1.1 1 z_r1.2.1 z_r1.2.2.1 z_r1.2.2.2.1 z_r1.2.2.2.2.1 z_r1.2.2.2.2.2.1 z_r1.2.2.2.2.2.2.1 z_r1.2.2.2.2.2.2.2))) := hX
  refine lv_aload_n hx hb dX2_findFault_0 rfl (lv_at hl 0 rfl) ?_
  refine lv_iconst (v := 0) hx hb dX2_findFault_1 (by decide) ?_
  refine va_put (D := D) (ci := 2) (v := .int 0) (ty := .int) (C := RX2) (T := TX2) (N := 9) hx hb hts inA2 tyX2 tyX2_ok nmX2 hown hK hP hD hS 0 rfl rfl 2 (by decide) (hts _ wd_fl_RX2_19) (fun _ h9 => h9) rfl (by decide +kernel) rfl rfl (Nat.le_of_ble_eq_true rfl) dX2_findFault_2 (fun H locs hP hD hS => ?_)
  have hP : va_P D vwCl (PW cI cC h0 a sg ln 0 dd lt pl f1s s2s tms) H := hP
  have hD : va_D A (PW cI cC h0 a sg ln 0 dd lt pl f1s s2s tms) := hD
  refine lv_aload_n hx hb dX2_findFault_5 rfl (lv_at hl 0 rfl) ?_
  refine lv_iconst (v := 0) hx hb dX2_findFault_6 (by decide) ?_
  refine va_put (D := D) (ci := 2) (v := .int 0) (ty := .int) (C := RX2) (T := TX2) (N := 9) hx hb hts inA2 tyX2 tyX2_ok nmX2 hown hK hP hD hS 0 rfl rfl 3 (by decide) (hts _ wd_fl_RX2_22) (fun _ h9 => h9) rfl (by decide +kernel) rfl rfl (Nat.le_of_ble_eq_true rfl) dX2_findFault_7 (fun H locs hP hD hS => ?_)
  have hP : va_P D vwCl (PW cI cC h0 a sg ln 0 0 lt pl f1s s2s tms) H := hP
  have hD : va_D A (PW cI cC h0 a sg ln 0 0 lt pl f1s s2s tms) := hD
  refine lv_aload_n hx hb dX2_findFault_10 rfl (lv_at hl 0 rfl) ?_
  have hPs := k_self hP
  have hDs := k_selfD hD
  refine k_behi (X := []) (Y := []) (va_runV (As := []) (rest := []) ⟨hx, hb, hml, hown, hts⟩ (c_X2_readDeed l D cI cC cQ H.size h0 a sg ln 0 0 lt pl f1s s2s tms (⟨k_in (by decide), hln⟩) ((by decide))) (kcwV hts wd_ml_RX2_45 wd_im_yX2_readDeed wd_sel_yX2_readDeed wd_ini_RX2 wd_code_yX2_readDeed rfl rfl rfl hd_X2_readDeed ⟨Nat.le_of_ble_eq_true rfl, Nat.le_of_ble_eq_true rfl⟩) ⟨in_blind, va_recv hK (pa_l (pa_r hPs)) (ci := 2) (q0 := 0) rfl rfl, k_pre hK (pa_l (pa_r hPs)) (da_l (da_r hDs)) hN⟩ rfl rfl hl.1 rfl (lv_room (Nat.le_of_ble_eq_true rfl)) dX2_findFault_11 ⟨Nat.le_of_ble_eq_true rfl, Nat.le_of_ble_eq_true rfl⟩) hPs hDs hS hA (fun r1 u2 H locs hw3 hP hD hS => ?_)
  obtain ⟨v4, v5, f6, f7, f8, f9, f10⟩ := u2
  have hP := k_unP hP
  have hD := k_unD hD
  have hP : va_P D vwCl (PW cI cC h0 a sg ln v4 v5 f6 f7 f8 f9 f10) H := hP
  have hD : va_D A (PW cI cC h0 a sg ln v4 v5 f6 f7 f8 f9 f10) := hD
  have hw3 : (r1, v4, v5, f6, f7, f8, f9, f10) = (sh_X2_readDeed sg ln 0 0 lt pl f1s s2s tms) := hw3
  have hq := kb_to hq hw3
  refine lv_istore_n (lv' := [(1, .int r1), (0, .ref h0)]) hx hb dX2_findFault_14 rfl hl (by decide) rfl (fun ls hl => ?_)
  refine lv_iconst (v := 1) hx hb dX2_findFault_15 (by decide) ?_
  refine lv_istore_n (lv' := [(2, .int 1), (1, .int r1), (0, .ref h0)]) hx hb dX2_findFault_16 rfl hl (by decide) rfl (fun ls hl => ?_)
  have L17 : ∀ (fu : Nat) (s1 : Int32) (m2 : Int32) (l_po : Int32) (l_dd : Int32) (l_lt : Nat → Int32) (l_pl : Nat → Int32) (l_f1s : Nat → Int32) (l_s2s : Nat → Int32) (l_tms : Nat → Int32) (H : Heap) (locs : List Loc) (ls : Array Slot), ((30 : Int32).toInt - (m2 : Int32).toInt).toNat < fu → (poOK l_po ln) → (¬ l_dd < 0) → Xq = lp_X2_findFault_17 sg ln fu s1 m2 l_po l_dd l_lt l_pl l_f1s l_s2s l_tms → va_P D vwCl (PW cI cC h0 a sg ln l_po l_dd l_lt l_pl l_f1s l_s2s l_tms) H → va_D A (PW cI cC h0 a sg ln l_po l_dd l_lt l_pl l_f1s l_s2s l_tms) → va_S A s.heap H locs → lv_has ls 3 [(2, .int m2), (1, .int s1), (0, .ref h0)] → W p l e rm_X2_findFault s m args below meth c H locs 0 0 Q (F0 m 17 ls []) := by
    intro fu
    induction fu with
    | zero => intro s1 m2 l_po l_dd l_lt l_pl l_f1s l_s2s l_tms H locs ls hmu; exact absurd hmu (Nat.not_lt_zero _)
    | succ fu ih =>
      intro s1 m2 l_po l_dd l_lt l_pl l_f1s l_s2s l_tms H locs ls hmu hpo1 hdd1 hq hP hD hS hl
      have hq : Xq = (if 30 ≤ m2 then (if s1 = 0 then (l_po, l_po, l_dd, l_lt, l_pl, l_f1s, l_s2s, l_tms) else (if l_po = ln then ((-4 : Int32), l_po, l_dd, l_lt, l_pl, l_f1s, l_s2s, l_tms) else (l_po, l_po, l_dd, l_lt, l_pl, l_f1s, l_s2s, l_tms))) else (if s1 = 0 then (if s1 = 0 then (l_po, l_po, l_dd, l_lt, l_pl, l_f1s, l_s2s, l_tms) else (if l_po = ln then ((-4 : Int32), l_po, l_dd, l_lt, l_pl, l_f1s, l_s2s, l_tms) else (l_po, l_po, l_dd, l_lt, l_pl, l_f1s, l_s2s, l_tms))) else (kb (sh_X2_read sg ln l_po 59) (fun z_r17 => (if z_r17.1 = 0 then (if s1 = 0 then (z_r17.2, z_r17.2, l_dd, l_lt, l_pl, l_f1s, l_s2s, l_tms) else (if z_r17.2 = ln then ((-4 : Int32), z_r17.2, l_dd, l_lt, l_pl, l_f1s, l_s2s, l_tms) else (z_r17.2, z_r17.2, l_dd, l_lt, l_pl, l_f1s, l_s2s, l_tms))) else (kb (sh_X2_readDeed sg ln z_r17.2 l_dd l_lt l_pl l_f1s l_s2s l_tms) (fun z_r24 => (lp_X2_findFault_17 sg ln fu z_r24.1 (m2 + 1) z_r24.2.1 z_r24.2.2.1 z_r24.2.2.2.1 z_r24.2.2.2.2.1 z_r24.2.2.2.2.2.1 z_r24.2.2.2.2.2.2.1 z_r24.2.2.2.2.2.2.2)))))))) := hq
      refine lv_iload_n hx hb dX2_findFault_17 rfl (lv_at hl 0 rfl) ?_
      refine lv_bipush (v := 30) hx hb dX2_findFault_18 (by decide) ?_
      refine lv_icmp_ge (tgt := 47) hx hb dX2_findFault_20 (by decide) (fun c11 => ?_) (fun c11 => ?_)
      · have hq := it_pos hq c11
        refine lv_iload_n hx hb dX2_findFault_47 rfl (lv_at hl 1 rfl) ?_
        refine lv_if_eq (tgt := 67) hx hb dX2_findFault_48 (by decide) (fun c12 => ?_) (fun c12 => ?_)
        · have hq := it_pos hq c12
          refine lv_aload_n hx hb dX2_findFault_67 rfl (lv_at hl 2 rfl) ?_
          refine va_get (D := D) (ci := 2) (v := .int l_po) (C := RX2) (T := TX2) (N := 9) hx hb hts inA2 hown hK hP 0 rfl rfl 2 (by decide) (hts _ wd_fl_RX2_19) (fun _ h9 => h9) rfl dX2_findFault_68 ?_
          exact hret _ _ _ _ (l_po) (l_po, l_dd, l_lt, l_pl, l_f1s, l_s2s, l_tms) dX2_findFault_71 rfl (hq.symm.trans hX) hP hD hS
        · have hq := it_neg hq c12
          refine lv_aload_n hx hb dX2_findFault_51 rfl (lv_at hl 2 rfl) ?_
          refine va_get (D := D) (ci := 2) (v := .int l_po) (C := RX2) (T := TX2) (N := 9) hx hb hts inA2 hown hK hP 0 rfl rfl 2 (by decide) (hts _ wd_fl_RX2_19) (fun _ h9 => h9) rfl dX2_findFault_52 ?_
          refine lv_aload_n hx hb dX2_findFault_55 rfl (lv_at hl 2 rfl) ?_
          refine va_get (D := D) (ci := 2) (v := .int ln) (C := RX2) (T := TX2) (N := 9) hx hb hts inA2 hown hK hP 0 rfl rfl 1 (by decide) (hts _ wd_fl_RX2_15) (fun _ h9 => h9) rfl dX2_findFault_56 ?_
          refine lv_icmp_ne (tgt := 67) hx hb dX2_findFault_59 (by decide) (fun c13 => ?_) (fun c13 => ?_)
          · have hq := it_neg hq c13
            refine lv_aload_n hx hb dX2_findFault_67 rfl (lv_at hl 2 rfl) ?_
            refine va_get (D := D) (ci := 2) (v := .int l_po) (C := RX2) (T := TX2) (N := 9) hx hb hts inA2 hown hK hP 0 rfl rfl 2 (by decide) (hts _ wd_fl_RX2_19) (fun _ h9 => h9) rfl dX2_findFault_68 ?_
            exact hret _ _ _ _ (l_po) (l_po, l_dd, l_lt, l_pl, l_f1s, l_s2s, l_tms) dX2_findFault_71 rfl (hq.symm.trans hX) hP hD hS
          · have hq := it_pos hq c13
            refine lv_bipush (v := (-4)) hx hb dX2_findFault_62 (by decide) ?_
            refine lv_goto (tgt := 71) hx hb dX2_findFault_64 (by decide) ?_
            exact hret _ _ _ _ ((-4)) (l_po, l_dd, l_lt, l_pl, l_f1s, l_s2s, l_tms) dX2_findFault_71 rfl (hq.symm.trans hX) hP hD hS
      · have hq := it_neg hq c11
        refine lv_iload_n hx hb dX2_findFault_23 rfl (lv_at hl 1 rfl) ?_
        refine lv_if_eq (tgt := 47) hx hb dX2_findFault_24 (by decide) (fun c14 => ?_) (fun c14 => ?_)
        · have hq := it_pos hq c14
          refine lv_iload_n hx hb dX2_findFault_47 rfl (lv_at hl 1 rfl) ?_
          refine lv_if_eq (tgt := 67) hx hb dX2_findFault_48 (by decide) (fun c15 => ?_) (fun c15 => ?_)
          · have hq := it_pos hq c15
            refine lv_aload_n hx hb dX2_findFault_67 rfl (lv_at hl 2 rfl) ?_
            refine va_get (D := D) (ci := 2) (v := .int l_po) (C := RX2) (T := TX2) (N := 9) hx hb hts inA2 hown hK hP 0 rfl rfl 2 (by decide) (hts _ wd_fl_RX2_19) (fun _ h9 => h9) rfl dX2_findFault_68 ?_
            exact hret _ _ _ _ (l_po) (l_po, l_dd, l_lt, l_pl, l_f1s, l_s2s, l_tms) dX2_findFault_71 rfl (hq.symm.trans hX) hP hD hS
          · have hq := it_neg hq c15
            refine lv_aload_n hx hb dX2_findFault_51 rfl (lv_at hl 2 rfl) ?_
            refine va_get (D := D) (ci := 2) (v := .int l_po) (C := RX2) (T := TX2) (N := 9) hx hb hts inA2 hown hK hP 0 rfl rfl 2 (by decide) (hts _ wd_fl_RX2_19) (fun _ h9 => h9) rfl dX2_findFault_52 ?_
            refine lv_aload_n hx hb dX2_findFault_55 rfl (lv_at hl 2 rfl) ?_
            refine va_get (D := D) (ci := 2) (v := .int ln) (C := RX2) (T := TX2) (N := 9) hx hb hts inA2 hown hK hP 0 rfl rfl 1 (by decide) (hts _ wd_fl_RX2_15) (fun _ h9 => h9) rfl dX2_findFault_56 ?_
            refine lv_icmp_ne (tgt := 67) hx hb dX2_findFault_59 (by decide) (fun c16 => ?_) (fun c16 => ?_)
            · have hq := it_neg hq c16
              refine lv_aload_n hx hb dX2_findFault_67 rfl (lv_at hl 2 rfl) ?_
              refine va_get (D := D) (ci := 2) (v := .int l_po) (C := RX2) (T := TX2) (N := 9) hx hb hts inA2 hown hK hP 0 rfl rfl 2 (by decide) (hts _ wd_fl_RX2_19) (fun _ h9 => h9) rfl dX2_findFault_68 ?_
              exact hret _ _ _ _ (l_po) (l_po, l_dd, l_lt, l_pl, l_f1s, l_s2s, l_tms) dX2_findFault_71 rfl (hq.symm.trans hX) hP hD hS
            · have hq := it_pos hq c16
              refine lv_bipush (v := (-4)) hx hb dX2_findFault_62 (by decide) ?_
              refine lv_goto (tgt := 71) hx hb dX2_findFault_64 (by decide) ?_
              exact hret _ _ _ _ ((-4)) (l_po, l_dd, l_lt, l_pl, l_f1s, l_s2s, l_tms) dX2_findFault_71 rfl (hq.symm.trans hX) hP hD hS
        · have hq := it_neg hq c14
          refine lv_aload_n hx hb dX2_findFault_27 rfl (lv_at hl 2 rfl) ?_
          refine lv_bipush (v := 59) hx hb dX2_findFault_28 (by decide) ?_
          have hPs := k_self hP
          have hDs := k_selfD hD
          refine k_behi (X := []) (Y := []) (va_runV (As := [.int 59]) (rest := []) ⟨hx, hb, hml, hown, hts⟩ (c_X2_read l D cI cC cQ H.size h0 a sg ln l_po l_dd l_lt l_pl l_f1s l_s2s l_tms 59 (hpo1)) (kcwV hts wd_ml_RX2_48 wd_im_yX2_read wd_sel_yX2_read wd_ini_RX2 wd_code_yX2_read rfl rfl rfl hd_X2_read ⟨Nat.le_of_ble_eq_true rfl, Nat.le_of_ble_eq_true rfl⟩) ⟨in_blind, va_recv hK (pa_l (pa_r hPs)) (ci := 2) (q0 := 0) rfl rfl, k_pre hK (pa_l (pa_r hPs)) (da_l (da_r hDs)) hN⟩ rfl rfl hl.1 rfl (lv_room (Nat.le_of_ble_eq_true rfl)) dX2_findFault_30 ⟨Nat.le_of_ble_eq_true rfl, Nat.le_of_ble_eq_true rfl⟩) hPs hDs hS hA (fun r17 u18 H locs hw19 hP hD hS => ?_)
          obtain ⟨v20, rfl⟩ : ∃ z, z = u18 := ⟨_, rfl⟩
          have hP := k_unP hP
          have hD := k_unD hD
          have hP : va_P D vwCl (PW cI cC h0 a sg ln v20 l_dd l_lt l_pl l_f1s l_s2s l_tms) H := hP
          have hD : va_D A (PW cI cC h0 a sg ln v20 l_dd l_lt l_pl l_f1s l_s2s l_tms) := hD
          have hw19 : (r17, v20) = (sh_X2_read sg ln l_po 59) := hw19
          have hq := kb_to hq hw19
          refine lv_if_eq (tgt := 47) hx hb dX2_findFault_33 (by decide) (fun c21 => ?_) (fun c21 => ?_)
          · have hq := it_pos hq c21
            refine lv_iload_n hx hb dX2_findFault_47 rfl (lv_at hl 1 rfl) ?_
            refine lv_if_eq (tgt := 67) hx hb dX2_findFault_48 (by decide) (fun c22 => ?_) (fun c22 => ?_)
            · have hq := it_pos hq c22
              refine lv_aload_n hx hb dX2_findFault_67 rfl (lv_at hl 2 rfl) ?_
              refine va_get (D := D) (ci := 2) (v := .int v20) (C := RX2) (T := TX2) (N := 9) hx hb hts inA2 hown hK hP 0 rfl rfl 2 (by decide) (hts _ wd_fl_RX2_19) (fun _ h9 => h9) rfl dX2_findFault_68 ?_
              exact hret _ _ _ _ (v20) (v20, l_dd, l_lt, l_pl, l_f1s, l_s2s, l_tms) dX2_findFault_71 rfl (hq.symm.trans hX) hP hD hS
            · have hq := it_neg hq c22
              refine lv_aload_n hx hb dX2_findFault_51 rfl (lv_at hl 2 rfl) ?_
              refine va_get (D := D) (ci := 2) (v := .int v20) (C := RX2) (T := TX2) (N := 9) hx hb hts inA2 hown hK hP 0 rfl rfl 2 (by decide) (hts _ wd_fl_RX2_19) (fun _ h9 => h9) rfl dX2_findFault_52 ?_
              refine lv_aload_n hx hb dX2_findFault_55 rfl (lv_at hl 2 rfl) ?_
              refine va_get (D := D) (ci := 2) (v := .int ln) (C := RX2) (T := TX2) (N := 9) hx hb hts inA2 hown hK hP 0 rfl rfl 1 (by decide) (hts _ wd_fl_RX2_15) (fun _ h9 => h9) rfl dX2_findFault_56 ?_
              refine lv_icmp_ne (tgt := 67) hx hb dX2_findFault_59 (by decide) (fun c23 => ?_) (fun c23 => ?_)
              · have hq := it_neg hq c23
                refine lv_aload_n hx hb dX2_findFault_67 rfl (lv_at hl 2 rfl) ?_
                refine va_get (D := D) (ci := 2) (v := .int v20) (C := RX2) (T := TX2) (N := 9) hx hb hts inA2 hown hK hP 0 rfl rfl 2 (by decide) (hts _ wd_fl_RX2_19) (fun _ h9 => h9) rfl dX2_findFault_68 ?_
                exact hret _ _ _ _ (v20) (v20, l_dd, l_lt, l_pl, l_f1s, l_s2s, l_tms) dX2_findFault_71 rfl (hq.symm.trans hX) hP hD hS
              · have hq := it_pos hq c23
                refine lv_bipush (v := (-4)) hx hb dX2_findFault_62 (by decide) ?_
                refine lv_goto (tgt := 71) hx hb dX2_findFault_64 (by decide) ?_
                exact hret _ _ _ _ ((-4)) (v20, l_dd, l_lt, l_pl, l_f1s, l_s2s, l_tms) dX2_findFault_71 rfl (hq.symm.trans hX) hP hD hS
          · have hq := it_neg hq c21
            refine lv_aload_n hx hb dX2_findFault_36 rfl (lv_at hl 2 rfl) ?_
            have hPs := k_self hP
            have hDs := k_selfD hD
            refine k_behi (X := []) (Y := []) (va_runV (As := []) (rest := []) ⟨hx, hb, hml, hown, hts⟩ (c_X2_readDeed l D cI cC cQ H.size h0 a sg ln v20 l_dd l_lt l_pl l_f1s l_s2s l_tms ((poE1 (read_po hpo1) hw19)) (hdd1)) (kcwV hts wd_ml_RX2_45 wd_im_yX2_readDeed wd_sel_yX2_readDeed wd_ini_RX2 wd_code_yX2_readDeed rfl rfl rfl hd_X2_readDeed ⟨Nat.le_of_ble_eq_true rfl, Nat.le_of_ble_eq_true rfl⟩) ⟨in_blind, va_recv hK (pa_l (pa_r hPs)) (ci := 2) (q0 := 0) rfl rfl, k_pre hK (pa_l (pa_r hPs)) (da_l (da_r hDs)) hN⟩ rfl rfl hl.1 rfl (lv_room (Nat.le_of_ble_eq_true rfl)) dX2_findFault_37 ⟨Nat.le_of_ble_eq_true rfl, Nat.le_of_ble_eq_true rfl⟩) hPs hDs hS hA (fun r24 u25 H locs hw26 hP hD hS => ?_)
            obtain ⟨v27, v28, f29, f30, f31, f32, f33⟩ := u25
            have hP := k_unP hP
            have hD := k_unD hD
            have hP : va_P D vwCl (PW cI cC h0 a sg ln v27 v28 f29 f30 f31 f32 f33) H := hP
            have hD : va_D A (PW cI cC h0 a sg ln v27 v28 f29 f30 f31 f32 f33) := hD
            have hw26 : (r24, v27, v28, f29, f30, f31, f32, f33) = (sh_X2_readDeed sg ln v20 l_dd l_lt l_pl l_f1s l_s2s l_tms) := hw26
            have hq := kb_to hq hw26
            refine lv_istore_n (lv' := [(1, .int r24), (2, .int m2), (0, .ref h0)]) hx hb dX2_findFault_40 rfl hl (by decide) rfl (fun ls hl => ?_)
            refine lv_iinc (v := (m2 + 1)) (lv' := [(2, .int (m2 + 1)), (1, .int r24), (0, .ref h0)]) hx hb dX2_findFault_41 hl (k := 1) rfl rfl (by decide) rfl (fun ls hl => ?_)
            refine lv_goto (tgt := 17) hx hb dX2_findFault_44 (by decide) ?_
            exact ih (r24) ((m2 + 1)) (v27) (v28) (f29) (f30) (f31) (f32) (f33) _ _ _ (k_mu hmu c11) ((poE2 (readDeed_po (poE1 (read_po hpo1) hw19)) hw26)) ((ddE (readDeed_dd hdd1) hw26)) hq hP hD hS (lv_sub hl [0, 1, 2] rfl)
  exact L17 (((30 : Int32).toInt - (1 : Int32).toInt).toNat + 1) (r1) (1) (v4) (v5) (f6) (f7) (f8) (f9) (f10) _ _ _ (Nat.lt_succ_self _) ((poE2 (readDeed_po ⟨k_in (by decide), hln⟩) hw3)) ((ddE (readDeed_dd (by decide)) hw3)) hq hP hD hS (lv_sub hl [0, 1, 2] rfl)
