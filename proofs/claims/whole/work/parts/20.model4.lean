theorem letter_po {pd : Nat → Int32} {ln po wr v k : Int32} (h : poOK po ln) (hv : v = if wr = 0 then sh_X5_next pd ln po else 0) (c : v = k) (hk : ¬ k = 0) : poS po (po + 1) ln := by
  by_cases a : wr = 0
  · rw [if_pos a] at hv
    exact poS_up h (next_in (pd := pd) (fun e => hk (by rw [← c, hv, e])))
  · rw [if_neg a] at hv
    exact absurd (by rw [← c, hv]) hk
theorem poS_number {pd : Nat → Int32} {ln po q wr x1 x2 : Int32} (h : poS po q ln) : poS po (sh_X5_number pd ln q wr x1 x2).2.1 ln := h.trans (number_po h.1)
theorem poS_digit {pd : Nat → Int32} {ln po q wr lo hi : Int32} (h : poS po q ln) (hx : 0 ≤ lo.toInt) : poS po (sh_X5_digit pd ln q wr lo hi).2.1 ln := h.trans (digit_po h.1 hx)
theorem poS_sign {pd : Nat → Int32} {ln po q wr x : Int32} (h : poS po q ln) (hx : ¬ x = 0) : poS po (sh_X5_sign pd ln q wr x).1 ln := h.trans (sign_po h.1 hx)
theorem poS_x {pd : Nat → Int32} {ln po q k : Int32} (h : poS po q ln) (c : sh_X5_next pd ln q = k) (hk : ¬ k = 0) : poS po (q + 1) ln := h.trans (poS_up h.1 (next_in (pd := pd) (lit_ne c hk)))
def sh_X5_deed (pd : Nat → Int32) (ln : Int32) (po : Int32) (wr : Int32) (fr : Int32) (sc : Int32) : (Int32) × (Int32) × (Int32) × (Int32) × (Int32) × (Int32) := (kb (α := (Int32)) (if wr = 0 then (sh_X5_next pd ln po) else 0) (fun z_v6 => (if z_v6 = 112 then (kb (sh_X5_digit pd ln (po + 1) wr 0 1) (fun z_r30 => (kb (sh_X5_sign pd ln z_r30.2.1 z_r30.2.2 58) (fun z_v38 => (kb (sh_X5_number pd ln z_v38.1 z_v38.2 1 999) (fun z_r40 => (if z_r40.2.2 = 0 then (if (sh_X5_next pd ln z_r40.2.1) = 120 then (kb (sh_X5_number pd ln (z_r40.2.1 + 1) z_r40.2.2 2 50) (fun z_r50 => (z_r50.2.1, z_r50.2.2, z_v6, z_r30.1, z_r40.1, z_r50.1))) else (z_r40.2.1, z_r40.2.2, z_v6, z_r30.1, z_r40.1, (1 : Int32))) else (z_r40.2.1, z_r40.2.2, z_v6, z_r30.1, z_r40.1, (1 : Int32))))))))) else (if z_v6 = 115 then (kb (sh_X5_digit pd ln (po + 1) wr 0 3) (fun z_r25 => (z_r25.2.1, z_r25.2.2, z_v6, z_r25.1, sc, (1 : Int32)))) else (if z_v6 = 109 then (kb (sh_X5_digit pd ln (po + 1) wr 0 3) (fun z_r10 => (kb (sh_X5_sign pd ln z_r10.2.1 z_r10.2.2 62) (fun z_v18 => (kb (sh_X5_digit pd ln z_v18.1 z_v18.2 0 1) (fun z_r20 => (z_r20.2.1, z_r20.2.2, z_v6, z_r10.1, z_r20.1, (1 : Int32)))))))) else (po, (1 : Int32), z_v6, fr, sc, (1 : Int32)))))))
abbrev rm_X5_deed : Room := { frames := 3, cells := 0, slots := 0, locals := 69 }
theorem hd_X5_deed : hdT yX5_deed 0 := by decide +kernel
set_option maxHeartbeats 40000000 in
set_option maxRecDepth 100000 in
theorem c_X5_deed (l : Launch) (D : va_G) (cI cC cQ : ClassId) (sz : Nat) (h0 : Nat) (a : Nat → Nat) (sv : Nat → Int32) (pa : Nat → Int32) (pn : Int32) (sn : Nat → Int32) (kp : Int32) (pd : Nat → Int32) (ln : Int32) (so : Nat → Int32) (po : Int32) (wr : Int32) (lt : Int32) (fr : Int32) (sc : Int32) (tm : Int32) (hd : Int32) (st : Int32)  (hpo : poOK po ln) : Met l yX5_deed (wsO yX5_deed cX5_deed 1 none) rm_X5_deed (va_Pc [.ref h0] (inW D (TYS cI cC cQ) (MO cI h0 a sv pa pn sn kp pd ln so po wr lt fr sc tm hd st) sz)) (va_Qv (fun (u : (Int32) × (Int32) × (Int32) × (Int32) × (Int32) × (Int32)) => u = sh_X5_deed pd ln po wr fr sc) (fun (u : (Int32) × (Int32) × (Int32) × (Int32) × (Int32) × (Int32)) => atW D (TYS cI cC cQ) (va_A (MO cI h0 a sv pa pn sn kp pd ln so po wr lt fr sc tm hd st) sz) (MO cI h0 a sv pa pn sn kp pd ln so u.1 u.2.1 u.2.2.1 u.2.2.2.1 u.2.2.2.2.1 u.2.2.2.2.2 hd st)) (va_A (MO cI h0 a sv pa pn sn kp pd ln so po wr lt fr sc tm hd st) sz)) 0 0 (va_A (MO cI h0 a sv pa pn sn kp pd ln so po wr lt fr sc tm hd st) sz) := by
  refine k_metv rfl (by decide) (Nat.le_of_ble_eq_true rfl) ?_
  intro p e s m args below meth c A ls Q H locs hargs hret hx hb hts hown hml hname hN hA hS hP hK hD hl
  have hl : lv_has ls 1 [(0, .ref h0)] := hl
  obtain ⟨Xq, hX⟩ : ∃ Xq, Xq = sh_X5_deed pd ln po wr fr sc := ⟨_, rfl⟩
  have hq : Xq = (kb (α := (Int32)) (if wr = 0 then (sh_X5_next pd ln po) else 0) (fun z_v6 => (if z_v6 = 112 then (kb (sh_X5_digit pd ln (po + 1) wr 0 1) (fun z_r30 => (kb (sh_X5_sign pd ln z_r30.2.1 z_r30.2.2 58) (fun z_v38 => (kb (sh_X5_number pd ln z_v38.1 z_v38.2 1 999) (fun z_r40 => (if z_r40.2.2 = 0 then (if (sh_X5_next pd ln z_r40.2.1) = 120 then (kb (sh_X5_number pd ln (z_r40.2.1 + 1) z_r40.2.2 2 50) (fun z_r50 => (z_r50.2.1, z_r50.2.2, z_v6, z_r30.1, z_r40.1, z_r50.1))) else (z_r40.2.1, z_r40.2.2, z_v6, z_r30.1, z_r40.1, (1 : Int32))) else (z_r40.2.1, z_r40.2.2, z_v6, z_r30.1, z_r40.1, (1 : Int32))))))))) else (if z_v6 = 115 then (kb (sh_X5_digit pd ln (po + 1) wr 0 3) (fun z_r25 => (z_r25.2.1, z_r25.2.2, z_v6, z_r25.1, sc, (1 : Int32)))) else (if z_v6 = 109 then (kb (sh_X5_digit pd ln (po + 1) wr 0 3) (fun z_r10 => (kb (sh_X5_sign pd ln z_r10.2.1 z_r10.2.2 62) (fun z_v18 => (kb (sh_X5_digit pd ln z_v18.1 z_v18.2 0 1) (fun z_r20 => (z_r20.2.1, z_r20.2.2, z_v6, z_r10.1, z_r20.1, (1 : Int32)))))))) else (po, (1 : Int32), z_v6, fr, sc, (1 : Int32))))))) := hX
  refine lv_aload_n hx hb dX5_deed_0 rfl (lv_at hl 0 rfl) ?_
  refine lv_aload_n hx hb dX5_deed_1 rfl (lv_at hl 0 rfl) ?_
  refine va_get (D := D) (ci := 5) (v := .int wr) (C := RX5) (T := TX5) (N := 16) hx hb hts inA5 hown hK hP 0 rfl rfl 9 (by decide) (hts _ wd_fl_RX5_88) (fun _ h9 => h9) rfl dX5_deed_2 ?_
  have K : ∀ (v6 : Int32) (H : Heap) (locs : List Loc) (ls : Array Slot), v6 = (if wr = 0 then (sh_X5_next pd ln po) else 0) → va_P D vwCl (MO cI h0 a sv pa pn sn kp pd ln so po wr lt fr sc tm hd st) H → va_D A (MO cI h0 a sv pa pn sn kp pd ln so po wr lt fr sc tm hd st) → va_S A s.heap H locs → lv_has ls 1 [(0, .ref h0)] → W p l e rm_X5_deed s m args below meth c H locs 0 0 Q (F0 m 16 ls [.int v6, .ref h0]) := by
    intro v6 H locs ls hv5 hP hD hS hl
    have hq := kb_to hq hv5
    refine va_put (D := D) (ci := 5) (v := .int v6) (ty := .int) (C := RX5) (T := TX5) (N := 16) hx hb hts inA5 tyX5 tyX5_ok nmX5 hown hK hP hD hS 0 rfl rfl 10 (by decide) (hts _ wd_fl_RX5_99) (fun _ h9 => h9) rfl (by decide +kernel) rfl rfl (Nat.le_of_ble_eq_true rfl) dX5_deed_16 (fun H locs hP hD hS => ?_)
    have hP : va_P D vwCl (MO cI h0 a sv pa pn sn kp pd ln so po wr v6 fr sc tm hd st) H := hP
    have hD : va_D A (MO cI h0 a sv pa pn sn kp pd ln so po wr v6 fr sc tm hd st) := hD
    refine lv_aload_n hx hb dX5_deed_19 rfl (lv_at hl 0 rfl) ?_
    refine lv_iconst (v := 1) hx hb dX5_deed_20 (by decide) ?_
    refine va_put (D := D) (ci := 5) (v := .int 1) (ty := .int) (C := RX5) (T := TX5) (N := 16) hx hb hts inA5 tyX5 tyX5_ok nmX5 hown hK hP hD hS 0 rfl rfl 13 (by decide) (hts _ wd_fl_RX5_102) (fun _ h9 => h9) rfl (by decide +kernel) rfl rfl (Nat.le_of_ble_eq_true rfl) dX5_deed_21 (fun H locs hP hD hS => ?_)
    have hP : va_P D vwCl (MO cI h0 a sv pa pn sn kp pd ln so po wr v6 fr sc 1 hd st) H := hP
    have hD : va_D A (MO cI h0 a sv pa pn sn kp pd ln so po wr v6 fr sc 1 hd st) := hD
    refine lv_aload_n hx hb dX5_deed_24 rfl (lv_at hl 0 rfl) ?_
    refine va_get (D := D) (ci := 5) (v := .int v6) (C := RX5) (T := TX5) (N := 16) hx hb hts inA5 hown hK hP 0 rfl rfl 10 (by decide) (hts _ wd_fl_RX5_99) (fun _ h9 => h9) rfl dX5_deed_25 ?_
    refine lv_bipush (v := 112) hx hb dX5_deed_28 (by decide) ?_
    refine lv_icmp_ne (tgt := 111) hx hb dX5_deed_30 (by decide) (fun c7 => ?_) (fun c7 => ?_)
    · have hq := it_neg hq c7
      refine lv_aload_n hx hb dX5_deed_111 rfl (lv_at hl 0 rfl) ?_
      refine va_get (D := D) (ci := 5) (v := .int v6) (C := RX5) (T := TX5) (N := 16) hx hb hts inA5 hown hK hP 0 rfl rfl 10 (by decide) (hts _ wd_fl_RX5_99) (fun _ h9 => h9) rfl dX5_deed_112 ?_
      refine lv_bipush (v := 115) hx hb dX5_deed_115 (by decide) ?_
      refine lv_icmp_ne (tgt := 143) hx hb dX5_deed_117 (by decide) (fun c8 => ?_) (fun c8 => ?_)
      · have hq := it_neg hq c8
        refine lv_aload_n hx hb dX5_deed_143 rfl (lv_at hl 0 rfl) ?_
        refine va_get (D := D) (ci := 5) (v := .int v6) (C := RX5) (T := TX5) (N := 16) hx hb hts inA5 hown hK hP 0 rfl rfl 10 (by decide) (hts _ wd_fl_RX5_99) (fun _ h9 => h9) rfl dX5_deed_144 ?_
        refine lv_bipush (v := 109) hx hb dX5_deed_147 (by decide) ?_
        refine lv_icmp_ne (tgt := 191) hx hb dX5_deed_149 (by decide) (fun c9 => ?_) (fun c9 => ?_)
        · have hq := it_neg hq c9
          refine lv_aload_n hx hb dX5_deed_191 rfl (lv_at hl 0 rfl) ?_
          refine lv_iconst (v := 1) hx hb dX5_deed_192 (by decide) ?_
          refine va_put (D := D) (ci := 5) (v := .int 1) (ty := .boolean) (C := RX5) (T := TX5) (N := 16) hx hb hts inA5 tyX5 tyX5_ok nmX5 hown hK hP hD hS 0 rfl rfl 9 (by decide) (hts _ wd_fl_RX5_88) (fun _ h9 => h9) rfl (by decide +kernel) rfl rfl (Nat.le_of_ble_eq_true rfl) dX5_deed_193 (fun H locs hP hD hS => ?_)
          have hP : va_P D vwCl (MO cI h0 a sv pa pn sn kp pd ln so po 1 v6 fr sc 1 hd st) H := hP
          have hD : va_D A (MO cI h0 a sv pa pn sn kp pd ln so po 1 v6 fr sc 1 hd st) := hD
          exact hret _ _ _ _ (po, 1, v6, fr, sc, 1) dX5_deed_196 (hq.symm.trans hX) hP hD hS
        · have hq := it_pos hq c9
          refine lv_aload_n hx hb dX5_deed_152 rfl (lv_at hl 0 rfl) ?_
          refine lv_dup hx hb dX5_deed_153 rfl ?_
          refine va_get (D := D) (ci := 5) (v := .int po) (C := RX5) (T := TX5) (N := 16) hx hb hts inA5 hown hK hP 0 rfl rfl 8 (by decide) (hts _ wd_fl_RX5_85) (fun _ h9 => h9) rfl dX5_deed_154 ?_
          refine lv_iconst (v := 1) hx hb dX5_deed_157 (by decide) ?_
          refine lv_iadd hx hb dX5_deed_158 ?_
          refine va_put (D := D) (ci := 5) (v := .int (po + 1)) (ty := .int) (C := RX5) (T := TX5) (N := 16) hx hb hts inA5 tyX5 tyX5_ok nmX5 hown hK hP hD hS 0 rfl rfl 8 (by decide) (hts _ wd_fl_RX5_85) (fun _ h9 => h9) rfl (by decide +kernel) rfl rfl (Nat.le_of_ble_eq_true rfl) dX5_deed_159 (fun H locs hP hD hS => ?_)
          have hP : va_P D vwCl (MO cI h0 a sv pa pn sn kp pd ln so (po + 1) wr v6 fr sc 1 hd st) H := hP
          have hD : va_D A (MO cI h0 a sv pa pn sn kp pd ln so (po + 1) wr v6 fr sc 1 hd st) := hD
          refine lv_aload_n hx hb dX5_deed_162 rfl (lv_at hl 0 rfl) ?_
          refine lv_aload_n hx hb dX5_deed_163 rfl (lv_at hl 0 rfl) ?_
          refine lv_iconst (v := 0) hx hb dX5_deed_164 (by decide) ?_
          refine lv_iconst (v := 3) hx hb dX5_deed_165 (by decide) ?_
          have hPs := k_self hP
          have hDs := k_selfD hD
          refine k_behi (X := []) (Y := []) (va_runV (As := [.int 0, .int 3]) (rest := [.ref h0]) ⟨hx, hb, hml, hown, hts⟩ (c_X5_digit l D cI cC cQ H.size h0 a sv pa pn sn kp pd ln so (po + 1) wr v6 fr sc 1 hd st 0 3 ((letter_po hpo hv5 c9 (by decide)).1)) (kcwV hts wd_ml_RX5_96 wd_im_yX5_digit wd_sel_yX5_digit wd_ini_RX5 wd_code_yX5_digit rfl rfl rfl hd_X5_digit ⟨Nat.le_of_ble_eq_true rfl, Nat.le_of_ble_eq_true rfl⟩) ⟨in_blind, va_recv hK (pa_l (pa_r hPs)) (ci := 5) (q0 := 0) rfl rfl, k_pre hK (pa_l (pa_r hPs)) (da_l (da_r hDs)) hN⟩ rfl rfl hl.1 rfl (lv_room (Nat.le_of_ble_eq_true rfl)) dX5_deed_166 ⟨Nat.le_of_ble_eq_true rfl, Nat.le_of_ble_eq_true rfl⟩) hPs hDs hS hA (fun r10 u11 H locs hw12 hP hD hS => ?_)
          obtain ⟨v13, v14⟩ := u11
          have hP := k_unP hP
          have hD := k_unD hD
          have hP : va_P D vwCl (MO cI h0 a sv pa pn sn kp pd ln so v13 v14 v6 fr sc 1 hd st) H := hP
          have hD : va_D A (MO cI h0 a sv pa pn sn kp pd ln so v13 v14 v6 fr sc 1 hd st) := hD
          have hw12 : (r10, v13, v14) = (sh_X5_digit pd ln (po + 1) wr 0 3) := hw12
          have hq := kb_to hq hw12
          refine va_put (D := D) (ci := 5) (v := .int r10) (ty := .int) (C := RX5) (T := TX5) (N := 16) hx hb hts inA5 tyX5 tyX5_ok nmX5 hown hK hP hD hS 0 rfl rfl 11 (by decide) (hts _ wd_fl_RX5_105) (fun _ h9 => h9) rfl (by decide +kernel) rfl rfl (Nat.le_of_ble_eq_true rfl) dX5_deed_169 (fun H locs hP hD hS => ?_)
          have hP : va_P D vwCl (MO cI h0 a sv pa pn sn kp pd ln so v13 v14 v6 r10 sc 1 hd st) H := hP
          have hD : va_D A (MO cI h0 a sv pa pn sn kp pd ln so v13 v14 v6 r10 sc 1 hd st) := hD
          refine lv_aload_n hx hb dX5_deed_172 rfl (lv_at hl 0 rfl) ?_
          refine lv_bipush (v := 62) hx hb dX5_deed_173 (by decide) ?_
          have hPs := k_self hP
          have hDs := k_selfD hD
          refine k_behv (X := []) (Y := []) (va_runV (As := [.int 62]) (rest := []) ⟨hx, hb, hml, hown, hts⟩ (c_X5_sign l D cI cC cQ H.size h0 a sv pa pn sn kp pd ln so v13 v14 v6 r10 sc 1 hd st 62 ((poSE1 (digit_po (letter_po hpo hv5 c9 (by decide)).1 (by decide)) hw12).1)) (kcwV hts wd_ml_RX5_108 wd_im_yX5_sign wd_sel_yX5_sign wd_ini_RX5 wd_code_yX5_sign rfl rfl rfl hd_X5_sign ⟨Nat.le_of_ble_eq_true rfl, Nat.le_of_ble_eq_true rfl⟩) ⟨in_blind, va_recv hK (pa_l (pa_r hPs)) (ci := 5) (q0 := 0) rfl rfl, k_pre hK (pa_l (pa_r hPs)) (da_l (da_r hDs)) hN⟩ rfl rfl hl.1 rfl (lv_room (Nat.le_of_ble_eq_true rfl)) dX5_deed_175 ⟨Nat.le_of_ble_eq_true rfl, Nat.le_of_ble_eq_true rfl⟩) hPs hDs hS hA (fun u16 H locs hw17 hP hD hS => ?_)
          obtain ⟨v18, v19⟩ := u16
          have hP := k_unP hP
          have hD := k_unD hD
          have hP : va_P D vwCl (MO cI h0 a sv pa pn sn kp pd ln so v18 v19 v6 r10 sc 1 hd st) H := hP
          have hD : va_D A (MO cI h0 a sv pa pn sn kp pd ln so v18 v19 v6 r10 sc 1 hd st) := hD
          have hw17 : (v18, v19) = (sh_X5_sign pd ln v13 v14 62) := hw17
          have hq := kb_to hq hw17
          refine lv_aload_n hx hb dX5_deed_178 rfl (lv_at hl 0 rfl) ?_
          refine lv_aload_n hx hb dX5_deed_179 rfl (lv_at hl 0 rfl) ?_
          refine lv_iconst (v := 0) hx hb dX5_deed_180 (by decide) ?_
          refine lv_iconst (v := 1) hx hb dX5_deed_181 (by decide) ?_
          have hPs := k_self hP
          have hDs := k_selfD hD
          refine k_behi (X := []) (Y := []) (va_runV (As := [.int 0, .int 1]) (rest := [.ref h0]) ⟨hx, hb, hml, hown, hts⟩ (c_X5_digit l D cI cC cQ H.size h0 a sv pa pn sn kp pd ln so v18 v19 v6 r10 sc 1 hd st 0 1 ((poSE0 (sign_po (poSE1 (digit_po (letter_po hpo hv5 c9 (by decide)).1 (by decide)) hw12).1 (by decide)) hw17).1)) (kcwV hts wd_ml_RX5_96 wd_im_yX5_digit wd_sel_yX5_digit wd_ini_RX5 wd_code_yX5_digit rfl rfl rfl hd_X5_digit ⟨Nat.le_of_ble_eq_true rfl, Nat.le_of_ble_eq_true rfl⟩) ⟨in_blind, va_recv hK (pa_l (pa_r hPs)) (ci := 5) (q0 := 0) rfl rfl, k_pre hK (pa_l (pa_r hPs)) (da_l (da_r hDs)) hN⟩ rfl rfl hl.1 rfl (lv_room (Nat.le_of_ble_eq_true rfl)) dX5_deed_182 ⟨Nat.le_of_ble_eq_true rfl, Nat.le_of_ble_eq_true rfl⟩) hPs hDs hS hA (fun r20 u21 H locs hw22 hP hD hS => ?_)
          obtain ⟨v23, v24⟩ := u21
          have hP := k_unP hP
          have hD := k_unD hD
          have hP : va_P D vwCl (MO cI h0 a sv pa pn sn kp pd ln so v23 v24 v6 r10 sc 1 hd st) H := hP
          have hD : va_D A (MO cI h0 a sv pa pn sn kp pd ln so v23 v24 v6 r10 sc 1 hd st) := hD
          have hw22 : (r20, v23, v24) = (sh_X5_digit pd ln v18 v19 0 1) := hw22
          have hq := kb_to hq hw22
          refine va_put (D := D) (ci := 5) (v := .int r20) (ty := .int) (C := RX5) (T := TX5) (N := 16) hx hb hts inA5 tyX5 tyX5_ok nmX5 hown hK hP hD hS 0 rfl rfl 12 (by decide) (hts _ wd_fl_RX5_115) (fun _ h9 => h9) rfl (by decide +kernel) rfl rfl (Nat.le_of_ble_eq_true rfl) dX5_deed_185 (fun H locs hP hD hS => ?_)
          have hP : va_P D vwCl (MO cI h0 a sv pa pn sn kp pd ln so v23 v24 v6 r10 r20 1 hd st) H := hP
          have hD : va_D A (MO cI h0 a sv pa pn sn kp pd ln so v23 v24 v6 r10 r20 1 hd st) := hD
          refine lv_goto (tgt := 196) hx hb dX5_deed_188 (by decide) ?_
          exact hret _ _ _ _ (v23, v24, v6, r10, r20, 1) dX5_deed_196 (hq.symm.trans hX) hP hD hS
      · have hq := it_pos hq c8
        refine lv_aload_n hx hb dX5_deed_120 rfl (lv_at hl 0 rfl) ?_
        refine lv_dup hx hb dX5_deed_121 rfl ?_
        refine va_get (D := D) (ci := 5) (v := .int po) (C := RX5) (T := TX5) (N := 16) hx hb hts inA5 hown hK hP 0 rfl rfl 8 (by decide) (hts _ wd_fl_RX5_85) (fun _ h9 => h9) rfl dX5_deed_122 ?_
        refine lv_iconst (v := 1) hx hb dX5_deed_125 (by decide) ?_
        refine lv_iadd hx hb dX5_deed_126 ?_
        refine va_put (D := D) (ci := 5) (v := .int (po + 1)) (ty := .int) (C := RX5) (T := TX5) (N := 16) hx hb hts inA5 tyX5 tyX5_ok nmX5 hown hK hP hD hS 0 rfl rfl 8 (by decide) (hts _ wd_fl_RX5_85) (fun _ h9 => h9) rfl (by decide +kernel) rfl rfl (Nat.le_of_ble_eq_true rfl) dX5_deed_127 (fun H locs hP hD hS => ?_)
        have hP : va_P D vwCl (MO cI h0 a sv pa pn sn kp pd ln so (po + 1) wr v6 fr sc 1 hd st) H := hP
        have hD : va_D A (MO cI h0 a sv pa pn sn kp pd ln so (po + 1) wr v6 fr sc 1 hd st) := hD
        refine lv_aload_n hx hb dX5_deed_130 rfl (lv_at hl 0 rfl) ?_
        refine lv_aload_n hx hb dX5_deed_131 rfl (lv_at hl 0 rfl) ?_
        refine lv_iconst (v := 0) hx hb dX5_deed_132 (by decide) ?_
        refine lv_iconst (v := 3) hx hb dX5_deed_133 (by decide) ?_
        have hPs := k_self hP
        have hDs := k_selfD hD
        refine k_behi (X := []) (Y := []) (va_runV (As := [.int 0, .int 3]) (rest := [.ref h0]) ⟨hx, hb, hml, hown, hts⟩ (c_X5_digit l D cI cC cQ H.size h0 a sv pa pn sn kp pd ln so (po + 1) wr v6 fr sc 1 hd st 0 3 ((letter_po hpo hv5 c8 (by decide)).1)) (kcwV hts wd_ml_RX5_96 wd_im_yX5_digit wd_sel_yX5_digit wd_ini_RX5 wd_code_yX5_digit rfl rfl rfl hd_X5_digit ⟨Nat.le_of_ble_eq_true rfl, Nat.le_of_ble_eq_true rfl⟩) ⟨in_blind, va_recv hK (pa_l (pa_r hPs)) (ci := 5) (q0 := 0) rfl rfl, k_pre hK (pa_l (pa_r hPs)) (da_l (da_r hDs)) hN⟩ rfl rfl hl.1 rfl (lv_room (Nat.le_of_ble_eq_true rfl)) dX5_deed_134 ⟨Nat.le_of_ble_eq_true rfl, Nat.le_of_ble_eq_true rfl⟩) hPs hDs hS hA (fun r25 u26 H locs hw27 hP hD hS => ?_)
        obtain ⟨v28, v29⟩ := u26
        have hP := k_unP hP
        have hD := k_unD hD
        have hP : va_P D vwCl (MO cI h0 a sv pa pn sn kp pd ln so v28 v29 v6 fr sc 1 hd st) H := hP
        have hD : va_D A (MO cI h0 a sv pa pn sn kp pd ln so v28 v29 v6 fr sc 1 hd st) := hD
        have hw27 : (r25, v28, v29) = (sh_X5_digit pd ln (po + 1) wr 0 3) := hw27
        have hq := kb_to hq hw27
        refine va_put (D := D) (ci := 5) (v := .int r25) (ty := .int) (C := RX5) (T := TX5) (N := 16) hx hb hts inA5 tyX5 tyX5_ok nmX5 hown hK hP hD hS 0 rfl rfl 11 (by decide) (hts _ wd_fl_RX5_105) (fun _ h9 => h9) rfl (by decide +kernel) rfl rfl (Nat.le_of_ble_eq_true rfl) dX5_deed_137 (fun H locs hP hD hS => ?_)
        have hP : va_P D vwCl (MO cI h0 a sv pa pn sn kp pd ln so v28 v29 v6 r25 sc 1 hd st) H := hP
        have hD : va_D A (MO cI h0 a sv pa pn sn kp pd ln so v28 v29 v6 r25 sc 1 hd st) := hD
        refine lv_goto (tgt := 196) hx hb dX5_deed_140 (by decide) ?_
        exact hret _ _ _ _ (v28, v29, v6, r25, sc, 1) dX5_deed_196 (hq.symm.trans hX) hP hD hS
    · have hq := it_pos hq c7
      refine lv_aload_n hx hb dX5_deed_33 rfl (lv_at hl 0 rfl) ?_
      refine lv_dup hx hb dX5_deed_34 rfl ?_
      refine va_get (D := D) (ci := 5) (v := .int po) (C := RX5) (T := TX5) (N := 16) hx hb hts inA5 hown hK hP 0 rfl rfl 8 (by decide) (hts _ wd_fl_RX5_85) (fun _ h9 => h9) rfl dX5_deed_35 ?_
      refine lv_iconst (v := 1) hx hb dX5_deed_38 (by decide) ?_
      refine lv_iadd hx hb dX5_deed_39 ?_
      refine va_put (D := D) (ci := 5) (v := .int (po + 1)) (ty := .int) (C := RX5) (T := TX5) (N := 16) hx hb hts inA5 tyX5 tyX5_ok nmX5 hown hK hP hD hS 0 rfl rfl 8 (by decide) (hts _ wd_fl_RX5_85) (fun _ h9 => h9) rfl (by decide +kernel) rfl rfl (Nat.le_of_ble_eq_true rfl) dX5_deed_40 (fun H locs hP hD hS => ?_)
      have hP : va_P D vwCl (MO cI h0 a sv pa pn sn kp pd ln so (po + 1) wr v6 fr sc 1 hd st) H := hP
      have hD : va_D A (MO cI h0 a sv pa pn sn kp pd ln so (po + 1) wr v6 fr sc 1 hd st) := hD
      refine lv_aload_n hx hb dX5_deed_43 rfl (lv_at hl 0 rfl) ?_
      refine lv_aload_n hx hb dX5_deed_44 rfl (lv_at hl 0 rfl) ?_
      refine lv_iconst (v := 0) hx hb dX5_deed_45 (by decide) ?_
      refine lv_iconst (v := 1) hx hb dX5_deed_46 (by decide) ?_
      have hPs := k_self hP
      have hDs := k_selfD hD
      refine k_behi (X := []) (Y := []) (va_runV (As := [.int 0, .int 1]) (rest := [.ref h0]) ⟨hx, hb, hml, hown, hts⟩ (c_X5_digit l D cI cC cQ H.size h0 a sv pa pn sn kp pd ln so (po + 1) wr v6 fr sc 1 hd st 0 1 ((letter_po hpo hv5 c7 (by decide)).1)) (kcwV hts wd_ml_RX5_96 wd_im_yX5_digit wd_sel_yX5_digit wd_ini_RX5 wd_code_yX5_digit rfl rfl rfl hd_X5_digit ⟨Nat.le_of_ble_eq_true rfl, Nat.le_of_ble_eq_true rfl⟩) ⟨in_blind, va_recv hK (pa_l (pa_r hPs)) (ci := 5) (q0 := 0) rfl rfl, k_pre hK (pa_l (pa_r hPs)) (da_l (da_r hDs)) hN⟩ rfl rfl hl.1 rfl (lv_room (Nat.le_of_ble_eq_true rfl)) dX5_deed_47 ⟨Nat.le_of_ble_eq_true rfl, Nat.le_of_ble_eq_true rfl⟩) hPs hDs hS hA (fun r30 u31 H locs hw32 hP hD hS => ?_)
      obtain ⟨v33, v34⟩ := u31
      have hP := k_unP hP
      have hD := k_unD hD
      have hP : va_P D vwCl (MO cI h0 a sv pa pn sn kp pd ln so v33 v34 v6 fr sc 1 hd st) H := hP
      have hD : va_D A (MO cI h0 a sv pa pn sn kp pd ln so v33 v34 v6 fr sc 1 hd st) := hD
      have hw32 : (r30, v33, v34) = (sh_X5_digit pd ln (po + 1) wr 0 1) := hw32
      have hq := kb_to hq hw32
      refine va_put (D := D) (ci := 5) (v := .int r30) (ty := .int) (C := RX5) (T := TX5) (N := 16) hx hb hts inA5 tyX5 tyX5_ok nmX5 hown hK hP hD hS 0 rfl rfl 11 (by decide) (hts _ wd_fl_RX5_105) (fun _ h9 => h9) rfl (by decide +kernel) rfl rfl (Nat.le_of_ble_eq_true rfl) dX5_deed_50 (fun H locs hP hD hS => ?_)
      have hP : va_P D vwCl (MO cI h0 a sv pa pn sn kp pd ln so v33 v34 v6 r30 sc 1 hd st) H := hP
      have hD : va_D A (MO cI h0 a sv pa pn sn kp pd ln so v33 v34 v6 r30 sc 1 hd st) := hD
      refine lv_aload_n hx hb dX5_deed_53 rfl (lv_at hl 0 rfl) ?_
      refine lv_bipush (v := 58) hx hb dX5_deed_54 (by decide) ?_
      have hPs := k_self hP
      have hDs := k_selfD hD
      refine k_behv (X := []) (Y := []) (va_runV (As := [.int 58]) (rest := []) ⟨hx, hb, hml, hown, hts⟩ (c_X5_sign l D cI cC cQ H.size h0 a sv pa pn sn kp pd ln so v33 v34 v6 r30 sc 1 hd st 58 ((poSE1 (digit_po (letter_po hpo hv5 c7 (by decide)).1 (by decide)) hw32).1)) (kcwV hts wd_ml_RX5_108 wd_im_yX5_sign wd_sel_yX5_sign wd_ini_RX5 wd_code_yX5_sign rfl rfl rfl hd_X5_sign ⟨Nat.le_of_ble_eq_true rfl, Nat.le_of_ble_eq_true rfl⟩) ⟨in_blind, va_recv hK (pa_l (pa_r hPs)) (ci := 5) (q0 := 0) rfl rfl, k_pre hK (pa_l (pa_r hPs)) (da_l (da_r hDs)) hN⟩ rfl rfl hl.1 rfl (lv_room (Nat.le_of_ble_eq_true rfl)) dX5_deed_56 ⟨Nat.le_of_ble_eq_true rfl, Nat.le_of_ble_eq_true rfl⟩) hPs hDs hS hA (fun u36 H locs hw37 hP hD hS => ?_)
      obtain ⟨v38, v39⟩ := u36
      have hP := k_unP hP
      have hD := k_unD hD
      have hP : va_P D vwCl (MO cI h0 a sv pa pn sn kp pd ln so v38 v39 v6 r30 sc 1 hd st) H := hP
      have hD : va_D A (MO cI h0 a sv pa pn sn kp pd ln so v38 v39 v6 r30 sc 1 hd st) := hD
      have hw37 : (v38, v39) = (sh_X5_sign pd ln v33 v34 58) := hw37
      have hq := kb_to hq hw37
      refine lv_aload_n hx hb dX5_deed_59 rfl (lv_at hl 0 rfl) ?_
      refine lv_aload_n hx hb dX5_deed_60 rfl (lv_at hl 0 rfl) ?_
      refine lv_iconst (v := 1) hx hb dX5_deed_61 (by decide) ?_
      refine lv_sipush (v := 999) hx hb dX5_deed_62 (by decide) ?_
      have hPs := k_self hP
      have hDs := k_selfD hD
      refine k_behi (X := []) (Y := []) (va_runV (As := [.int 1, .int 999]) (rest := [.ref h0]) ⟨hx, hb, hml, hown, hts⟩ (c_X5_number l D cI cC cQ H.size h0 a sv pa pn sn kp pd ln so v38 v39 v6 r30 sc 1 hd st 1 999 ((poSE0 (sign_po (poSE1 (digit_po (letter_po hpo hv5 c7 (by decide)).1 (by decide)) hw32).1 (by decide)) hw37).1)) (kcwV hts wd_ml_RX5_112 wd_im_yX5_number wd_sel_yX5_number wd_ini_RX5 wd_code_yX5_number rfl rfl rfl hd_X5_number ⟨Nat.le_of_ble_eq_true rfl, Nat.le_of_ble_eq_true rfl⟩) ⟨in_blind, va_recv hK (pa_l (pa_r hPs)) (ci := 5) (q0 := 0) rfl rfl, k_pre hK (pa_l (pa_r hPs)) (da_l (da_r hDs)) hN⟩ rfl rfl hl.1 rfl (lv_room (Nat.le_of_ble_eq_true rfl)) dX5_deed_65 ⟨Nat.le_of_ble_eq_true rfl, Nat.le_of_ble_eq_true rfl⟩) hPs hDs hS hA (fun r40 u41 H locs hw42 hP hD hS => ?_)
      obtain ⟨v43, v44⟩ := u41
      have hP := k_unP hP
      have hD := k_unD hD
      have hP : va_P D vwCl (MO cI h0 a sv pa pn sn kp pd ln so v43 v44 v6 r30 sc 1 hd st) H := hP
      have hD : va_D A (MO cI h0 a sv pa pn sn kp pd ln so v43 v44 v6 r30 sc 1 hd st) := hD
      have hw42 : (r40, v43, v44) = (sh_X5_number pd ln v38 v39 1 999) := hw42
      have hq := kb_to hq hw42
      refine va_put (D := D) (ci := 5) (v := .int r40) (ty := .int) (C := RX5) (T := TX5) (N := 16) hx hb hts inA5 tyX5 tyX5_ok nmX5 hown hK hP hD hS 0 rfl rfl 12 (by decide) (hts _ wd_fl_RX5_115) (fun _ h9 => h9) rfl (by decide +kernel) rfl rfl (Nat.le_of_ble_eq_true rfl) dX5_deed_68 (fun H locs hP hD hS => ?_)
      have hP : va_P D vwCl (MO cI h0 a sv pa pn sn kp pd ln so v43 v44 v6 r30 r40 1 hd st) H := hP
      have hD : va_D A (MO cI h0 a sv pa pn sn kp pd ln so v43 v44 v6 r30 r40 1 hd st) := hD
      refine lv_aload_n hx hb dX5_deed_71 rfl (lv_at hl 0 rfl) ?_
      refine va_get (D := D) (ci := 5) (v := .int v44) (C := RX5) (T := TX5) (N := 16) hx hb hts inA5 hown hK hP 0 rfl rfl 9 (by decide) (hts _ wd_fl_RX5_88) (fun _ h9 => h9) rfl dX5_deed_72 ?_
      refine lv_if_ne (tgt := 196) hx hb dX5_deed_75 (by decide) (fun c45 => ?_) (fun c45 => ?_)
      · have hq := it_neg hq c45
        exact hret _ _ _ _ (v43, v44, v6, r30, r40, 1) dX5_deed_196 (hq.symm.trans hX) hP hD hS
      · have hq := it_pos hq c45
        refine lv_aload_n hx hb dX5_deed_78 rfl (lv_at hl 0 rfl) ?_
        have hPs := k_self hP
        have hDs := k_selfD hD
        refine k_behi (X := []) (Y := []) (va_runV (As := []) (rest := []) ⟨hx, hb, hml, hown, hts⟩ (c_X5_next l D cI cC cQ H.size h0 a sv pa pn sn kp pd ln so v43 v44 v6 r30 r40 1 hd st ((poSE1 (number_po (poSE0 (sign_po (poSE1 (digit_po (letter_po hpo hv5 c7 (by decide)).1 (by decide)) hw32).1 (by decide)) hw37).1) hw42).1)) (kcwV hts wd_ml_RX5_92 wd_im_yX5_next wd_sel_yX5_next wd_ini_RX5 wd_code_yX5_next rfl rfl rfl hd_X5_next ⟨Nat.le_of_ble_eq_true rfl, Nat.le_of_ble_eq_true rfl⟩) ⟨in_blind, va_recv hK (pa_l (pa_r hPs)) (ci := 5) (q0 := 0) rfl rfl, k_pre hK (pa_l (pa_r hPs)) (da_l (da_r hDs)) hN⟩ rfl rfl hl.1 rfl (lv_room (Nat.le_of_ble_eq_true rfl)) dX5_deed_79 ⟨Nat.le_of_ble_eq_true rfl, Nat.le_of_ble_eq_true rfl⟩) hPs hDs hS hA (fun r46 u47 H locs hw48 hP hD hS => ?_)
        have hP := k_unP hP
        have hD := k_unD hD
        have hP : va_P D vwCl (MO cI h0 a sv pa pn sn kp pd ln so v43 v44 v6 r30 r40 1 hd st) H := hP
        have hD : va_D A (MO cI h0 a sv pa pn sn kp pd ln so v43 v44 v6 r30 r40 1 hd st) := hD
        have hw48 : r46 = (sh_X5_next pd ln v43) := hw48
        subst hw48
        refine lv_bipush (v := 120) hx hb dX5_deed_82 (by decide) ?_
        refine lv_icmp_ne (tgt := 196) hx hb dX5_deed_84 (by decide) (fun c49 => ?_) (fun c49 => ?_)
        · have hq := it_neg hq c49
          exact hret _ _ _ _ (v43, v44, v6, r30, r40, 1) dX5_deed_196 (hq.symm.trans hX) hP hD hS
        · have hq := it_pos hq c49
          refine lv_aload_n hx hb dX5_deed_87 rfl (lv_at hl 0 rfl) ?_
          refine lv_dup hx hb dX5_deed_88 rfl ?_
          refine va_get (D := D) (ci := 5) (v := .int v43) (C := RX5) (T := TX5) (N := 16) hx hb hts inA5 hown hK hP 0 rfl rfl 8 (by decide) (hts _ wd_fl_RX5_85) (fun _ h9 => h9) rfl dX5_deed_89 ?_
          refine lv_iconst (v := 1) hx hb dX5_deed_92 (by decide) ?_
          refine lv_iadd hx hb dX5_deed_93 ?_
          refine va_put (D := D) (ci := 5) (v := .int (v43 + 1)) (ty := .int) (C := RX5) (T := TX5) (N := 16) hx hb hts inA5 tyX5 tyX5_ok nmX5 hown hK hP hD hS 0 rfl rfl 8 (by decide) (hts _ wd_fl_RX5_85) (fun _ h9 => h9) rfl (by decide +kernel) rfl rfl (Nat.le_of_ble_eq_true rfl) dX5_deed_94 (fun H locs hP hD hS => ?_)
          have hP : va_P D vwCl (MO cI h0 a sv pa pn sn kp pd ln so (v43 + 1) v44 v6 r30 r40 1 hd st) H := hP
          have hD : va_D A (MO cI h0 a sv pa pn sn kp pd ln so (v43 + 1) v44 v6 r30 r40 1 hd st) := hD
          refine lv_aload_n hx hb dX5_deed_97 rfl (lv_at hl 0 rfl) ?_
          refine lv_aload_n hx hb dX5_deed_98 rfl (lv_at hl 0 rfl) ?_
          refine lv_iconst (v := 2) hx hb dX5_deed_99 (by decide) ?_
          refine lv_bipush (v := 50) hx hb dX5_deed_100 (by decide) ?_
          have hPs := k_self hP
          have hDs := k_selfD hD
          refine k_behi (X := []) (Y := []) (va_runV (As := [.int 2, .int 50]) (rest := [.ref h0]) ⟨hx, hb, hml, hown, hts⟩ (c_X5_number l D cI cC cQ H.size h0 a sv pa pn sn kp pd ln so (v43 + 1) v44 v6 r30 r40 1 hd st 2 50 ((poS_up (poSE1 (number_po (poSE0 (sign_po (poSE1 (digit_po (letter_po hpo hv5 c7 (by decide)).1 (by decide)) hw32).1 (by decide)) hw37).1) hw42).1 (next_in (pd := pd) (lit_ne c49 (by decide)))).1)) (kcwV hts wd_ml_RX5_112 wd_im_yX5_number wd_sel_yX5_number wd_ini_RX5 wd_code_yX5_number rfl rfl rfl hd_X5_number ⟨Nat.le_of_ble_eq_true rfl, Nat.le_of_ble_eq_true rfl⟩) ⟨in_blind, va_recv hK (pa_l (pa_r hPs)) (ci := 5) (q0 := 0) rfl rfl, k_pre hK (pa_l (pa_r hPs)) (da_l (da_r hDs)) hN⟩ rfl rfl hl.1 rfl (lv_room (Nat.le_of_ble_eq_true rfl)) dX5_deed_102 ⟨Nat.le_of_ble_eq_true rfl, Nat.le_of_ble_eq_true rfl⟩) hPs hDs hS hA (fun r50 u51 H locs hw52 hP hD hS => ?_)
          obtain ⟨v53, v54⟩ := u51
          have hP := k_unP hP
          have hD := k_unD hD
          have hP : va_P D vwCl (MO cI h0 a sv pa pn sn kp pd ln so v53 v54 v6 r30 r40 1 hd st) H := hP
          have hD : va_D A (MO cI h0 a sv pa pn sn kp pd ln so v53 v54 v6 r30 r40 1 hd st) := hD
          have hw52 : (r50, v53, v54) = (sh_X5_number pd ln (v43 + 1) v44 2 50) := hw52
          have hq := kb_to hq hw52
          refine va_put (D := D) (ci := 5) (v := .int r50) (ty := .int) (C := RX5) (T := TX5) (N := 16) hx hb hts inA5 tyX5 tyX5_ok nmX5 hown hK hP hD hS 0 rfl rfl 13 (by decide) (hts _ wd_fl_RX5_102) (fun _ h9 => h9) rfl (by decide +kernel) rfl rfl (Nat.le_of_ble_eq_true rfl) dX5_deed_105 (fun H locs hP hD hS => ?_)
          have hP : va_P D vwCl (MO cI h0 a sv pa pn sn kp pd ln so v53 v54 v6 r30 r40 r50 hd st) H := hP
          have hD : va_D A (MO cI h0 a sv pa pn sn kp pd ln so v53 v54 v6 r30 r40 r50 hd st) := hD
          refine lv_goto (tgt := 196) hx hb dX5_deed_108 (by decide) ?_
          exact hret _ _ _ _ (v53, v54, v6, r30, r40, r50) dX5_deed_196 (hq.symm.trans hX) hP hD hS
  refine lv_if_eq (tgt := 12) hx hb dX5_deed_5 (by decide) (fun c1 => ?_) (fun c1 => ?_)
  · skip
    refine lv_aload_n hx hb dX5_deed_12 rfl (lv_at hl 0 rfl) ?_
    have hPs := k_self hP
    have hDs := k_selfD hD
    refine k_behi (X := []) (Y := []) (va_runV (As := []) (rest := [.ref h0]) ⟨hx, hb, hml, hown, hts⟩ (c_X5_next l D cI cC cQ H.size h0 a sv pa pn sn kp pd ln so po wr lt fr sc tm hd st (hpo)) (kcwV hts wd_ml_RX5_92 wd_im_yX5_next wd_sel_yX5_next wd_ini_RX5 wd_code_yX5_next rfl rfl rfl hd_X5_next ⟨Nat.le_of_ble_eq_true rfl, Nat.le_of_ble_eq_true rfl⟩) ⟨in_blind, va_recv hK (pa_l (pa_r hPs)) (ci := 5) (q0 := 0) rfl rfl, k_pre hK (pa_l (pa_r hPs)) (da_l (da_r hDs)) hN⟩ rfl rfl hl.1 rfl (lv_room (Nat.le_of_ble_eq_true rfl)) dX5_deed_13 ⟨Nat.le_of_ble_eq_true rfl, Nat.le_of_ble_eq_true rfl⟩) hPs hDs hS hA (fun r2 u3 H locs hw4 hP hD hS => ?_)
    have hP := k_unP hP
    have hD := k_unD hD
    have hP : va_P D vwCl (MO cI h0 a sv pa pn sn kp pd ln so po wr lt fr sc tm hd st) H := hP
    have hD : va_D A (MO cI h0 a sv pa pn sn kp pd ln so po wr lt fr sc tm hd st) := hD
    have hw4 : r2 = (sh_X5_next pd ln po) := hw4
    subst hw4
    exact K ((sh_X5_next pd ln po)) _ _ _ (by rw [if_pos c1]) hP hD hS (lv_sub hl [0] rfl)
  · skip
    refine lv_iconst (v := 0) hx hb dX5_deed_8 (by decide) ?_
    refine lv_goto (tgt := 16) hx hb dX5_deed_9 (by decide) ?_
    exact K (0) _ _ _ (by rw [if_neg c1]) hP hD hS (lv_sub hl [0] rfl)
set_option maxHeartbeats 400000 in
theorem deed_po {pd : Nat → Int32} {ln : Int32} {po : Int32} {wr : Int32} {fr : Int32} {sc : Int32} (h : poOK po ln) : poS po (sh_X5_deed pd ln po wr fr sc).1 ln := by
  simp only [sh_X5_deed, kb]
  (repeat' split) <;> (try dsimp only) <;> (repeat' first | exact absurd (by with_reducible assumption : (0 : Int32) = 112) (by decide) | exact absurd (by with_reducible assumption : (0 : Int32) = 115) (by decide) | exact absurd (by with_reducible assumption : (0 : Int32) = 109) (by decide) | with_reducible exact letter_po h rfl (by with_reducible assumption) (by decide) | with_reducible exact poS.rfl' h | with_reducible refine poS_number ?_ | with_reducible refine poS_digit ?_ (by decide) | with_reducible refine poS_sign ?_ (by decide) | with_reducible refine poS_x ?_ (by with_reducible assumption) (by decide))
theorem job_mu0 {ln q0 q m v : Int32} {n : Nat} (hs : poS q0 q ln) (hmu : (ln.toInt - q0.toInt).toNat + (if m = 0 then 0 else 1) < n + 1) (hm : ¬ m = 0) (hv : v = 0) : (ln.toInt - q.toInt).toNat + (if v = 0 then 0 else 1) < n := by
  rw [if_neg hm] at hmu
  rw [if_pos hv]
  have := hs.2
  omega
theorem sign_ok {pd : Nat → Int32} {ln po wr x : Int32} (h : (sh_X5_sign pd ln po wr x).2 = 0) : wr = 0 ∧ sh_X5_next pd ln po = x ∧ (sh_X5_sign pd ln po wr x).1 = po + 1 := by
  by_cases a : wr = 0
  · by_cases b : sh_X5_next pd ln po = x
    · refine ⟨a, b, ?_⟩
      simp only [sh_X5_sign, kb, if_pos a, if_pos b]
      rfl
    · simp only [sh_X5_sign, kb, if_pos a, if_neg b] at h
      exact absurd h (by decide)
  · simp only [sh_X5_sign, kb, if_neg a] at h
    exact absurd h (by decide)
theorem job_mu1 {pd : Nat → Int32} {ln q0 q q2 w w2 m v : Int32} {n : Nat} (hs : poS q0 q ln) (hw : (q2, w2) = sh_X5_sign pd ln q w 59) (hmu : (ln.toInt - q0.toInt).toNat + (if m = 0 then 0 else 1) < n + 1) (hm : ¬ m = 0) (hv : v = if w2 = 0 then 1 else 0) : (ln.toInt - q2.toInt).toNat + (if v = 0 then 0 else 1) < n := by
  rw [if_neg hm] at hmu
  have e1 : q2 = (sh_X5_sign pd ln q w 59).1 := by rw [← hw]
  have e2 : w2 = (sh_X5_sign pd ln q w 59).2 := by rw [← hw]
  have h0 := hs.2
  have h1 := sign_po (pd := pd) (wr := w) (x := 59) hs.1 (by decide)
  by_cases c : w2 = 0
  · rw [if_pos c] at hv
    have h2 := sign_ok (e2 ▸ c)
    rw [hv, if_neg (by decide)]
    have q5 : ¬ ln ≤ q := next_in (pd := pd) (lit_ne h2.2.1 (by decide))
    have := k_mu (x := ln) (v := q) (n := (ln.toInt - q.toInt).toNat) (by omega) q5
    rw [e1, h2.2.2]
    omega
  · rw [if_neg c] at hv
    rw [hv, if_pos rfl]
    have := h1.2
    rw [e1]
    omega
def lp_X5_isJob_12 (pd : Nat → Int32) (ln : Int32) : Nat → (Int32) → (Int32) → (Int32) → (Int32) → (Int32) → (Int32) → (Int32) → (Int32 × (Int32) × (Int32) × (Int32) × (Int32) × (Int32) × (Int32))
  | 0, _, _, _, _, _, _, _ => default
  | fu + 1, m1, l_po, l_wr, l_lt, l_fr, l_sc, l_tm => (if m1 = 0 then (if l_wr = 0 then ((1 : Int32), l_po, l_wr, l_lt, l_fr, l_sc, l_tm) else ((0 : Int32), l_po, l_wr, l_lt, l_fr, l_sc, l_tm)) else (kb (sh_X5_deed pd ln l_po l_wr l_fr l_sc) (fun z_v6 => (kb (α := (Int32)) (if z_v6.2.1 = 0 then (if ln ≤ z_v6.1 then 0 else 1) else 0) (fun z_v15 => (if z_v15 = 0 then (lp_X5_isJob_12 pd ln fu z_v15 z_v6.1 z_v6.2.1 z_v6.2.2.1 z_v6.2.2.2.1 z_v6.2.2.2.2.1 z_v6.2.2.2.2.2) else (kb (sh_X5_sign pd ln z_v6.1 z_v6.2.1 59) (fun z_v20 => (kb (α := (Int32)) (if z_v20.2 = 0 then 1 else 0) (fun z_v24 => (lp_X5_isJob_12 pd ln fu z_v24 z_v20.1 z_v20.2 z_v6.2.2.1 z_v6.2.2.2.1 z_v6.2.2.2.2.1 z_v6.2.2.2.2.2)))))))))))
def sh_X5_isJob (pd : Nat → Int32) (ln : Int32) (lt : Int32) (fr : Int32) (sc : Int32) (tm : Int32) : Int32 × (Int32) × (Int32) × (Int32) × (Int32) × (Int32) × (Int32) := (lp_X5_isJob_12 pd ln (((ln.toInt - (0 : Int32).toInt).toNat + (if (1 : Int32) = 0 then 0 else 1)) + 1) 1 0 0 lt fr sc tm)
abbrev rm_X5_isJob : Room := { frames := 4, cells := 0, slots := 0, locals := 89 }
theorem hd_X5_isJob : hdT yX5_isJob 0 := by decide +kernel
set_option maxHeartbeats 40000000 in
set_option maxRecDepth 100000 in
theorem c_X5_isJob (l : Launch) (D : va_G) (cI cC cQ : ClassId) (sz : Nat) (h0 : Nat) (a : Nat → Nat) (sv : Nat → Int32) (pa : Nat → Int32) (pn : Int32) (sn : Nat → Int32) (kp : Int32) (pd : Nat → Int32) (ln : Int32) (so : Nat → Int32) (po : Int32) (wr : Int32) (lt : Int32) (fr : Int32) (sc : Int32) (tm : Int32) (hd : Int32) (st : Int32)  (hln : vp_in ln 61) : Met l yX5_isJob (wsO yX5_isJob cX5_isJob 2 (some .boolean)) rm_X5_isJob (va_Pc [.ref h0] (inW D (TYS cI cC cQ) (MO cI h0 a sv pa pn sn kp pd ln so po wr lt fr sc tm hd st) sz)) (va_Qi (fun (r : Int32) (u : (Int32) × (Int32) × (Int32) × (Int32) × (Int32) × (Int32)) => (r, u) = sh_X5_isJob pd ln lt fr sc tm) (fun (u : (Int32) × (Int32) × (Int32) × (Int32) × (Int32) × (Int32)) => atW D (TYS cI cC cQ) (va_A (MO cI h0 a sv pa pn sn kp pd ln so po wr lt fr sc tm hd st) sz) (MO cI h0 a sv pa pn sn kp pd ln so u.1 u.2.1 u.2.2.1 u.2.2.2.1 u.2.2.2.2.1 u.2.2.2.2.2 hd st)) (va_A (MO cI h0 a sv pa pn sn kp pd ln so po wr lt fr sc tm hd st) sz)) 0 0 (va_A (MO cI h0 a sv pa pn sn kp pd ln so po wr lt fr sc tm hd st) sz) := by
  refine k_meti .boolean rfl (by decide) (Nat.le_of_ble_eq_true rfl) ?_
  intro p e s m args below meth c A ls Q H locs hargs hret hx hb hts hown hml hname hN hA hS hP hK hD hl
  have hl : lv_has ls 2 [(0, .ref h0)] := hl
  obtain ⟨Xq, hX⟩ : ∃ Xq, Xq = sh_X5_isJob pd ln lt fr sc tm := ⟨_, rfl⟩
  have hq : Xq = (lp_X5_isJob_12 pd ln (((ln.toInt - (0 : Int32).toInt).toNat + (if (1 : Int32) = 0 then 0 else 1)) + 1) 1 0 0 lt fr sc tm) := hX
  refine lv_aload_n hx hb dX5_isJob_0 rfl (lv_at hl 0 rfl) ?_
  refine lv_iconst (v := 0) hx hb dX5_isJob_1 (by decide) ?_
  refine va_put (D := D) (ci := 5) (v := .int 0) (ty := .int) (C := RX5) (T := TX5) (N := 16) hx hb hts inA5 tyX5 tyX5_ok nmX5 hown hK hP hD hS 0 rfl rfl 8 (by decide) (hts _ wd_fl_RX5_85) (fun _ h9 => h9) rfl (by decide +kernel) rfl rfl (Nat.le_of_ble_eq_true rfl) dX5_isJob_2 (fun H locs hP hD hS => ?_)
  have hP : va_P D vwCl (MO cI h0 a sv pa pn sn kp pd ln so 0 wr lt fr sc tm hd st) H := hP
  have hD : va_D A (MO cI h0 a sv pa pn sn kp pd ln so 0 wr lt fr sc tm hd st) := hD
  refine lv_aload_n hx hb dX5_isJob_5 rfl (lv_at hl 0 rfl) ?_
  refine lv_iconst (v := 0) hx hb dX5_isJob_6 (by decide) ?_
  refine va_put (D := D) (ci := 5) (v := .int 0) (ty := .boolean) (C := RX5) (T := TX5) (N := 16) hx hb hts inA5 tyX5 tyX5_ok nmX5 hown hK hP hD hS 0 rfl rfl 9 (by decide) (hts _ wd_fl_RX5_88) (fun _ h9 => h9) rfl (by decide +kernel) rfl rfl (Nat.le_of_ble_eq_true rfl) dX5_isJob_7 (fun H locs hP hD hS => ?_)
  have hP : va_P D vwCl (MO cI h0 a sv pa pn sn kp pd ln so 0 0 lt fr sc tm hd st) H := hP
  have hD : va_D A (MO cI h0 a sv pa pn sn kp pd ln so 0 0 lt fr sc tm hd st) := hD
  refine lv_iconst (v := 1) hx hb dX5_isJob_10 (by decide) ?_
  refine lv_istore_n (lv' := [(1, .int 1), (0, .ref h0)]) hx hb dX5_isJob_11 rfl hl (by decide) rfl (fun ls hl => ?_)
  have L12 : ∀ (fu : Nat) (m1 : Int32) (l_po : Int32) (l_wr : Int32) (l_lt : Int32) (l_fr : Int32) (l_sc : Int32) (l_tm : Int32) (H : Heap) (locs : List Loc) (ls : Array Slot), ((ln.toInt - (l_po : Int32).toInt).toNat + (if (m1 : Int32) = 0 then 0 else 1)) < fu → (poOK l_po ln) → Xq = lp_X5_isJob_12 pd ln fu m1 l_po l_wr l_lt l_fr l_sc l_tm → va_P D vwCl (MO cI h0 a sv pa pn sn kp pd ln so l_po l_wr l_lt l_fr l_sc l_tm hd st) H → va_D A (MO cI h0 a sv pa pn sn kp pd ln so l_po l_wr l_lt l_fr l_sc l_tm hd st) → va_S A s.heap H locs → lv_has ls 2 [(1, .int m1), (0, .ref h0)] → W p l e rm_X5_isJob s m args below meth c H locs 0 0 Q (F0 m 12 ls []) := by
    intro fu
    induction fu with
    | zero => intro m1 l_po l_wr l_lt l_fr l_sc l_tm H locs ls hmu; exact absurd hmu (Nat.not_lt_zero _)
    | succ fu ih =>
      intro m1 l_po l_wr l_lt l_fr l_sc l_tm H locs ls hmu hpo1 hq hP hD hS hl
      have hq : Xq = (if m1 = 0 then (if l_wr = 0 then ((1 : Int32), l_po, l_wr, l_lt, l_fr, l_sc, l_tm) else ((0 : Int32), l_po, l_wr, l_lt, l_fr, l_sc, l_tm)) else (kb (sh_X5_deed pd ln l_po l_wr l_fr l_sc) (fun z_v6 => (kb (α := (Int32)) (if z_v6.2.1 = 0 then (if ln ≤ z_v6.1 then 0 else 1) else 0) (fun z_v15 => (if z_v15 = 0 then (lp_X5_isJob_12 pd ln fu z_v15 z_v6.1 z_v6.2.1 z_v6.2.2.1 z_v6.2.2.2.1 z_v6.2.2.2.2.1 z_v6.2.2.2.2.2) else (kb (sh_X5_sign pd ln z_v6.1 z_v6.2.1 59) (fun z_v20 => (kb (α := (Int32)) (if z_v20.2 = 0 then 1 else 0) (fun z_v24 => (lp_X5_isJob_12 pd ln fu z_v24 z_v20.1 z_v20.2 z_v6.2.2.1 z_v6.2.2.2.1 z_v6.2.2.2.2.1 z_v6.2.2.2.2.2))))))))))) := hq
      refine lv_iload_n hx hb dX5_isJob_12 rfl (lv_at hl 0 rfl) ?_
      refine lv_if_eq (tgt := 70) hx hb dX5_isJob_13 (by decide) (fun c1 => ?_) (fun c1 => ?_)
      · have hq := it_pos hq c1
        refine lv_aload_n hx hb dX5_isJob_70 rfl (lv_at hl 1 rfl) ?_
        refine va_get (D := D) (ci := 5) (v := .int l_wr) (C := RX5) (T := TX5) (N := 16) hx hb hts inA5 hown hK hP 0 rfl rfl 9 (by decide) (hts _ wd_fl_RX5_88) (fun _ h9 => h9) rfl dX5_isJob_71 ?_
        refine lv_if_ne (tgt := 81) hx hb dX5_isJob_74 (by decide) (fun c2 => ?_) (fun c2 => ?_)
        · have hq := it_neg hq c2
          refine lv_iconst (v := 0) hx hb dX5_isJob_81 (by decide) ?_
          exact hret _ _ _ _ (0) (l_po, l_wr, l_lt, l_fr, l_sc, l_tm) dX5_isJob_82 rfl (hq.symm.trans hX) hP hD hS
        · have hq := it_pos hq c2
          refine lv_iconst (v := 1) hx hb dX5_isJob_77 (by decide) ?_
          refine lv_goto (tgt := 82) hx hb dX5_isJob_78 (by decide) ?_
          exact hret _ _ _ _ (1) (l_po, l_wr, l_lt, l_fr, l_sc, l_tm) dX5_isJob_82 rfl (hq.symm.trans hX) hP hD hS
      · have hq := it_neg hq c1
        refine lv_aload_n hx hb dX5_isJob_16 rfl (lv_at hl 1 rfl) ?_
        have hPs := k_self hP
        have hDs := k_selfD hD
        refine k_behv (X := []) (Y := []) (va_runV (As := []) (rest := []) ⟨hx, hb, hml, hown, hts⟩ (c_X5_deed l D cI cC cQ H.size h0 a sv pa pn sn kp pd ln so l_po l_wr l_lt l_fr l_sc l_tm hd st (hpo1)) (kcwV hts wd_ml_RX5_118 wd_im_yX5_deed wd_sel_yX5_deed wd_ini_RX5 wd_code_yX5_deed rfl rfl rfl hd_X5_deed ⟨Nat.le_of_ble_eq_true rfl, Nat.le_of_ble_eq_true rfl⟩) ⟨in_blind, va_recv hK (pa_l (pa_r hPs)) (ci := 5) (q0 := 0) rfl rfl, k_pre hK (pa_l (pa_r hPs)) (da_l (da_r hDs)) hN⟩ rfl rfl hl.1 rfl (lv_room (Nat.le_of_ble_eq_true rfl)) dX5_isJob_17 ⟨Nat.le_of_ble_eq_true rfl, Nat.le_of_ble_eq_true rfl⟩) hPs hDs hS hA (fun u4 H locs hw5 hP hD hS => ?_)
        obtain ⟨v6, v7, v8, v9, v10, v11⟩ := u4
        have hP := k_unP hP
        have hD := k_unD hD
        have hP : va_P D vwCl (MO cI h0 a sv pa pn sn kp pd ln so v6 v7 v8 v9 v10 v11 hd st) H := hP
        have hD : va_D A (MO cI h0 a sv pa pn sn kp pd ln so v6 v7 v8 v9 v10 v11 hd st) := hD
        have hw5 : (v6, v7, v8, v9, v10, v11) = (sh_X5_deed pd ln l_po l_wr l_fr l_sc) := hw5
        have hq := kb_to hq hw5
        refine lv_aload_n hx hb dX5_isJob_20 rfl (lv_at hl 1 rfl) ?_
        refine va_get (D := D) (ci := 5) (v := .int v7) (C := RX5) (T := TX5) (N := 16) hx hb hts inA5 hown hK hP 0 rfl rfl 9 (by decide) (hts _ wd_fl_RX5_88) (fun _ h9 => h9) rfl dX5_isJob_21 ?_
        have K : ∀ (v15 : Int32) (H : Heap) (locs : List Loc) (ls : Array Slot), v15 = (if v7 = 0 then (if ln ≤ v6 then 0 else 1) else 0) → va_P D vwCl (MO cI h0 a sv pa pn sn kp pd ln so v6 v7 v8 v9 v10 v11 hd st) H → va_D A (MO cI h0 a sv pa pn sn kp pd ln so v6 v7 v8 v9 v10 v11 hd st) → va_S A s.heap H locs → lv_has ls 2 [(0, .ref h0), (1, .int m1)] → W p l e rm_X5_isJob s m args below meth c H locs 0 0 Q (F0 m 43 ls [.int v15]) := by
          intro v15 H locs ls hv14 hP hD hS hl
          have hq := kb_to hq hv14
          refine lv_istore_n (lv' := [(1, .int v15), (0, .ref h0)]) hx hb dX5_isJob_43 rfl hl (by decide) rfl (fun ls hl => ?_)
          refine lv_iload_n hx hb dX5_isJob_44 rfl (lv_at hl 0 rfl) ?_
          refine lv_if_eq (tgt := 12) hx hb dX5_isJob_45 (by decide) (fun c16 => ?_) (fun c16 => ?_)
          · have hq := it_pos hq c16
            exact ih (v15) (v6) (v7) (v8) (v9) (v10) (v11) _ _ _ (job_mu0 (poSEd (deed_po hpo1) hw5) hmu c1 c16) ((poSEd (deed_po hpo1) hw5).1) hq hP hD hS (lv_sub hl [0, 1] rfl)
          · have hq := it_neg hq c16
            refine lv_aload_n hx hb dX5_isJob_48 rfl (lv_at hl 1 rfl) ?_
            refine lv_bipush (v := 59) hx hb dX5_isJob_49 (by decide) ?_
            have hPs := k_self hP
            have hDs := k_selfD hD
            refine k_behv (X := []) (Y := []) (va_runV (As := [.int 59]) (rest := []) ⟨hx, hb, hml, hown, hts⟩ (c_X5_sign l D cI cC cQ H.size h0 a sv pa pn sn kp pd ln so v6 v7 v8 v9 v10 v11 hd st 59 ((poSEd (deed_po hpo1) hw5).1)) (kcwV hts wd_ml_RX5_108 wd_im_yX5_sign wd_sel_yX5_sign wd_ini_RX5 wd_code_yX5_sign rfl rfl rfl hd_X5_sign ⟨Nat.le_of_ble_eq_true rfl, Nat.le_of_ble_eq_true rfl⟩) ⟨in_blind, va_recv hK (pa_l (pa_r hPs)) (ci := 5) (q0 := 0) rfl rfl, k_pre hK (pa_l (pa_r hPs)) (da_l (da_r hDs)) hN⟩ rfl rfl hl.1 rfl (lv_room (Nat.le_of_ble_eq_true rfl)) dX5_isJob_51 ⟨Nat.le_of_ble_eq_true rfl, Nat.le_of_ble_eq_true rfl⟩) hPs hDs hS hA (fun u18 H locs hw19 hP hD hS => ?_)
            obtain ⟨v20, v21⟩ := u18
            have hP := k_unP hP
            have hD := k_unD hD
            have hP : va_P D vwCl (MO cI h0 a sv pa pn sn kp pd ln so v20 v21 v8 v9 v10 v11 hd st) H := hP
            have hD : va_D A (MO cI h0 a sv pa pn sn kp pd ln so v20 v21 v8 v9 v10 v11 hd st) := hD
            have hw19 : (v20, v21) = (sh_X5_sign pd ln v6 v7 59) := hw19
            have hq := kb_to hq hw19
            refine lv_aload_n hx hb dX5_isJob_54 rfl (lv_at hl 1 rfl) ?_
            refine va_get (D := D) (ci := 5) (v := .int v21) (C := RX5) (T := TX5) (N := 16) hx hb hts inA5 hown hK hP 0 rfl rfl 9 (by decide) (hts _ wd_fl_RX5_88) (fun _ h9 => h9) rfl dX5_isJob_55 ?_
            have K : ∀ (v24 : Int32) (H : Heap) (locs : List Loc) (ls : Array Slot), v24 = (if v21 = 0 then 1 else 0) → va_P D vwCl (MO cI h0 a sv pa pn sn kp pd ln so v20 v21 v8 v9 v10 v11 hd st) H → va_D A (MO cI h0 a sv pa pn sn kp pd ln so v20 v21 v8 v9 v10 v11 hd st) → va_S A s.heap H locs → lv_has ls 2 [(0, .ref h0), (1, .int v15)] → W p l e rm_X5_isJob s m args below meth c H locs 0 0 Q (F0 m 66 ls [.int v24]) := by
              intro v24 H locs ls hv23 hP hD hS hl
              have hq := kb_to hq hv23
              refine lv_istore_n (lv' := [(1, .int v24), (0, .ref h0)]) hx hb dX5_isJob_66 rfl hl (by decide) rfl (fun ls hl => ?_)
              refine lv_goto (tgt := 12) hx hb dX5_isJob_67 (by decide) ?_
              exact ih (v24) (v20) (v21) (v8) (v9) (v10) (v11) _ _ _ (job_mu1 (poSEd (deed_po hpo1) hw5) hw19 hmu c1 hv23) ((poSE0 (sign_po (poSEd (deed_po hpo1) hw5).1 (by decide)) hw19).1) hq hP hD hS (lv_sub hl [0, 1] rfl)
            refine lv_if_ne (tgt := 65) hx hb dX5_isJob_58 (by decide) (fun c22 => ?_) (fun c22 => ?_)
            · skip
              refine lv_iconst (v := 0) hx hb dX5_isJob_65 (by decide) ?_
              exact K (0) _ _ _ (by rw [if_neg c22]) hP hD hS (lv_sub hl [1, 0] rfl)
            · skip
              refine lv_iconst (v := 1) hx hb dX5_isJob_61 (by decide) ?_
              refine lv_goto (tgt := 66) hx hb dX5_isJob_62 (by decide) ?_
              exact K (1) _ _ _ (by rw [if_pos c22]) hP hD hS (lv_sub hl [1, 0] rfl)
        refine lv_if_ne (tgt := 42) hx hb dX5_isJob_24 (by decide) (fun c12 => ?_) (fun c12 => ?_)
        · skip
          refine lv_iconst (v := 0) hx hb dX5_isJob_42 (by decide) ?_
          exact K (0) _ _ _ (by rw [if_neg c12]) hP hD hS (lv_sub hl [1, 0] rfl)
        · skip
          refine lv_aload_n hx hb dX5_isJob_27 rfl (lv_at hl 1 rfl) ?_
          refine va_get (D := D) (ci := 5) (v := .int v6) (C := RX5) (T := TX5) (N := 16) hx hb hts inA5 hown hK hP 0 rfl rfl 8 (by decide) (hts _ wd_fl_RX5_85) (fun _ h9 => h9) rfl dX5_isJob_28 ?_
          refine lv_aload_n hx hb dX5_isJob_31 rfl (lv_at hl 1 rfl) ?_
          refine va_get (D := D) (ci := 5) (v := .int ln) (C := RX5) (T := TX5) (N := 16) hx hb hts inA5 hown hK hP 0 rfl rfl 6 (by decide) (hts _ wd_fl_RX5_82) (fun _ h9 => h9) rfl dX5_isJob_32 ?_
          refine lv_icmp_ge (tgt := 42) hx hb dX5_isJob_35 (by decide) (fun c13 => ?_) (fun c13 => ?_)
          · skip
            refine lv_iconst (v := 0) hx hb dX5_isJob_42 (by decide) ?_
            exact K (0) _ _ _ (by rw [if_pos c12, if_pos c13]) hP hD hS (lv_sub hl [1, 0] rfl)
          · skip
            refine lv_iconst (v := 1) hx hb dX5_isJob_38 (by decide) ?_
            refine lv_goto (tgt := 43) hx hb dX5_isJob_39 (by decide) ?_
            exact K (1) _ _ _ (by rw [if_pos c12, if_neg c13]) hP hD hS (lv_sub hl [1, 0] rfl)
  exact L12 (((ln.toInt - (0 : Int32).toInt).toNat + (if (1 : Int32) = 0 then 0 else 1)) + 1) (1) (0) (0) (lt) (fr) (sc) (tm) _ _ _ (Nat.lt_succ_self _) (⟨k_in (by decide), hln⟩) hq hP hD hS (lv_sub hl [0, 1] rfl)
def sh_X5_fault (pd : Nat → Int32) (ln : Int32) (lt : Int32) (fr : Int32) (sc : Int32) (tm : Int32) : Int32 × (Int32) × (Int32) × (Int32) × (Int32) × (Int32) × (Int32) := (kb (sh_X5_isJob pd ln lt fr sc tm) (fun z_r1 => (if z_r1.1 = 0 then (z_r1.2.1, z_r1.2.1, z_r1.2.2.1, z_r1.2.2.2.1, z_r1.2.2.2.2.1, z_r1.2.2.2.2.2.1, z_r1.2.2.2.2.2.2) else ((-4 : Int32), z_r1.2.1, z_r1.2.2.1, z_r1.2.2.2.1, z_r1.2.2.2.2.1, z_r1.2.2.2.2.2.1, z_r1.2.2.2.2.2.2))))
abbrev rm_X5_fault : Room := { frames := 5, cells := 0, slots := 0, locals := 110 }
theorem hd_X5_fault : hdT yX5_fault 0 := by decide +kernel
set_option maxHeartbeats 40000000 in
set_option maxRecDepth 100000 in
theorem c_X5_fault (l : Launch) (D : va_G) (cI cC cQ : ClassId) (sz : Nat) (h0 : Nat) (a : Nat → Nat) (sv : Nat → Int32) (pa : Nat → Int32) (pn : Int32) (sn : Nat → Int32) (kp : Int32) (pd : Nat → Int32) (ln : Int32) (so : Nat → Int32) (po : Int32) (wr : Int32) (lt : Int32) (fr : Int32) (sc : Int32) (tm : Int32) (hd : Int32) (st : Int32)  (hln : vp_in ln 61) : Met l yX5_fault (wsO yX5_fault cX5_fault 1 (some .int)) rm_X5_fault (va_Pc [.ref h0] (inW D (TYS cI cC cQ) (MO cI h0 a sv pa pn sn kp pd ln so po wr lt fr sc tm hd st) sz)) (va_Qi (fun (r : Int32) (u : (Int32) × (Int32) × (Int32) × (Int32) × (Int32) × (Int32)) => (r, u) = sh_X5_fault pd ln lt fr sc tm) (fun (u : (Int32) × (Int32) × (Int32) × (Int32) × (Int32) × (Int32)) => atW D (TYS cI cC cQ) (va_A (MO cI h0 a sv pa pn sn kp pd ln so po wr lt fr sc tm hd st) sz) (MO cI h0 a sv pa pn sn kp pd ln so u.1 u.2.1 u.2.2.1 u.2.2.2.1 u.2.2.2.2.1 u.2.2.2.2.2 hd st)) (va_A (MO cI h0 a sv pa pn sn kp pd ln so po wr lt fr sc tm hd st) sz)) 0 0 (va_A (MO cI h0 a sv pa pn sn kp pd ln so po wr lt fr sc tm hd st) sz) := by
  refine k_meti .int rfl (by decide) (Nat.le_of_ble_eq_true rfl) ?_
  intro p e s m args below meth c A ls Q H locs hargs hret hx hb hts hown hml hname hN hA hS hP hK hD hl
  have hl : lv_has ls 1 [(0, .ref h0)] := hl
  obtain ⟨Xq, hX⟩ : ∃ Xq, Xq = sh_X5_fault pd ln lt fr sc tm := ⟨_, rfl⟩
  have hq : Xq = (kb (sh_X5_isJob pd ln lt fr sc tm) (fun z_r1 => (if z_r1.1 = 0 then (z_r1.2.1, z_r1.2.1, z_r1.2.2.1, z_r1.2.2.2.1, z_r1.2.2.2.2.1, z_r1.2.2.2.2.2.1, z_r1.2.2.2.2.2.2) else ((-4 : Int32), z_r1.2.1, z_r1.2.2.1, z_r1.2.2.2.1, z_r1.2.2.2.2.1, z_r1.2.2.2.2.2.1, z_r1.2.2.2.2.2.2)))) := hX
  refine lv_aload_n hx hb dX5_fault_0 rfl (lv_at hl 0 rfl) ?_
  have hPs := k_self hP
  have hDs := k_selfD hD
  refine k_behi (X := []) (Y := []) (va_runV (As := []) (rest := []) ⟨hx, hb, hml, hown, hts⟩ (c_X5_isJob l D cI cC cQ H.size h0 a sv pa pn sn kp pd ln so po wr lt fr sc tm hd st (hln)) (kcwV hts wd_ml_RX5_121 wd_im_yX5_isJob wd_sel_yX5_isJob wd_ini_RX5 wd_code_yX5_isJob rfl rfl rfl hd_X5_isJob ⟨Nat.le_of_ble_eq_true rfl, Nat.le_of_ble_eq_true rfl⟩) ⟨in_blind, va_recv hK (pa_l (pa_r hPs)) (ci := 5) (q0 := 0) rfl rfl, k_pre hK (pa_l (pa_r hPs)) (da_l (da_r hDs)) hN⟩ rfl rfl hl.1 rfl (lv_room (Nat.le_of_ble_eq_true rfl)) dX5_fault_1 ⟨Nat.le_of_ble_eq_true rfl, Nat.le_of_ble_eq_true rfl⟩) hPs hDs hS hA (fun r1 u2 H locs hw3 hP hD hS => ?_)
  obtain ⟨v4, v5, v6, v7, v8, v9⟩ := u2
  have hP := k_unP hP
  have hD := k_unD hD
  have hP : va_P D vwCl (MO cI h0 a sv pa pn sn kp pd ln so v4 v5 v6 v7 v8 v9 hd st) H := hP
  have hD : va_D A (MO cI h0 a sv pa pn sn kp pd ln so v4 v5 v6 v7 v8 v9 hd st) := hD
  have hw3 : (r1, v4, v5, v6, v7, v8, v9) = (sh_X5_isJob pd ln lt fr sc tm) := hw3
  have hq := kb_to hq hw3
  refine lv_if_eq (tgt := 12) hx hb dX5_fault_4 (by decide) (fun c10 => ?_) (fun c10 => ?_)
  · have hq := it_pos hq c10
    refine lv_aload_n hx hb dX5_fault_12 rfl (lv_at hl 0 rfl) ?_
    refine va_get (D := D) (ci := 5) (v := .int v4) (C := RX5) (T := TX5) (N := 16) hx hb hts inA5 hown hK hP 0 rfl rfl 8 (by decide) (hts _ wd_fl_RX5_85) (fun _ h9 => h9) rfl dX5_fault_13 ?_
    exact hret _ _ _ _ (v4) (v4, v5, v6, v7, v8, v9) dX5_fault_16 rfl (hq.symm.trans hX) hP hD hS
  · have hq := it_neg hq c10
    refine lv_bipush (v := (-4)) hx hb dX5_fault_7 (by decide) ?_
    refine lv_goto (tgt := 16) hx hb dX5_fault_9 (by decide) ?_
    exact hret _ _ _ _ ((-4)) (v4, v5, v6, v7, v8, v9) dX5_fault_16 rfl (hq.symm.trans hX) hP hD hS
