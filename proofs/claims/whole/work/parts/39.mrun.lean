def lp_X5_run_30 (f14 : Nat → Int32) (v15 : Int32) (pd : Nat → Int32) (ln : Int32) : Nat → (Int32) → (Int32) → (Nat → Int32) → (Nat → Int32) → (Int32) → (Int32) → (Int32) → (Int32) → (Int32) → (Int32) → (Int32 × (Nat → Int32) × (Nat → Int32) × (Int32) × (Int32) × (Nat → Int32) × (Int32) × (Int32) × (Int32) × (Int32) × (Int32) × (Int32))
  | 0, _, _, _, _, _, _, _, _, _, _ => default
  | fu + 1, n1, d2, l_sv, l_so, l_po, l_wr, l_lt, l_fr, l_sc, l_tm => (if (l_so (0 : Int32).toNatClampNeg) = 0 then (if ln ≤ l_po then (n1, l_sv, f14, v15, (0 : Int32), l_so, l_po, l_wr, l_lt, l_fr, l_sc, l_tm) else (kb (sh_X5_deed pd ln l_po l_wr l_fr l_sc) (fun z_v23 => (if z_v23.2.2.1 = 112 then (kb (sh_X5_pages l_sv l_so z_v23.2.2.2.1 z_v23.2.2.2.2.1 z_v23.2.2.2.2.2) (fun z_r39 => (kb (α := Nat → Int32) (upd z_r39.2.2 (1 : Int32).toNatClampNeg d2) (fun z_f44 => (kb (α := Nat → Int32) (upd z_f44 (2 : Int32).toNatClampNeg l_po) (fun z_f46 => (lp_X5_run_30 f14 v15 pd ln fu (n1 + z_r39.1) (d2 + 1) z_r39.2.1 z_f46 (z_v23.1 + 1) z_v23.2.1 z_v23.2.2.1 z_v23.2.2.2.1 z_v23.2.2.2.2.1 z_v23.2.2.2.2.2))))))) else (if z_v23.2.2.1 = 115 then (kb (sh_X5_shakes l_sv z_v23.2.2.2.1) (fun z_r35 => (lp_X5_run_30 f14 v15 pd ln fu n1 (d2 + 1) z_r35.2 l_so (z_v23.1 + 1) z_v23.2.1 z_v23.2.2.1 z_v23.2.2.2.1 z_v23.2.2.2.2.1 z_v23.2.2.2.2.2))) else (kb (sh_X5_moves l_sv z_v23.2.2.2.1 z_v23.2.2.2.2.1) (fun z_r31 => (lp_X5_run_30 f14 v15 pd ln fu n1 (d2 + 1) z_r31.2 l_so (z_v23.1 + 1) z_v23.2.1 z_v23.2.2.1 z_v23.2.2.2.1 z_v23.2.2.2.2.1 z_v23.2.2.2.2.2)))))))) else (n1, l_sv, f14, v15, (0 : Int32), l_so, l_po, l_wr, l_lt, l_fr, l_sc, l_tm))
def sh_X5_run (sv : Nat → Int32) (pa : Nat → Int32) (pn : Int32) (pd : Nat → Int32) (ln : Int32) (so : Nat → Int32) (lt : Int32) (fr : Int32) (sc : Int32) (tm : Int32) : Int32 × (Nat → Int32) × (Nat → Int32) × (Int32) × (Int32) × (Nat → Int32) × (Int32) × (Int32) × (Int32) × (Int32) × (Int32) × (Int32) := (kb (sh_X5_isJob pd ln lt fr sc tm) (fun z_r1 => (if z_r1.1 = 0 then ((-2 : Int32), sv, pa, pn, ln, so, z_r1.2.1, z_r1.2.2.1, z_r1.2.2.2.1, z_r1.2.2.2.2.1, z_r1.2.2.2.2.2.1, z_r1.2.2.2.2.2.2) else (kb (sh_X5_records sv pa pn) (fun z_f14 => (kb (α := Nat → Int32) (upd so (0 : Int32).toNatClampNeg 0) (fun z_f16 => (lp_X5_run_30 z_f14.1 z_f14.2 pd ln ((ln.toInt - (0 : Int32).toInt).toNat + 1) 0 0 sv z_f16 0 z_r1.2.2.1 z_r1.2.2.2.1 z_r1.2.2.2.2.1 z_r1.2.2.2.2.2.1 z_r1.2.2.2.2.2.2))))))))
abbrev rm_X5_run : Room := { frames := 5, cells := 0, slots := 0, locals := 110 }
theorem hd_X5_run : hdT yX5_run 0 := by decide +kernel
set_option maxHeartbeats 40000000 in
set_option maxRecDepth 100000 in
theorem c_X5_run (l : Launch) (D : va_G) (cI cC cQ : ClassId) (sz : Nat) (h0 : Nat) (a : Nat → Nat) (sv : Nat → Int32) (pa : Nat → Int32) (pn : Int32) (sn : Nat → Int32) (kp : Int32) (pd : Nat → Int32) (ln : Int32) (so : Nat → Int32) (po : Int32) (wr : Int32) (lt : Int32) (fr : Int32) (sc : Int32) (tm : Int32) (hd : Int32) (st : Int32)  (hpn0 : vp_in pn 5) (hiv : iv sv) (hpad : padr pd pd ln) : Met l yX5_run (wsO yX5_run cX5_run 5 (some .int)) rm_X5_run (va_Pc [.ref h0] (inW D (TYS cI cC cQ) (MO cI h0 a sv pa pn sn kp pd ln so po wr lt fr sc tm hd st) sz)) (va_Qi (fun (r : Int32) (u : (Nat → Int32) × (Nat → Int32) × (Int32) × (Int32) × (Nat → Int32) × (Int32) × (Int32) × (Int32) × (Int32) × (Int32) × (Int32)) => (r, u) = sh_X5_run sv pa pn pd ln so lt fr sc tm) (fun (u : (Nat → Int32) × (Nat → Int32) × (Int32) × (Int32) × (Nat → Int32) × (Int32) × (Int32) × (Int32) × (Int32) × (Int32) × (Int32)) => atW D (TYS cI cC cQ) (va_A (MO cI h0 a sv pa pn sn kp pd ln so po wr lt fr sc tm hd st) sz) (MO cI h0 a u.1 u.2.1 u.2.2.1 sn kp pd u.2.2.2.1 u.2.2.2.2.1 u.2.2.2.2.2.1 u.2.2.2.2.2.2.1 u.2.2.2.2.2.2.2.1 u.2.2.2.2.2.2.2.2.1 u.2.2.2.2.2.2.2.2.2.1 u.2.2.2.2.2.2.2.2.2.2 hd st)) (va_A (MO cI h0 a sv pa pn sn kp pd ln so po wr lt fr sc tm hd st) sz)) 0 0 (va_A (MO cI h0 a sv pa pn sn kp pd ln so po wr lt fr sc tm hd st) sz) := by
  refine k_meti .int rfl (by decide) (Nat.le_of_ble_eq_true rfl) ?_
  intro p e s m args below meth c A ls Q H locs hargs hret hx hb hts hown hml hname hN hA hS hP hK hD hl
  have hl : lv_has ls 5 [(0, .ref h0)] := hl
  obtain ⟨Xq, hX⟩ : ∃ Xq, Xq = sh_X5_run sv pa pn pd ln so lt fr sc tm := ⟨_, rfl⟩
  have hq : Xq = (kb (sh_X5_isJob pd ln lt fr sc tm) (fun z_r1 => (if z_r1.1 = 0 then ((-2 : Int32), sv, pa, pn, ln, so, z_r1.2.1, z_r1.2.2.1, z_r1.2.2.2.1, z_r1.2.2.2.2.1, z_r1.2.2.2.2.2.1, z_r1.2.2.2.2.2.2) else (kb (sh_X5_records sv pa pn) (fun z_f14 => (kb (α := Nat → Int32) (upd so (0 : Int32).toNatClampNeg 0) (fun z_f16 => (lp_X5_run_30 z_f14.1 z_f14.2 pd ln ((ln.toInt - (0 : Int32).toInt).toNat + 1) 0 0 sv z_f16 0 z_r1.2.2.1 z_r1.2.2.2.1 z_r1.2.2.2.2.1 z_r1.2.2.2.2.2.1 z_r1.2.2.2.2.2.2)))))))) := hX
  refine lv_aload_n hx hb dX5_run_0 rfl (lv_at hl 0 rfl) ?_
  have hPs := k_self hP
  have hDs := k_selfD hD
  refine k_behi (X := []) (Y := []) (va_runV (As := []) (rest := []) ⟨hx, hb, hml, hown, hts⟩ (c_X5_isJob l D cI cC cQ H.size h0 a sv pa pn sn kp pd ln so po wr lt fr sc tm hd st (hpad.1)) (kcwV hts wd_ml_RX5_121 wd_im_yX5_isJob wd_sel_yX5_isJob wd_ini_RX5 wd_code_yX5_isJob rfl rfl rfl hd_X5_isJob ⟨Nat.le_of_ble_eq_true rfl, Nat.le_of_ble_eq_true rfl⟩) ⟨in_blind, va_recv hK (pa_l (pa_r hPs)) (ci := 5) (q0 := 0) rfl rfl, k_pre hK (pa_l (pa_r hPs)) (da_l (da_r hDs)) hN⟩ rfl rfl hl.1 rfl (lv_room (Nat.le_of_ble_eq_true rfl)) dX5_run_1 ⟨Nat.le_of_ble_eq_true rfl, Nat.le_of_ble_eq_true rfl⟩) hPs hDs hS hA (fun r1 u2 H locs hw3 hP hD hS => ?_)
  obtain ⟨v4, v5, v6, v7, v8, v9⟩ := u2
  have hP := k_unP hP
  have hD := k_unD hD
  have hP : va_P D vwCl (MO cI h0 a sv pa pn sn kp pd ln so v4 v5 v6 v7 v8 v9 hd st) H := hP
  have hD : va_D A (MO cI h0 a sv pa pn sn kp pd ln so v4 v5 v6 v7 v8 v9 hd st) := hD
  have hw3 : (r1, v4, v5, v6, v7, v8, v9) = (sh_X5_isJob pd ln lt fr sc tm) := hw3
  have hq := kb_to hq hw3
  refine lv_if_ne (tgt := 10) hx hb dX5_run_4 (by decide) (fun c10 => ?_) (fun c10 => ?_)
  · have hq := it_neg hq c10
    refine lv_aload_n hx hb dX5_run_10 rfl (lv_at hl 0 rfl) ?_
    have hPs := k_self hP
    have hDs := k_selfD hD
    refine k_behv (X := []) (Y := []) (va_runV (As := []) (rest := []) ⟨hx, hb, hml, hown, hts⟩ (c_X5_records l D cI cC cQ H.size h0 a sv pa pn sn kp pd ln so v4 v5 v6 v7 v8 v9 hd st (hpn0)) (kcwV hts wd_ml_RX5_55 wd_im_yX5_records wd_sel_yX5_records wd_ini_RX5 wd_code_yX5_records rfl rfl rfl hd_X5_records ⟨Nat.le_of_ble_eq_true rfl, Nat.le_of_ble_eq_true rfl⟩) ⟨in_blind, va_recv hK (pa_l (pa_r hPs)) (ci := 5) (q0 := 0) rfl rfl, k_pre hK (pa_l (pa_r hPs)) (da_l (da_r hDs)) hN⟩ rfl rfl hl.1 rfl (lv_room (Nat.le_of_ble_eq_true rfl)) dX5_run_11 ⟨Nat.le_of_ble_eq_true rfl, Nat.le_of_ble_eq_true rfl⟩) hPs hDs hS hA (fun u12 H locs hw13 hP hD hS => ?_)
    obtain ⟨f14, v15⟩ := u12
    have hP := k_unP hP
    have hD := k_unD hD
    have hP : va_P D vwCl (MO cI h0 a sv f14 v15 sn kp pd ln so v4 v5 v6 v7 v8 v9 hd st) H := hP
    have hD : va_D A (MO cI h0 a sv f14 v15 sn kp pd ln so v4 v5 v6 v7 v8 v9 hd st) := hD
    have hw13 : (f14, v15) = (sh_X5_records sv pa pn) := hw13
    have hq := kb_to hq hw13
    refine lv_iconst (v := 0) hx hb dX5_run_14 (by decide) ?_
    refine lv_istore_n (lv' := [(1, .int 0), (0, .ref h0)]) hx hb dX5_run_15 rfl hl (by decide) rfl (fun ls hl => ?_)
    refine lv_iconst (v := 0) hx hb dX5_run_16 (by decide) ?_
    refine lv_istore_n (lv' := [(2, .int 0), (1, .int 0), (0, .ref h0)]) hx hb dX5_run_17 rfl hl (by decide) rfl (fun ls hl => ?_)
    refine lv_aload_n hx hb dX5_run_18 rfl (lv_at hl 2 rfl) ?_
    refine lv_iconst (v := 0) hx hb dX5_run_19 (by decide) ?_
    refine va_put (D := D) (ci := 5) (v := .int 0) (ty := .int) (C := RX5) (T := TX5) (N := 16) hx hb hts inA5 tyX5 tyX5_ok nmX5 hown hK hP hD hS 0 rfl rfl 8 (by decide) (hts _ wd_fl_RX5_85) (fun _ h9 => h9) rfl (by decide +kernel) rfl rfl (Nat.le_of_ble_eq_true rfl) dX5_run_20 (fun H locs hP hD hS => ?_)
    have hP : va_P D vwCl (MO cI h0 a sv f14 v15 sn kp pd ln so 0 v5 v6 v7 v8 v9 hd st) H := hP
    have hD : va_D A (MO cI h0 a sv f14 v15 sn kp pd ln so 0 v5 v6 v7 v8 v9 hd st) := hD
    refine lv_aload_n hx hb dX5_run_23 rfl (lv_at hl 2 rfl) ?_
    refine va_get (D := D) (ci := 5) (v := .ref (a 4)) (C := RX5) (T := TX5) (N := 16) hx hb hts inA5 hown hK hP 0 rfl rfl 7 (by decide) (hts _ wd_fl_RX5_22) (fun _ h9 => h9) rfl dX5_run_24 ?_
    refine lv_iconst (v := 0) hx hb dX5_run_27 (by decide) ?_
    refine lv_iconst (v := 0) hx hb dX5_run_28 (by decide) ?_
    refine va_iast hx hb hK hP hD hS 5 0 rfl rfl (k_in (by decide)) dX5_run_29 (fun H locs hP hD hS => ?_)
    have hP : va_P D vwCl (MO cI h0 a sv f14 v15 sn kp pd ln (upd so (0 : Int32).toNatClampNeg 0) 0 v5 v6 v7 v8 v9 hd st) H := hP
    have hD : va_D A (MO cI h0 a sv f14 v15 sn kp pd ln (upd so (0 : Int32).toNatClampNeg 0) 0 v5 v6 v7 v8 v9 hd st) := hD
    obtain ⟨f16, hf17⟩ : ∃ z : Nat → Int32, z = (upd so (0 : Int32).toNatClampNeg 0) := ⟨_, rfl⟩
    have hP : va_P D vwCl (MO cI h0 a sv f14 v15 sn kp pd ln f16 0 v5 v6 v7 v8 v9 hd st) H := by rw [hf17]; exact hP
    have hD : va_D A (MO cI h0 a sv f14 v15 sn kp pd ln f16 0 v5 v6 v7 v8 v9 hd st) := by rw [hf17]; exact hD
    have hq := kb_to hq hf17
    have L30 : ∀ (fu : Nat) (n1 : Int32) (d2 : Int32) (l_sv : Nat → Int32) (l_so : Nat → Int32) (l_po : Int32) (l_wr : Int32) (l_lt : Int32) (l_fr : Int32) (l_sc : Int32) (l_tm : Int32) (H : Heap) (locs : List Loc) (ls : Array Slot), (ln.toInt - (l_po : Int32).toInt).toNat < fu → (iv l_sv) → (goodP pd ln l_po l_wr) → Xq = lp_X5_run_30 f14 v15 pd ln fu n1 d2 l_sv l_so l_po l_wr l_lt l_fr l_sc l_tm → va_P D vwCl (MO cI h0 a l_sv f14 v15 sn kp pd ln l_so l_po l_wr l_lt l_fr l_sc l_tm hd st) H → va_D A (MO cI h0 a l_sv f14 v15 sn kp pd ln l_so l_po l_wr l_lt l_fr l_sc l_tm hd st) → va_S A s.heap H locs → lv_has ls 5 [(2, .int d2), (1, .int n1), (0, .ref h0)] → W p l e rm_X5_run s m args below meth c H locs 0 0 Q (F0 m 30 ls []) := by
      intro fu
      induction fu with
      | zero => intro n1 d2 l_sv l_so l_po l_wr l_lt l_fr l_sc l_tm H locs ls hmu; exact absurd hmu (Nat.not_lt_zero _)
      | succ fu ih =>
        intro n1 d2 l_sv l_so l_po l_wr l_lt l_fr l_sc l_tm H locs ls hmu hiv1 hg hq hP hD hS hl
        have hq : Xq = (if (l_so (0 : Int32).toNatClampNeg) = 0 then (if ln ≤ l_po then (n1, l_sv, f14, v15, (0 : Int32), l_so, l_po, l_wr, l_lt, l_fr, l_sc, l_tm) else (kb (sh_X5_deed pd ln l_po l_wr l_fr l_sc) (fun z_v23 => (if z_v23.2.2.1 = 112 then (kb (sh_X5_pages l_sv l_so z_v23.2.2.2.1 z_v23.2.2.2.2.1 z_v23.2.2.2.2.2) (fun z_r39 => (kb (α := Nat → Int32) (upd z_r39.2.2 (1 : Int32).toNatClampNeg d2) (fun z_f44 => (kb (α := Nat → Int32) (upd z_f44 (2 : Int32).toNatClampNeg l_po) (fun z_f46 => (lp_X5_run_30 f14 v15 pd ln fu (n1 + z_r39.1) (d2 + 1) z_r39.2.1 z_f46 (z_v23.1 + 1) z_v23.2.1 z_v23.2.2.1 z_v23.2.2.2.1 z_v23.2.2.2.2.1 z_v23.2.2.2.2.2))))))) else (if z_v23.2.2.1 = 115 then (kb (sh_X5_shakes l_sv z_v23.2.2.2.1) (fun z_r35 => (lp_X5_run_30 f14 v15 pd ln fu n1 (d2 + 1) z_r35.2 l_so (z_v23.1 + 1) z_v23.2.1 z_v23.2.2.1 z_v23.2.2.2.1 z_v23.2.2.2.2.1 z_v23.2.2.2.2.2))) else (kb (sh_X5_moves l_sv z_v23.2.2.2.1 z_v23.2.2.2.2.1) (fun z_r31 => (lp_X5_run_30 f14 v15 pd ln fu n1 (d2 + 1) z_r31.2 l_so (z_v23.1 + 1) z_v23.2.1 z_v23.2.2.1 z_v23.2.2.2.1 z_v23.2.2.2.2.1 z_v23.2.2.2.2.2)))))))) else (n1, l_sv, f14, v15, (0 : Int32), l_so, l_po, l_wr, l_lt, l_fr, l_sc, l_tm)) := hq
        refine lv_aload_n hx hb dX5_run_30 rfl (lv_at hl 2 rfl) ?_
        refine va_get (D := D) (ci := 5) (v := .ref (a 4)) (C := RX5) (T := TX5) (N := 16) hx hb hts inA5 hown hK hP 0 rfl rfl 7 (by decide) (hts _ wd_fl_RX5_22) (fun _ h9 => h9) rfl dX5_run_31 ?_
        refine lv_iconst (v := 0) hx hb dX5_run_34 (by decide) ?_
        refine va_iald hx hb hK hP 5 0 rfl rfl (k_in (by decide)) dX5_run_35 ?_
        refine lv_if_ne (tgt := 142) hx hb dX5_run_36 (by decide) (fun c18 => ?_) (fun c18 => ?_)
        · have hq := it_neg hq c18
          refine lv_aload_n hx hb dX5_run_142 rfl (lv_at hl 2 rfl) ?_
          refine lv_iconst (v := 0) hx hb dX5_run_143 (by decide) ?_
          refine va_put (D := D) (ci := 5) (v := .int 0) (ty := .int) (C := RX5) (T := TX5) (N := 16) hx hb hts inA5 tyX5 tyX5_ok nmX5 hown hK hP hD hS 0 rfl rfl 6 (by decide) (hts _ wd_fl_RX5_82) (fun _ h9 => h9) rfl (by decide +kernel) rfl rfl (Nat.le_of_ble_eq_true rfl) dX5_run_144 (fun H locs hP hD hS => ?_)
          have hP : va_P D vwCl (MO cI h0 a l_sv f14 v15 sn kp pd 0 l_so l_po l_wr l_lt l_fr l_sc l_tm hd st) H := hP
          have hD : va_D A (MO cI h0 a l_sv f14 v15 sn kp pd 0 l_so l_po l_wr l_lt l_fr l_sc l_tm hd st) := hD
          refine lv_iload_n hx hb dX5_run_147 rfl (lv_at hl 1 rfl) ?_
          exact hret _ _ _ _ (n1) (l_sv, f14, v15, 0, l_so, l_po, l_wr, l_lt, l_fr, l_sc, l_tm) dX5_run_148 rfl (hq.symm.trans hX) hP hD hS
        · have hq := it_pos hq c18
          refine lv_aload_n hx hb dX5_run_39 rfl (lv_at hl 2 rfl) ?_
          refine va_get (D := D) (ci := 5) (v := .int l_po) (C := RX5) (T := TX5) (N := 16) hx hb hts inA5 hown hK hP 0 rfl rfl 8 (by decide) (hts _ wd_fl_RX5_85) (fun _ h9 => h9) rfl dX5_run_40 ?_
          refine lv_aload_n hx hb dX5_run_43 rfl (lv_at hl 2 rfl) ?_
          refine va_get (D := D) (ci := 5) (v := .int ln) (C := RX5) (T := TX5) (N := 16) hx hb hts inA5 hown hK hP 0 rfl rfl 6 (by decide) (hts _ wd_fl_RX5_82) (fun _ h9 => h9) rfl dX5_run_44 ?_
          refine lv_icmp_ge (tgt := 142) hx hb dX5_run_47 (by decide) (fun c19 => ?_) (fun c19 => ?_)
          · have hq := it_pos hq c19
            refine lv_aload_n hx hb dX5_run_142 rfl (lv_at hl 2 rfl) ?_
            refine lv_iconst (v := 0) hx hb dX5_run_143 (by decide) ?_
            refine va_put (D := D) (ci := 5) (v := .int 0) (ty := .int) (C := RX5) (T := TX5) (N := 16) hx hb hts inA5 tyX5 tyX5_ok nmX5 hown hK hP hD hS 0 rfl rfl 6 (by decide) (hts _ wd_fl_RX5_82) (fun _ h9 => h9) rfl (by decide +kernel) rfl rfl (Nat.le_of_ble_eq_true rfl) dX5_run_144 (fun H locs hP hD hS => ?_)
            have hP : va_P D vwCl (MO cI h0 a l_sv f14 v15 sn kp pd 0 l_so l_po l_wr l_lt l_fr l_sc l_tm hd st) H := hP
            have hD : va_D A (MO cI h0 a l_sv f14 v15 sn kp pd 0 l_so l_po l_wr l_lt l_fr l_sc l_tm hd st) := hD
            refine lv_iload_n hx hb dX5_run_147 rfl (lv_at hl 1 rfl) ?_
            exact hret _ _ _ _ (n1) (l_sv, f14, v15, 0, l_so, l_po, l_wr, l_lt, l_fr, l_sc, l_tm) dX5_run_148 rfl (hq.symm.trans hX) hP hD hS
          · have hq := it_neg hq c19
            refine lv_aload_n hx hb dX5_run_50 rfl (lv_at hl 2 rfl) ?_
            refine va_get (D := D) (ci := 5) (v := .int l_po) (C := RX5) (T := TX5) (N := 16) hx hb hts inA5 hown hK hP 0 rfl rfl 8 (by decide) (hts _ wd_fl_RX5_85) (fun _ h9 => h9) rfl dX5_run_51 ?_
            refine lv_istore_n (lv' := [(3, .int l_po), (2, .int d2), (1, .int n1), (0, .ref h0)]) hx hb dX5_run_54 rfl hl (by decide) rfl (fun ls hl => ?_)
            refine lv_aload_n hx hb dX5_run_55 rfl (lv_at hl 3 rfl) ?_
            have hPs := k_self hP
            have hDs := k_selfD hD
            refine k_behv (X := []) (Y := []) (va_runV (As := []) (rest := []) ⟨hx, hb, hml, hown, hts⟩ (c_X5_deed l D cI cC cQ H.size h0 a l_sv f14 v15 sn kp pd ln l_so l_po l_wr l_lt l_fr l_sc l_tm hd st ((goodP_po hpad hg c19))) (kcwV hts wd_ml_RX5_118 wd_im_yX5_deed wd_sel_yX5_deed wd_ini_RX5 wd_code_yX5_deed rfl rfl rfl hd_X5_deed ⟨Nat.le_of_ble_eq_true rfl, Nat.le_of_ble_eq_true rfl⟩) ⟨in_blind, va_recv hK (pa_l (pa_r hPs)) (ci := 5) (q0 := 0) rfl rfl, k_pre hK (pa_l (pa_r hPs)) (da_l (da_r hDs)) hN⟩ rfl rfl hl.1 rfl (lv_room (Nat.le_of_ble_eq_true rfl)) dX5_run_56 ⟨Nat.le_of_ble_eq_true rfl, Nat.le_of_ble_eq_true rfl⟩) hPs hDs hS hA (fun u21 H locs hw22 hP hD hS => ?_)
            obtain ⟨v23, v24, v25, v26, v27, v28⟩ := u21
            have hP := k_unP hP
            have hD := k_unD hD
            have hP : va_P D vwCl (MO cI h0 a l_sv f14 v15 sn kp pd ln l_so v23 v24 v25 v26 v27 v28 hd st) H := hP
            have hD : va_D A (MO cI h0 a l_sv f14 v15 sn kp pd ln l_so v23 v24 v25 v26 v27 v28 hd st) := hD
            have hw22 : (v23, v24, v25, v26, v27, v28) = (sh_X5_deed pd ln l_po l_wr l_fr l_sc) := hw22
            have hq := kb_to hq hw22
            refine lv_aload_n hx hb dX5_run_59 rfl (lv_at hl 3 rfl) ?_
            refine lv_dup hx hb dX5_run_60 rfl ?_
            refine va_get (D := D) (ci := 5) (v := .int v23) (C := RX5) (T := TX5) (N := 16) hx hb hts inA5 hown hK hP 0 rfl rfl 8 (by decide) (hts _ wd_fl_RX5_85) (fun _ h9 => h9) rfl dX5_run_61 ?_
            refine lv_iconst (v := 1) hx hb dX5_run_64 (by decide) ?_
            refine lv_iadd hx hb dX5_run_65 ?_
            refine va_put (D := D) (ci := 5) (v := .int (v23 + 1)) (ty := .int) (C := RX5) (T := TX5) (N := 16) hx hb hts inA5 tyX5 tyX5_ok nmX5 hown hK hP hD hS 0 rfl rfl 8 (by decide) (hts _ wd_fl_RX5_85) (fun _ h9 => h9) rfl (by decide +kernel) rfl rfl (Nat.le_of_ble_eq_true rfl) dX5_run_66 (fun H locs hP hD hS => ?_)
            have hP : va_P D vwCl (MO cI h0 a l_sv f14 v15 sn kp pd ln l_so (v23 + 1) v24 v25 v26 v27 v28 hd st) H := hP
            have hD : va_D A (MO cI h0 a l_sv f14 v15 sn kp pd ln l_so (v23 + 1) v24 v25 v26 v27 v28 hd st) := hD
            refine lv_aload_n hx hb dX5_run_69 rfl (lv_at hl 3 rfl) ?_
            refine va_get (D := D) (ci := 5) (v := .int v25) (C := RX5) (T := TX5) (N := 16) hx hb hts inA5 hown hK hP 0 rfl rfl 10 (by decide) (hts _ wd_fl_RX5_99) (fun _ h9 => h9) rfl dX5_run_70 ?_
            refine lv_bipush (v := 112) hx hb dX5_run_73 (by decide) ?_
            refine lv_icmp_ne (tgt := 102) hx hb dX5_run_75 (by decide) (fun c29 => ?_) (fun c29 => ?_)
            · have hq := it_neg hq c29
              refine lv_aload_n hx hb dX5_run_102 rfl (lv_at hl 3 rfl) ?_
              refine va_get (D := D) (ci := 5) (v := .int v25) (C := RX5) (T := TX5) (N := 16) hx hb hts inA5 hown hK hP 0 rfl rfl 10 (by decide) (hts _ wd_fl_RX5_99) (fun _ h9 => h9) rfl dX5_run_103 ?_
              refine lv_bipush (v := 115) hx hb dX5_run_106 (by decide) ?_
              refine lv_icmp_ne (tgt := 122) hx hb dX5_run_108 (by decide) (fun c30 => ?_) (fun c30 => ?_)
              · have hq := it_neg hq c30
                refine lv_aload_n hx hb dX5_run_122 rfl (lv_at hl 3 rfl) ?_
                refine lv_aload_n hx hb dX5_run_123 rfl (lv_at hl 3 rfl) ?_
                refine va_get (D := D) (ci := 5) (v := .int v26) (C := RX5) (T := TX5) (N := 16) hx hb hts inA5 hown hK hP 0 rfl rfl 11 (by decide) (hts _ wd_fl_RX5_105) (fun _ h9 => h9) rfl dX5_run_124 ?_
                refine lv_aload_n hx hb dX5_run_127 rfl (lv_at hl 3 rfl) ?_
                refine va_get (D := D) (ci := 5) (v := .int v27) (C := RX5) (T := TX5) (N := 16) hx hb hts inA5 hown hK hP 0 rfl rfl 12 (by decide) (hts _ wd_fl_RX5_115) (fun _ h9 => h9) rfl dX5_run_128 ?_
                have hPs := k_self hP
                have hDs := k_selfD hD
                refine k_behi (X := []) (Y := []) (va_runV (As := [.int v26, .int v27]) (rest := []) ⟨hx, hb, hml, hown, hts⟩ (c_X5_moves l D cI cC cQ H.size h0 a l_sv f14 v15 sn kp pd ln l_so (v23 + 1) v24 v25 v26 v27 v28 hd st v26 v27 (((goodP_deed hpad hg c19 hw22).2.2.2 c29 c30).2) (hiv1)) (kcwV hts wd_ml_RX5_73 wd_im_yX5_moves wd_sel_yX5_moves wd_ini_RX5 wd_code_yX5_moves rfl rfl rfl hd_X5_moves ⟨Nat.le_of_ble_eq_true rfl, Nat.le_of_ble_eq_true rfl⟩) ⟨in_blind, va_recv hK (pa_l (pa_r hPs)) (ci := 5) (q0 := 0) rfl rfl, k_pre hK (pa_l (pa_r hPs)) (da_l (da_r hDs)) hN⟩ rfl rfl hl.1 rfl (lv_room (Nat.le_of_ble_eq_true rfl)) dX5_run_131 ⟨Nat.le_of_ble_eq_true rfl, Nat.le_of_ble_eq_true rfl⟩) hPs hDs hS hA (fun r31 u32 H locs hw33 hP hD hS => ?_)
                obtain ⟨f34, rfl⟩ : ∃ z, z = u32 := ⟨_, rfl⟩
                have hP := k_unP hP
                have hD := k_unD hD
                have hP : va_P D vwCl (MO cI h0 a f34 f14 v15 sn kp pd ln l_so (v23 + 1) v24 v25 v26 v27 v28 hd st) H := hP
                have hD : va_D A (MO cI h0 a f34 f14 v15 sn kp pd ln l_so (v23 + 1) v24 v25 v26 v27 v28 hd st) := hD
                have hw33 : (r31, f34) = (sh_X5_moves l_sv v26 v27) := hw33
                have hq := kb_to hq hw33
                refine lv_istore (lv' := [(4, .int r31), (3, .int l_po), (2, .int d2), (1, .int n1), (0, .ref h0)]) hx hb dX5_run_134 hl (by decide) rfl (fun ls hl => ?_)
                refine lv_iinc (v := (d2 + 1)) (lv' := [(2, .int (d2 + 1)), (4, .int r31), (3, .int l_po), (1, .int n1), (0, .ref h0)]) hx hb dX5_run_136 hl (k := 2) rfl rfl (by decide) rfl (fun ls hl => ?_)
                refine lv_goto (tgt := 30) hx hb dX5_run_139 (by decide) ?_
                exact ih (n1) ((d2 + 1)) (f34) (l_so) ((v23 + 1)) (v24) (v25) (v26) (v27) (v28) _ _ _ (run_mu hmu c19 (poSEd (deed_po (goodP_po hpad hg c19)) hw22)) ((snd_iv (iv_moves hiv1 ((goodP_deed hpad hg c19 hw22).2.2.2 c29 c30).1 ((goodP_deed hpad hg c19 hw22).2.2.2 c29 c30).2) hw33)) ((goodP_deed hpad hg c19 hw22).1) hq hP hD hS (lv_sub hl [0, 3, 4] rfl)
              · have hq := it_pos hq c30
                refine lv_aload_n hx hb dX5_run_111 rfl (lv_at hl 3 rfl) ?_
                refine lv_aload_n hx hb dX5_run_112 rfl (lv_at hl 3 rfl) ?_
                refine va_get (D := D) (ci := 5) (v := .int v26) (C := RX5) (T := TX5) (N := 16) hx hb hts inA5 hown hK hP 0 rfl rfl 11 (by decide) (hts _ wd_fl_RX5_105) (fun _ h9 => h9) rfl dX5_run_113 ?_
                have hPs := k_self hP
                have hDs := k_selfD hD
                refine k_behi (X := []) (Y := []) (va_runV (As := [.int v26]) (rest := []) ⟨hx, hb, hml, hown, hts⟩ (c_X5_shakes l D cI cC cQ H.size h0 a l_sv f14 v15 sn kp pd ln l_so (v23 + 1) v24 v25 v26 v27 v28 hd st v26 (((goodP_deed hpad hg c19 hw22).2.2.1 c29 c30))) (kcwV hts wd_ml_RX5_64 wd_im_yX5_shakes wd_sel_yX5_shakes wd_ini_RX5 wd_code_yX5_shakes rfl rfl rfl hd_X5_shakes ⟨Nat.le_of_ble_eq_true rfl, Nat.le_of_ble_eq_true rfl⟩) ⟨in_blind, va_recv hK (pa_l (pa_r hPs)) (ci := 5) (q0 := 0) rfl rfl, k_pre hK (pa_l (pa_r hPs)) (da_l (da_r hDs)) hN⟩ rfl rfl hl.1 rfl (lv_room (Nat.le_of_ble_eq_true rfl)) dX5_run_116 ⟨Nat.le_of_ble_eq_true rfl, Nat.le_of_ble_eq_true rfl⟩) hPs hDs hS hA (fun r35 u36 H locs hw37 hP hD hS => ?_)
                obtain ⟨f38, rfl⟩ : ∃ z, z = u36 := ⟨_, rfl⟩
                have hP := k_unP hP
                have hD := k_unD hD
                have hP : va_P D vwCl (MO cI h0 a f38 f14 v15 sn kp pd ln l_so (v23 + 1) v24 v25 v26 v27 v28 hd st) H := hP
                have hD : va_D A (MO cI h0 a f38 f14 v15 sn kp pd ln l_so (v23 + 1) v24 v25 v26 v27 v28 hd st) := hD
                have hw37 : (r35, f38) = (sh_X5_shakes l_sv v26) := hw37
                have hq := kb_to hq hw37
                refine lv_goto (tgt := 134) hx hb dX5_run_119 (by decide) ?_
                refine lv_istore (lv' := [(4, .int r35), (3, .int l_po), (2, .int d2), (1, .int n1), (0, .ref h0)]) hx hb dX5_run_134 hl (by decide) rfl (fun ls hl => ?_)
                refine lv_iinc (v := (d2 + 1)) (lv' := [(2, .int (d2 + 1)), (4, .int r35), (3, .int l_po), (1, .int n1), (0, .ref h0)]) hx hb dX5_run_136 hl (k := 2) rfl rfl (by decide) rfl (fun ls hl => ?_)
                refine lv_goto (tgt := 30) hx hb dX5_run_139 (by decide) ?_
                exact ih (n1) ((d2 + 1)) (f38) (l_so) ((v23 + 1)) (v24) (v25) (v26) (v27) (v28) _ _ _ (run_mu hmu c19 (poSEd (deed_po (goodP_po hpad hg c19)) hw22)) ((snd_iv (iv_shakes hiv1 ((goodP_deed hpad hg c19 hw22).2.2.1 c29 c30)) hw37)) ((goodP_deed hpad hg c19 hw22).1) hq hP hD hS (lv_sub hl [0, 3, 4] rfl)
            · have hq := it_pos hq c29
              refine lv_iload_n hx hb dX5_run_78 rfl (lv_at hl 2 rfl) ?_
              refine lv_aload_n hx hb dX5_run_79 rfl (lv_at hl 3 rfl) ?_
              have hPs := k_self hP
              have hDs := k_selfD hD
              refine k_behi (X := []) (Y := []) (va_runV (As := []) (rest := [.int n1]) ⟨hx, hb, hml, hown, hts⟩ (c_X5_pages l D cI cC cQ H.size h0 a l_sv f14 v15 sn kp pd ln l_so (v23 + 1) v24 v25 v26 v27 v28 hd st (hiv1) (((goodP_deed hpad hg c19 hw22).2.1 c29).1) (((goodP_deed hpad hg c19 hw22).2.1 c29).2)) (kcwV hts wd_ml_RX5_125 wd_im_yX5_pages wd_sel_yX5_pages wd_ini_RX5 wd_code_yX5_pages rfl rfl rfl hd_X5_pages ⟨Nat.le_of_ble_eq_true rfl, Nat.le_of_ble_eq_true rfl⟩) ⟨in_blind, va_recv hK (pa_l (pa_r hPs)) (ci := 5) (q0 := 0) rfl rfl, k_pre hK (pa_l (pa_r hPs)) (da_l (da_r hDs)) hN⟩ rfl rfl hl.1 rfl (lv_room (Nat.le_of_ble_eq_true rfl)) dX5_run_80 ⟨Nat.le_of_ble_eq_true rfl, Nat.le_of_ble_eq_true rfl⟩) hPs hDs hS hA (fun r39 u40 H locs hw41 hP hD hS => ?_)
              obtain ⟨f42, f43⟩ := u40
              have hP := k_unP hP
              have hD := k_unD hD
              have hP : va_P D vwCl (MO cI h0 a f42 f14 v15 sn kp pd ln f43 (v23 + 1) v24 v25 v26 v27 v28 hd st) H := hP
              have hD : va_D A (MO cI h0 a f42 f14 v15 sn kp pd ln f43 (v23 + 1) v24 v25 v26 v27 v28 hd st) := hD
              have hw41 : (r39, f42, f43) = (sh_X5_pages l_sv l_so v26 v27 v28) := hw41
              have hq := kb_to hq hw41
              refine lv_iadd hx hb dX5_run_83 ?_
              refine lv_istore_n (lv' := [(1, .int (n1 + r39)), (3, .int l_po), (2, .int d2), (0, .ref h0)]) hx hb dX5_run_84 rfl hl (by decide) rfl (fun ls hl => ?_)
              refine lv_aload_n hx hb dX5_run_85 rfl (lv_at hl 3 rfl) ?_
              refine va_get (D := D) (ci := 5) (v := .ref (a 4)) (C := RX5) (T := TX5) (N := 16) hx hb hts inA5 hown hK hP 0 rfl rfl 7 (by decide) (hts _ wd_fl_RX5_22) (fun _ h9 => h9) rfl dX5_run_86 ?_
              refine lv_iconst (v := 1) hx hb dX5_run_89 (by decide) ?_
              refine lv_iload_n hx hb dX5_run_90 rfl (lv_at hl 2 rfl) ?_
              refine va_iast hx hb hK hP hD hS 5 0 rfl rfl (k_in (by decide)) dX5_run_91 (fun H locs hP hD hS => ?_)
              have hP : va_P D vwCl (MO cI h0 a f42 f14 v15 sn kp pd ln (upd f43 (1 : Int32).toNatClampNeg d2) (v23 + 1) v24 v25 v26 v27 v28 hd st) H := hP
              have hD : va_D A (MO cI h0 a f42 f14 v15 sn kp pd ln (upd f43 (1 : Int32).toNatClampNeg d2) (v23 + 1) v24 v25 v26 v27 v28 hd st) := hD
              obtain ⟨f44, hf45⟩ : ∃ z : Nat → Int32, z = (upd f43 (1 : Int32).toNatClampNeg d2) := ⟨_, rfl⟩
              have hP : va_P D vwCl (MO cI h0 a f42 f14 v15 sn kp pd ln f44 (v23 + 1) v24 v25 v26 v27 v28 hd st) H := by rw [hf45]; exact hP
              have hD : va_D A (MO cI h0 a f42 f14 v15 sn kp pd ln f44 (v23 + 1) v24 v25 v26 v27 v28 hd st) := by rw [hf45]; exact hD
              have hq := kb_to hq hf45
              refine lv_aload_n hx hb dX5_run_92 rfl (lv_at hl 3 rfl) ?_
              refine va_get (D := D) (ci := 5) (v := .ref (a 4)) (C := RX5) (T := TX5) (N := 16) hx hb hts inA5 hown hK hP 0 rfl rfl 7 (by decide) (hts _ wd_fl_RX5_22) (fun _ h9 => h9) rfl dX5_run_93 ?_
              refine lv_iconst (v := 2) hx hb dX5_run_96 (by decide) ?_
              refine lv_iload_n hx hb dX5_run_97 rfl (lv_at hl 1 rfl) ?_
              refine va_iast hx hb hK hP hD hS 5 0 rfl rfl (k_in (by decide)) dX5_run_98 (fun H locs hP hD hS => ?_)
              have hP : va_P D vwCl (MO cI h0 a f42 f14 v15 sn kp pd ln (upd f44 (2 : Int32).toNatClampNeg l_po) (v23 + 1) v24 v25 v26 v27 v28 hd st) H := hP
              have hD : va_D A (MO cI h0 a f42 f14 v15 sn kp pd ln (upd f44 (2 : Int32).toNatClampNeg l_po) (v23 + 1) v24 v25 v26 v27 v28 hd st) := hD
              obtain ⟨f46, hf47⟩ : ∃ z : Nat → Int32, z = (upd f44 (2 : Int32).toNatClampNeg l_po) := ⟨_, rfl⟩
              have hP : va_P D vwCl (MO cI h0 a f42 f14 v15 sn kp pd ln f46 (v23 + 1) v24 v25 v26 v27 v28 hd st) H := by rw [hf47]; exact hP
              have hD : va_D A (MO cI h0 a f42 f14 v15 sn kp pd ln f46 (v23 + 1) v24 v25 v26 v27 v28 hd st) := by rw [hf47]; exact hD
              have hq := kb_to hq hf47
              refine lv_goto (tgt := 136) hx hb dX5_run_99 (by decide) ?_
              refine lv_iinc (v := (d2 + 1)) (lv' := [(2, .int (d2 + 1)), (1, .int (n1 + r39)), (3, .int l_po), (0, .ref h0)]) hx hb dX5_run_136 hl (k := 2) rfl rfl (by decide) rfl (fun ls hl => ?_)
              refine lv_goto (tgt := 30) hx hb dX5_run_139 (by decide) ?_
              exact ih ((n1 + r39)) ((d2 + 1)) (f42) (f46) ((v23 + 1)) (v24) (v25) (v26) (v27) (v28) _ _ _ (run_mu hmu c19 (poSEd (deed_po (goodP_po hpad hg c19)) hw22)) ((fst_iv (iv_pages1 hiv1 ((goodP_deed hpad hg c19 hw22).2.1 c29).1 ((goodP_deed hpad hg c19 hw22).2.1 c29).2) hw41)) ((goodP_deed hpad hg c19 hw22).1) hq hP hD hS (lv_sub hl [0, 1, 3] rfl)
    exact L30 ((ln.toInt - (0 : Int32).toInt).toNat + 1) (0) (0) (sv) (f16) (0) (v5) (v6) (v7) (v8) (v9) _ _ _ (Nat.lt_succ_self _) (hiv) (goodP_job hpad hw3 c10) hq hP hD hS (lv_sub hl [0, 1, 2] rfl)
  · have hq := it_pos hq c10
    refine lv_bipush (v := (-2)) hx hb dX5_run_7 (by decide) ?_
    exact hret _ _ _ _ ((-2)) (sv, pa, pn, ln, so, v4, v5, v6, v7, v8, v9) dX5_run_9 rfl (hq.symm.trans hX) hP hD hS
