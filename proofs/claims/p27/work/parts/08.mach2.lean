theorem k_mu {x v : Int32} {n : Nat} (h : (x.toInt - v.toInt).toNat < n + 1) (c : ¬ x ≤ v) : (x.toInt - (v + 1).toInt).toNat < n := by
  rw [Int32.le_iff_toInt_le] at c
  have h1 := x.toInt_lt
  have h2 := v.le_toInt
  have h3 := v.toInt_lt
  have e : (v + 1).toInt = v.toInt + 1 := by
    rw [Int32.toInt_add]
    exact Int.bmod_eq_of_le (by simp; omega) (by simp; omega)
  omega
abbrev MW2 (cI : ClassId) (h0 : Nat) (a : Nat → Nat) (h1 : Nat) (b : Nat → Nat) (se ki ha sl ch ci dk li re dt la : Nat → Int32) (us sp rf : Int32) (se1 ki1 ha1 sl1 ch1 ci1 dk1 li1 re1 dt1 la1 : Nat → Int32) (us1 sp1 rf1 : Int32) : va_W := MW cI h0 a se ki ha sl ch ci dk li re dt la us sp rf ++ MW cI h1 b se1 ki1 ha1 sl1 ch1 ci1 dk1 li1 re1 dt1 la1 us1 sp1 rf1
def sh_X1_printPage (se : Nat → Int32) (ki : Nat → Int32) (ha : Nat → Int32) (sl : Nat → Int32) (ch : Nat → Int32) (ci : Nat → Int32) (dk : Nat → Int32) (li : Nat → Int32) (re : Nat → Int32) (dt : Nat → Int32) (la : Nat → Int32) (us : Int32) (x1 : Int32) (x2 : Int32) : Int32 × (Nat → Int32) × (Nat → Int32) × (Nat → Int32) × (Nat → Int32) × (Nat → Int32) × (Nat → Int32) × (Nat → Int32) × (Nat → Int32) × (Int32) := (if (sh_X1_refusal se ha ch (ci x1.toNatClampNeg)) = 0 then (kb (sh_X1_useToner ha us (ci x1.toNatClampNeg) (sh_X1_tonerFor ki (ci x1.toNatClampNeg) x2 (se (0 : Int32).toNatClampNeg))) (fun z_r8 => (kb (α := (Int32)) (if ((ch (ci x1.toNatClampNeg).toNatClampNeg) - (sh_X1_chipFor ki (ci x1.toNatClampNeg) x2 (se (0 : Int32).toNatClampNeg))) ≤ 0 then 0 else ((ch (ci x1.toNatClampNeg).toNatClampNeg) - (sh_X1_chipFor ki (ci x1.toNatClampNeg) x2 (se (0 : Int32).toNatClampNeg)))) (fun z_v18 => (kb (sh_X1_settleToner se z_r8.2.1 sl (ci x1.toNatClampNeg)) (fun z_f22 => (kb (α := (Nat → Int32) × (Nat → Int32)) (if z_r8.1 = 100 then ((upd dk x1.toNatClampNeg ((dk x1.toNatClampNeg) + 1)), li) else (dk, (upd li x1.toNatClampNeg ((li x1.toNatClampNeg) + 1)))) (fun z_f26 => ((10 + z_r8.1), z_f22.1, z_f22.2, (upd ch (ci x1.toNatClampNeg).toNatClampNeg z_v18), z_f26.1, z_f26.2, re, (upd dt x1.toNatClampNeg ((dt x1.toNatClampNeg) + x2)), (upd la x1.toNatClampNeg z_r8.1), z_r8.2.2))))))))) else ((sh_X1_refusal se ha ch (ci x1.toNatClampNeg)), ha, sl, ch, dk, li, (upd re x1.toNatClampNeg ((re x1.toNatClampNeg) + 1)), dt, la, us))
abbrev rm_X1_printPage : Room := { frames := 2, cells := 0, slots := 0, locals := 47 }
theorem hd_X1_printPage : hdT yX1_printPage 2 := by decide +kernel
set_option maxHeartbeats 40000000 in
set_option maxRecDepth 100000 in
theorem c_X1_printPage (l : Launch) (D : va_G) (cI cC cQ : ClassId) (sz : Nat) (h0 : Nat) (a : Nat → Nat) (se : Nat → Int32) (ki : Nat → Int32) (ha : Nat → Int32) (sl : Nat → Int32) (ch : Nat → Int32) (ci : Nat → Int32) (dk : Nat → Int32) (li : Nat → Int32) (re : Nat → Int32) (dt : Nat → Int32) (la : Nat → Int32) (us : Int32) (sp : Int32) (rf : Int32) (x1 : Int32) (x2 : Int32) (hi_x1 : vp_in x1 2) : Met l yX1_printPage (wsO yX1_printPage cX1_printPage 7 (some .int)) rm_X1_printPage (va_Pc [.ref h0, .int x1, .int x2] (inW D (TYS cI cC cQ) (MW cI h0 a se ki ha sl ch ci dk li re dt la us sp rf) sz)) (va_Qi (fun (r : Int32) (u : (Nat → Int32) × (Nat → Int32) × (Nat → Int32) × (Nat → Int32) × (Nat → Int32) × (Nat → Int32) × (Nat → Int32) × (Nat → Int32) × (Int32)) => (r, u) = sh_X1_printPage se ki ha sl ch ci dk li re dt la us x1 x2) (fun (u : (Nat → Int32) × (Nat → Int32) × (Nat → Int32) × (Nat → Int32) × (Nat → Int32) × (Nat → Int32) × (Nat → Int32) × (Nat → Int32) × (Int32)) => atW D (TYS cI cC cQ) (va_A (MW cI h0 a se ki ha sl ch ci dk li re dt la us sp rf) sz) (MW cI h0 a se ki u.1 u.2.1 u.2.2.1 ci u.2.2.2.1 u.2.2.2.2.1 u.2.2.2.2.2.1 u.2.2.2.2.2.2.1 u.2.2.2.2.2.2.2.1 u.2.2.2.2.2.2.2.2 sp rf)) (va_A (MW cI h0 a se ki ha sl ch ci dk li re dt la us sp rf) sz)) 0 0 (va_A (MW cI h0 a se ki ha sl ch ci dk li re dt la us sp rf) sz) := by
  refine k_meti .int rfl (by decide) (Nat.le_of_ble_eq_true rfl) ?_
  intro p e s m args below meth c A ls Q H locs hargs hret hx hb hts hown hml hname hN hA hS hP hK hD hl
  have hl : lv_has ls 7 [(0, .ref h0), (1, .int x1), (2, .int x2)] := hl
  obtain ⟨Xq, hX⟩ : ∃ Xq, Xq = sh_X1_printPage se ki ha sl ch ci dk li re dt la us x1 x2 := ⟨_, rfl⟩
  have hq : Xq = (if (sh_X1_refusal se ha ch (ci x1.toNatClampNeg)) = 0 then (kb (sh_X1_useToner ha us (ci x1.toNatClampNeg) (sh_X1_tonerFor ki (ci x1.toNatClampNeg) x2 (se (0 : Int32).toNatClampNeg))) (fun z_r8 => (kb (α := (Int32)) (if ((ch (ci x1.toNatClampNeg).toNatClampNeg) - (sh_X1_chipFor ki (ci x1.toNatClampNeg) x2 (se (0 : Int32).toNatClampNeg))) ≤ 0 then 0 else ((ch (ci x1.toNatClampNeg).toNatClampNeg) - (sh_X1_chipFor ki (ci x1.toNatClampNeg) x2 (se (0 : Int32).toNatClampNeg)))) (fun z_v18 => (kb (sh_X1_settleToner se z_r8.2.1 sl (ci x1.toNatClampNeg)) (fun z_f22 => (kb (α := (Nat → Int32) × (Nat → Int32)) (if z_r8.1 = 100 then ((upd dk x1.toNatClampNeg ((dk x1.toNatClampNeg) + 1)), li) else (dk, (upd li x1.toNatClampNeg ((li x1.toNatClampNeg) + 1)))) (fun z_f26 => ((10 + z_r8.1), z_f22.1, z_f22.2, (upd ch (ci x1.toNatClampNeg).toNatClampNeg z_v18), z_f26.1, z_f26.2, re, (upd dt x1.toNatClampNeg ((dt x1.toNatClampNeg) + x2)), (upd la x1.toNatClampNeg z_r8.1), z_r8.2.2))))))))) else ((sh_X1_refusal se ha ch (ci x1.toNatClampNeg)), ha, sl, ch, dk, li, (upd re x1.toNatClampNeg ((re x1.toNatClampNeg) + 1)), dt, la, us)) := hX
  refine lv_aload_n hx hb dX1_printPage_0 rfl (lv_at hl 0 rfl) ?_
  refine va_get (D := D) (ci := 1) (v := .ref (a 5)) (C := RX1) (T := TX1) (N := 14) hx hb hts inA1 hown hK hP 0 rfl rfl 5 (by decide) (hts _ wd_fl_RX1_27) (fun _ h9 => h9) rfl dX1_printPage_1 ?_
  refine lv_iload_n hx hb dX1_printPage_4 rfl (lv_at hl 1 rfl) ?_
  refine va_iald hx hb hK hP 6 0 rfl rfl hi_x1 dX1_printPage_5 ?_
  refine lv_istore_n (lv' := [(3, .int (ci x1.toNatClampNeg)), (0, .ref h0), (1, .int x1), (2, .int x2)]) hx hb dX1_printPage_6 rfl hl (by decide) rfl (fun ls hl => ?_)
  refine lv_aload_n hx hb dX1_printPage_7 rfl (lv_at hl 1 rfl) ?_
  refine lv_iload_n hx hb dX1_printPage_8 rfl (lv_at hl 0 rfl) ?_
  have hPs := k_self hP
  have hDs := k_selfD hD
  refine k_behi (X := []) (Y := []) (va_runV (As := [.int (ci x1.toNatClampNeg)]) (rest := []) ⟨hx, hb, hml, hown, hts⟩ (c_X1_refusal l D cI cC cQ H.size h0 a se ki ha sl ch ci dk li re dt la us sp rf (ci x1.toNatClampNeg)) (kcwV hts wd_ml_RX1_69 wd_im_yX1_refusal wd_sel_yX1_refusal wd_ini_RX1 wd_code_yX1_refusal rfl rfl rfl hd_X1_refusal ⟨Nat.le_of_ble_eq_true rfl, Nat.le_of_ble_eq_true rfl⟩) ⟨in_blind, va_recv hK (pa_l (pa_r hPs)) (ci := 1) (q0 := 0) rfl rfl, k_pre hK (pa_l (pa_r hPs)) (da_l (da_r hDs)) hN⟩ rfl rfl hl.1 rfl (lv_room (Nat.le_of_ble_eq_true rfl)) dX1_printPage_9 ⟨Nat.le_of_ble_eq_true rfl, Nat.le_of_ble_eq_true rfl⟩) hPs hDs hS hA (fun r1 u2 H locs hw3 hP hD hS => ?_)
  have hP := k_unP hP
  have hD := k_unD hD
  have hP : va_P D vwCl (MW cI h0 a se ki ha sl ch ci dk li re dt la us sp rf) H := hP
  have hD : va_D A (MW cI h0 a se ki ha sl ch ci dk li re dt la us sp rf) := hD
  have hw3 : r1 = (sh_X1_refusal se ha ch (ci x1.toNatClampNeg)) := hw3
  subst hw3
  refine lv_istore (lv' := [(4, .int (sh_X1_refusal se ha ch (ci x1.toNatClampNeg))), (3, .int (ci x1.toNatClampNeg)), (0, .ref h0), (1, .int x1), (2, .int x2)]) hx hb dX1_printPage_12 hl (by decide) rfl (fun ls hl => ?_)
  refine lv_iload hx hb dX1_printPage_14 (lv_at hl 0 rfl) ?_
  refine lv_if_eq (tgt := 32) hx hb dX1_printPage_16 (by decide) (fun c4 => ?_) (fun c4 => ?_)
  · have hq := it_pos hq c4
    refine lv_aload_n hx hb dX1_printPage_32 rfl (lv_at hl 2 rfl) ?_
    refine lv_iload_n hx hb dX1_printPage_33 rfl (lv_at hl 1 rfl) ?_
    refine lv_aload_n hx hb dX1_printPage_34 rfl (lv_at hl 2 rfl) ?_
    refine lv_iload_n hx hb dX1_printPage_35 rfl (lv_at hl 1 rfl) ?_
    refine lv_iload_n hx hb dX1_printPage_36 rfl (lv_at hl 4 rfl) ?_
    refine lv_aload_n hx hb dX1_printPage_37 rfl (lv_at hl 2 rfl) ?_
    refine va_get (D := D) (ci := 1) (v := .ref (a 0)) (C := RX1) (T := TX1) (N := 14) hx hb hts inA1 hown hK hP 0 rfl rfl 0 (by decide) (hts _ wd_fl_RX1_9) (fun _ h9 => h9) rfl dX1_printPage_38 ?_
    refine lv_iconst (v := 0) hx hb dX1_printPage_41 (by decide) ?_
    refine va_iald hx hb hK hP 1 0 rfl rfl (k_in (by decide)) dX1_printPage_42 ?_
    have hPs := k_self hP
    have hDs := k_selfD hD
    refine k_behi (X := []) (Y := []) (va_runV (As := [.int (ci x1.toNatClampNeg), .int x2, .int (se (0 : Int32).toNatClampNeg)]) (rest := [.int (ci x1.toNatClampNeg), .ref h0]) ⟨hx, hb, hml, hown, hts⟩ (c_X1_tonerFor l D cI cC cQ H.size h0 a se ki ha sl ch ci dk li re dt la us sp rf (ci x1.toNatClampNeg) x2 (se (0 : Int32).toNatClampNeg) ((refIn c4))) (kcwV hts wd_ml_RX1_61 wd_im_yX1_tonerFor wd_sel_yX1_tonerFor wd_ini_RX1 wd_code_yX1_tonerFor rfl rfl rfl hd_X1_tonerFor ⟨Nat.le_of_ble_eq_true rfl, Nat.le_of_ble_eq_true rfl⟩) ⟨in_blind, va_recv hK (pa_l (pa_r hPs)) (ci := 1) (q0 := 0) rfl rfl, k_pre hK (pa_l (pa_r hPs)) (da_l (da_r hDs)) hN⟩ rfl rfl hl.1 rfl (lv_room (Nat.le_of_ble_eq_true rfl)) dX1_printPage_43 ⟨Nat.le_of_ble_eq_true rfl, Nat.le_of_ble_eq_true rfl⟩) hPs hDs hS hA (fun r5 u6 H locs hw7 hP hD hS => ?_)
    have hP := k_unP hP
    have hD := k_unD hD
    have hP : va_P D vwCl (MW cI h0 a se ki ha sl ch ci dk li re dt la us sp rf) H := hP
    have hD : va_D A (MW cI h0 a se ki ha sl ch ci dk li re dt la us sp rf) := hD
    have hw7 : r5 = (sh_X1_tonerFor ki (ci x1.toNatClampNeg) x2 (se (0 : Int32).toNatClampNeg)) := hw7
    subst hw7
    have hPs := k_self hP
    have hDs := k_selfD hD
    refine k_behi (X := []) (Y := []) (va_runV (As := [.int (ci x1.toNatClampNeg), .int (sh_X1_tonerFor ki (ci x1.toNatClampNeg) x2 (se (0 : Int32).toNatClampNeg))]) (rest := []) ⟨hx, hb, hml, hown, hts⟩ (c_X1_useToner l D cI cC cQ H.size h0 a se ki ha sl ch ci dk li re dt la us sp rf (ci x1.toNatClampNeg) (sh_X1_tonerFor ki (ci x1.toNatClampNeg) x2 (se (0 : Int32).toNatClampNeg)) ((refIn c4))) (kcwV hts wd_ml_RX1_73 wd_im_yX1_useToner wd_sel_yX1_useToner wd_ini_RX1 wd_code_yX1_useToner rfl rfl rfl hd_X1_useToner ⟨Nat.le_of_ble_eq_true rfl, Nat.le_of_ble_eq_true rfl⟩) ⟨in_blind, va_recv hK (pa_l (pa_r hPs)) (ci := 1) (q0 := 0) rfl rfl, k_pre hK (pa_l (pa_r hPs)) (da_l (da_r hDs)) hN⟩ rfl rfl hl.1 rfl (lv_room (Nat.le_of_ble_eq_true rfl)) dX1_printPage_46 ⟨Nat.le_of_ble_eq_true rfl, Nat.le_of_ble_eq_true rfl⟩) hPs hDs hS hA (fun r8 u9 H locs hw10 hP hD hS => ?_)
    obtain ⟨f11, v12⟩ := u9
    have hP := k_unP hP
    have hD := k_unD hD
    have hP : va_P D vwCl (MW cI h0 a se ki f11 sl ch ci dk li re dt la v12 sp rf) H := hP
    have hD : va_D A (MW cI h0 a se ki f11 sl ch ci dk li re dt la v12 sp rf) := hD
    have hw10 : (r8, f11, v12) = (sh_X1_useToner ha us (ci x1.toNatClampNeg) (sh_X1_tonerFor ki (ci x1.toNatClampNeg) x2 (se (0 : Int32).toNatClampNeg))) := hw10
    have hq := kb_to hq hw10
    refine lv_istore (lv' := [(5, .int r8), (4, .int (sh_X1_refusal se ha ch (ci x1.toNatClampNeg))), (3, .int (ci x1.toNatClampNeg)), (0, .ref h0), (1, .int x1), (2, .int x2)]) hx hb dX1_printPage_49 hl (by decide) rfl (fun ls hl => ?_)
    refine lv_aload_n hx hb dX1_printPage_51 rfl (lv_at hl 3 rfl) ?_
    refine va_get (D := D) (ci := 1) (v := .ref (a 4)) (C := RX1) (T := TX1) (N := 14) hx hb hts inA1 hown hK hP 0 rfl rfl 4 (by decide) (hts _ wd_fl_RX1_24) (fun _ h9 => h9) rfl dX1_printPage_52 ?_
    refine lv_iload_n hx hb dX1_printPage_55 rfl (lv_at hl 2 rfl) ?_
    refine va_iald hx hb hK hP 5 0 rfl rfl (refIn c4) dX1_printPage_56 ?_
    refine lv_aload_n hx hb dX1_printPage_57 rfl (lv_at hl 3 rfl) ?_
    refine lv_iload_n hx hb dX1_printPage_58 rfl (lv_at hl 2 rfl) ?_
    refine lv_iload_n hx hb dX1_printPage_59 rfl (lv_at hl 5 rfl) ?_
    refine lv_aload_n hx hb dX1_printPage_60 rfl (lv_at hl 3 rfl) ?_
    refine va_get (D := D) (ci := 1) (v := .ref (a 0)) (C := RX1) (T := TX1) (N := 14) hx hb hts inA1 hown hK hP 0 rfl rfl 0 (by decide) (hts _ wd_fl_RX1_9) (fun _ h9 => h9) rfl dX1_printPage_61 ?_
    refine lv_iconst (v := 0) hx hb dX1_printPage_64 (by decide) ?_
    refine va_iald hx hb hK hP 1 0 rfl rfl (k_in (by decide)) dX1_printPage_65 ?_
    have hPs := k_self hP
    have hDs := k_selfD hD
    refine k_behi (X := []) (Y := []) (va_runV (As := [.int (ci x1.toNatClampNeg), .int x2, .int (se (0 : Int32).toNatClampNeg)]) (rest := [.int (ch (ci x1.toNatClampNeg).toNatClampNeg)]) ⟨hx, hb, hml, hown, hts⟩ (c_X1_chipFor l D cI cC cQ H.size h0 a se ki f11 sl ch ci dk li re dt la v12 sp rf (ci x1.toNatClampNeg) x2 (se (0 : Int32).toNatClampNeg) ((refIn c4))) (kcwV hts wd_ml_RX1_77 wd_im_yX1_chipFor wd_sel_yX1_chipFor wd_ini_RX1 wd_code_yX1_chipFor rfl rfl rfl hd_X1_chipFor ⟨Nat.le_of_ble_eq_true rfl, Nat.le_of_ble_eq_true rfl⟩) ⟨in_blind, va_recv hK (pa_l (pa_r hPs)) (ci := 1) (q0 := 0) rfl rfl, k_pre hK (pa_l (pa_r hPs)) (da_l (da_r hDs)) hN⟩ rfl rfl hl.1 rfl (lv_room (Nat.le_of_ble_eq_true rfl)) dX1_printPage_66 ⟨Nat.le_of_ble_eq_true rfl, Nat.le_of_ble_eq_true rfl⟩) hPs hDs hS hA (fun r13 u14 H locs hw15 hP hD hS => ?_)
    have hP := k_unP hP
    have hD := k_unD hD
    have hP : va_P D vwCl (MW cI h0 a se ki f11 sl ch ci dk li re dt la v12 sp rf) H := hP
    have hD : va_D A (MW cI h0 a se ki f11 sl ch ci dk li re dt la v12 sp rf) := hD
    have hw15 : r13 = (sh_X1_chipFor ki (ci x1.toNatClampNeg) x2 (se (0 : Int32).toNatClampNeg)) := hw15
    subst hw15
    refine lv_isub hx hb dX1_printPage_69 ?_
    refine lv_istore (lv' := [(6, .int ((ch (ci x1.toNatClampNeg).toNatClampNeg) - (sh_X1_chipFor ki (ci x1.toNatClampNeg) x2 (se (0 : Int32).toNatClampNeg)))), (5, .int r8), (4, .int (sh_X1_refusal se ha ch (ci x1.toNatClampNeg))), (3, .int (ci x1.toNatClampNeg)), (0, .ref h0), (1, .int x1), (2, .int x2)]) hx hb dX1_printPage_70 hl (by decide) rfl (fun ls hl => ?_)
    refine lv_aload_n hx hb dX1_printPage_72 rfl (lv_at hl 4 rfl) ?_
    refine va_get (D := D) (ci := 1) (v := .ref (a 4)) (C := RX1) (T := TX1) (N := 14) hx hb hts inA1 hown hK hP 0 rfl rfl 4 (by decide) (hts _ wd_fl_RX1_24) (fun _ h9 => h9) rfl dX1_printPage_73 ?_
    refine lv_iload_n hx hb dX1_printPage_76 rfl (lv_at hl 3 rfl) ?_
    refine lv_iload hx hb dX1_printPage_77 (lv_at hl 0 rfl) ?_
    have K : ∀ (v18 : Int32) (H : Heap) (locs : List Loc) (ls : Array Slot), v18 = (if ((ch (ci x1.toNatClampNeg).toNatClampNeg) - (sh_X1_chipFor ki (ci x1.toNatClampNeg) x2 (se (0 : Int32).toNatClampNeg))) ≤ 0 then 0 else ((ch (ci x1.toNatClampNeg).toNatClampNeg) - (sh_X1_chipFor ki (ci x1.toNatClampNeg) x2 (se (0 : Int32).toNatClampNeg)))) → va_P D vwCl (MW cI h0 a se ki f11 sl ch ci dk li re dt la v12 sp rf) H → va_D A (MW cI h0 a se ki f11 sl ch ci dk li re dt la v12 sp rf) → va_S A s.heap H locs → lv_has ls 7 [(0, .ref h0), (1, .int x1), (2, .int x2), (3, .int (ci x1.toNatClampNeg)), (4, .int (sh_X1_refusal se ha ch (ci x1.toNatClampNeg))), (5, .int r8), (6, .int ((ch (ci x1.toNatClampNeg).toNatClampNeg) - (sh_X1_chipFor ki (ci x1.toNatClampNeg) x2 (se (0 : Int32).toNatClampNeg))))] → W p l e rm_X1_printPage s m args below meth c H locs 0 0 Q (F0 m 88 ls [.int v18, .int (ci x1.toNatClampNeg), .ref (a 4)]) := by
      intro v18 H locs ls hv17 hP hD hS hl
      have hq := kb_to hq hv17
      refine va_iast hx hb hK hP hD hS 5 0 rfl rfl (refIn c4) dX1_printPage_88 (fun H locs hP hD hS => ?_)
      have hP : va_P D vwCl (MW cI h0 a se ki f11 sl (upd ch (ci x1.toNatClampNeg).toNatClampNeg v18) ci dk li re dt la v12 sp rf) H := hP
      have hD : va_D A (MW cI h0 a se ki f11 sl (upd ch (ci x1.toNatClampNeg).toNatClampNeg v18) ci dk li re dt la v12 sp rf) := hD
      refine lv_aload_n hx hb dX1_printPage_89 rfl (lv_at hl 0 rfl) ?_
      refine lv_iload_n hx hb dX1_printPage_90 rfl (lv_at hl 3 rfl) ?_
      have hPs := k_self hP
      have hDs := k_selfD hD
      refine k_behv (X := []) (Y := []) (va_runV (As := [.int (ci x1.toNatClampNeg)]) (rest := []) ⟨hx, hb, hml, hown, hts⟩ (c_X1_settleToner l D cI cC cQ H.size h0 a se ki f11 sl (upd ch (ci x1.toNatClampNeg).toNatClampNeg v18) ci dk li re dt la v12 sp rf (ci x1.toNatClampNeg) ((refIn c4))) (kcwV hts wd_ml_RX1_80 wd_im_yX1_settleToner wd_sel_yX1_settleToner wd_ini_RX1 wd_code_yX1_settleToner rfl rfl rfl hd_X1_settleToner ⟨Nat.le_of_ble_eq_true rfl, Nat.le_of_ble_eq_true rfl⟩) ⟨in_blind, va_recv hK (pa_l (pa_r hPs)) (ci := 1) (q0 := 0) rfl rfl, k_pre hK (pa_l (pa_r hPs)) (da_l (da_r hDs)) hN⟩ rfl rfl hl.1 rfl (lv_room (Nat.le_of_ble_eq_true rfl)) dX1_printPage_91 ⟨Nat.le_of_ble_eq_true rfl, Nat.le_of_ble_eq_true rfl⟩) hPs hDs hS hA (fun u20 H locs hw21 hP hD hS => ?_)
      obtain ⟨f22, f23⟩ := u20
      have hP := k_unP hP
      have hD := k_unD hD
      have hP : va_P D vwCl (MW cI h0 a se ki f22 f23 (upd ch (ci x1.toNatClampNeg).toNatClampNeg v18) ci dk li re dt la v12 sp rf) H := hP
      have hD : va_D A (MW cI h0 a se ki f22 f23 (upd ch (ci x1.toNatClampNeg).toNatClampNeg v18) ci dk li re dt la v12 sp rf) := hD
      have hw21 : (f22, f23) = (sh_X1_settleToner se f11 sl (ci x1.toNatClampNeg)) := hw21
      have hq := kb_to hq hw21
      refine lv_iload hx hb dX1_printPage_94 (lv_at hl 5 rfl) ?_
      refine lv_bipush (v := 100) hx hb dX1_printPage_96 (by decide) ?_
      have K : ∀ (f26 : Nat → Int32) (f27 : Nat → Int32) (H : Heap) (locs : List Loc) (ls : Array Slot), (f26, f27) = (if r8 = 100 then ((upd dk x1.toNatClampNeg ((dk x1.toNatClampNeg) + 1)), li) else (dk, (upd li x1.toNatClampNeg ((li x1.toNatClampNeg) + 1)))) → va_P D vwCl (MW cI h0 a se ki f22 f23 (upd ch (ci x1.toNatClampNeg).toNatClampNeg v18) ci f26 f27 re dt la v12 sp rf) H → va_D A (MW cI h0 a se ki f22 f23 (upd ch (ci x1.toNatClampNeg).toNatClampNeg v18) ci f26 f27 re dt la v12 sp rf) → va_S A s.heap H locs → lv_has ls 7 [(0, .ref h0), (1, .int x1), (2, .int x2), (3, .int (ci x1.toNatClampNeg)), (4, .int (sh_X1_refusal se ha ch (ci x1.toNatClampNeg))), (5, .int r8), (6, .int ((ch (ci x1.toNatClampNeg).toNatClampNeg) - (sh_X1_chipFor ki (ci x1.toNatClampNeg) x2 (se (0 : Int32).toNatClampNeg))))] → W p l e rm_X1_printPage s m args below meth c H locs 0 0 Q (F0 m 124 ls []) := by
        intro f26 f27 H locs ls hv25 hP hD hS hl
        have hq := kb_to hq hv25
        refine lv_aload_n hx hb dX1_printPage_124 rfl (lv_at hl 0 rfl) ?_
        refine va_get (D := D) (ci := 1) (v := .ref (a 9)) (C := RX1) (T := TX1) (N := 14) hx hb hts inA1 hown hK hP 0 rfl rfl 9 (by decide) (hts _ wd_fl_RX1_39) (fun _ h9 => h9) rfl dX1_printPage_125 ?_
        refine lv_iload_n hx hb dX1_printPage_128 rfl (lv_at hl 1 rfl) ?_
        refine lv_dup2_11 hx hb dX1_printPage_129 rfl rfl ?_
        refine va_iald hx hb hK hP 10 0 rfl rfl hi_x1 dX1_printPage_130 ?_
        refine lv_iload_n hx hb dX1_printPage_131 rfl (lv_at hl 2 rfl) ?_
        refine lv_iadd hx hb dX1_printPage_132 ?_
        refine va_iast hx hb hK hP hD hS 10 0 rfl rfl hi_x1 dX1_printPage_133 (fun H locs hP hD hS => ?_)
        have hP : va_P D vwCl (MW cI h0 a se ki f22 f23 (upd ch (ci x1.toNatClampNeg).toNatClampNeg v18) ci f26 f27 re (upd dt x1.toNatClampNeg ((dt x1.toNatClampNeg) + x2)) la v12 sp rf) H := hP
        have hD : va_D A (MW cI h0 a se ki f22 f23 (upd ch (ci x1.toNatClampNeg).toNatClampNeg v18) ci f26 f27 re (upd dt x1.toNatClampNeg ((dt x1.toNatClampNeg) + x2)) la v12 sp rf) := hD
        refine lv_aload_n hx hb dX1_printPage_134 rfl (lv_at hl 0 rfl) ?_
        refine va_get (D := D) (ci := 1) (v := .ref (a 10)) (C := RX1) (T := TX1) (N := 14) hx hb hts inA1 hown hK hP 0 rfl rfl 10 (by decide) (hts _ wd_fl_RX1_42) (fun _ h9 => h9) rfl dX1_printPage_135 ?_
        refine lv_iload_n hx hb dX1_printPage_138 rfl (lv_at hl 1 rfl) ?_
        refine lv_iload hx hb dX1_printPage_139 (lv_at hl 5 rfl) ?_
        refine va_iast hx hb hK hP hD hS 11 0 rfl rfl hi_x1 dX1_printPage_141 (fun H locs hP hD hS => ?_)
        have hP : va_P D vwCl (MW cI h0 a se ki f22 f23 (upd ch (ci x1.toNatClampNeg).toNatClampNeg v18) ci f26 f27 re (upd dt x1.toNatClampNeg ((dt x1.toNatClampNeg) + x2)) (upd la x1.toNatClampNeg r8) v12 sp rf) H := hP
        have hD : va_D A (MW cI h0 a se ki f22 f23 (upd ch (ci x1.toNatClampNeg).toNatClampNeg v18) ci f26 f27 re (upd dt x1.toNatClampNeg ((dt x1.toNatClampNeg) + x2)) (upd la x1.toNatClampNeg r8) v12 sp rf) := hD
        refine lv_bipush (v := 10) hx hb dX1_printPage_142 (by decide) ?_
        refine lv_iload hx hb dX1_printPage_144 (lv_at hl 5 rfl) ?_
        refine lv_iadd hx hb dX1_printPage_146 ?_
        exact hret _ _ _ _ ((10 + r8)) (f22, f23, (upd ch (ci x1.toNatClampNeg).toNatClampNeg v18), f26, f27, re, (upd dt x1.toNatClampNeg ((dt x1.toNatClampNeg) + x2)), (upd la x1.toNatClampNeg r8), v12) dX1_printPage_147 rfl (hq.symm.trans hX) hP hD hS
      refine lv_icmp_ne (tgt := 114) hx hb dX1_printPage_98 (by decide) (fun c24 => ?_) (fun c24 => ?_)
      · skip
        refine lv_aload_n hx hb dX1_printPage_114 rfl (lv_at hl 0 rfl) ?_
        refine va_get (D := D) (ci := 1) (v := .ref (a 7)) (C := RX1) (T := TX1) (N := 14) hx hb hts inA1 hown hK hP 0 rfl rfl 7 (by decide) (hts _ wd_fl_RX1_33) (fun _ h9 => h9) rfl dX1_printPage_115 ?_
        refine lv_iload_n hx hb dX1_printPage_118 rfl (lv_at hl 1 rfl) ?_
        refine lv_dup2_11 hx hb dX1_printPage_119 rfl rfl ?_
        refine va_iald hx hb hK hP 8 0 rfl rfl hi_x1 dX1_printPage_120 ?_
        refine lv_iconst (v := 1) hx hb dX1_printPage_121 (by decide) ?_
        refine lv_iadd hx hb dX1_printPage_122 ?_
        refine va_iast hx hb hK hP hD hS 8 0 rfl rfl hi_x1 dX1_printPage_123 (fun H locs hP hD hS => ?_)
        have hP : va_P D vwCl (MW cI h0 a se ki f22 f23 (upd ch (ci x1.toNatClampNeg).toNatClampNeg v18) ci dk (upd li x1.toNatClampNeg ((li x1.toNatClampNeg) + 1)) re dt la v12 sp rf) H := hP
        have hD : va_D A (MW cI h0 a se ki f22 f23 (upd ch (ci x1.toNatClampNeg).toNatClampNeg v18) ci dk (upd li x1.toNatClampNeg ((li x1.toNatClampNeg) + 1)) re dt la v12 sp rf) := hD
        exact K (dk) ((upd li x1.toNatClampNeg ((li x1.toNatClampNeg) + 1))) _ _ _ (by rw [if_neg c24]) hP hD hS (lv_sub hl [0, 1, 2, 3, 4, 5, 6] rfl)
      · skip
        refine lv_aload_n hx hb dX1_printPage_101 rfl (lv_at hl 0 rfl) ?_
        refine va_get (D := D) (ci := 1) (v := .ref (a 6)) (C := RX1) (T := TX1) (N := 14) hx hb hts inA1 hown hK hP 0 rfl rfl 6 (by decide) (hts _ wd_fl_RX1_30) (fun _ h9 => h9) rfl dX1_printPage_102 ?_
        refine lv_iload_n hx hb dX1_printPage_105 rfl (lv_at hl 1 rfl) ?_
        refine lv_dup2_11 hx hb dX1_printPage_106 rfl rfl ?_
        refine va_iald hx hb hK hP 7 0 rfl rfl hi_x1 dX1_printPage_107 ?_
        refine lv_iconst (v := 1) hx hb dX1_printPage_108 (by decide) ?_
        refine lv_iadd hx hb dX1_printPage_109 ?_
        refine va_iast hx hb hK hP hD hS 7 0 rfl rfl hi_x1 dX1_printPage_110 (fun H locs hP hD hS => ?_)
        have hP : va_P D vwCl (MW cI h0 a se ki f22 f23 (upd ch (ci x1.toNatClampNeg).toNatClampNeg v18) ci (upd dk x1.toNatClampNeg ((dk x1.toNatClampNeg) + 1)) li re dt la v12 sp rf) H := hP
        have hD : va_D A (MW cI h0 a se ki f22 f23 (upd ch (ci x1.toNatClampNeg).toNatClampNeg v18) ci (upd dk x1.toNatClampNeg ((dk x1.toNatClampNeg) + 1)) li re dt la v12 sp rf) := hD
        refine lv_goto (tgt := 124) hx hb dX1_printPage_111 (by decide) ?_
        exact K ((upd dk x1.toNatClampNeg ((dk x1.toNatClampNeg) + 1))) (li) _ _ _ (by rw [if_pos c24]) hP hD hS (lv_sub hl [0, 1, 2, 3, 4, 5, 6] rfl)
    refine lv_if_le (tgt := 87) hx hb dX1_printPage_79 (by decide) (fun c16 => ?_) (fun c16 => ?_)
    · skip
      refine lv_iconst (v := 0) hx hb dX1_printPage_87 (by decide) ?_
      exact K (0) _ _ _ (by rw [if_pos c16]) hP hD hS (lv_sub hl [4, 5, 6, 3, 2, 1, 0] rfl)
    · skip
      refine lv_iload hx hb dX1_printPage_82 (lv_at hl 0 rfl) ?_
      refine lv_goto (tgt := 88) hx hb dX1_printPage_84 (by decide) ?_
      exact K (((ch (ci x1.toNatClampNeg).toNatClampNeg) - (sh_X1_chipFor ki (ci x1.toNatClampNeg) x2 (se (0 : Int32).toNatClampNeg)))) _ _ _ (by rw [if_neg c16]) hP hD hS (lv_sub hl [4, 5, 6, 3, 2, 1, 0] rfl)
  · have hq := it_neg hq c4
    refine lv_aload_n hx hb dX1_printPage_19 rfl (lv_at hl 2 rfl) ?_
    refine va_get (D := D) (ci := 1) (v := .ref (a 8)) (C := RX1) (T := TX1) (N := 14) hx hb hts inA1 hown hK hP 0 rfl rfl 8 (by decide) (hts _ wd_fl_RX1_36) (fun _ h9 => h9) rfl dX1_printPage_20 ?_
    refine lv_iload_n hx hb dX1_printPage_23 rfl (lv_at hl 3 rfl) ?_
    refine lv_dup2_11 hx hb dX1_printPage_24 rfl rfl ?_
    refine va_iald hx hb hK hP 9 0 rfl rfl hi_x1 dX1_printPage_25 ?_
    refine lv_iconst (v := 1) hx hb dX1_printPage_26 (by decide) ?_
    refine lv_iadd hx hb dX1_printPage_27 ?_
    refine va_iast hx hb hK hP hD hS 9 0 rfl rfl hi_x1 dX1_printPage_28 (fun H locs hP hD hS => ?_)
    have hP : va_P D vwCl (MW cI h0 a se ki ha sl ch ci dk li (upd re x1.toNatClampNeg ((re x1.toNatClampNeg) + 1)) dt la us sp rf) H := hP
    have hD : va_D A (MW cI h0 a se ki ha sl ch ci dk li (upd re x1.toNatClampNeg ((re x1.toNatClampNeg) + 1)) dt la us sp rf) := hD
    refine lv_iload hx hb dX1_printPage_29 (lv_at hl 0 rfl) ?_
    exact hret _ _ _ _ ((sh_X1_refusal se ha ch (ci x1.toNatClampNeg))) (ha, sl, ch, dk, li, (upd re x1.toNatClampNeg ((re x1.toNatClampNeg) + 1)), dt, la, us) dX1_printPage_31 rfl (hq.symm.trans hX) hP hD hS
def sh_X1_moveCup (ha : Nat → Int32) (ci : Nat → Int32) (sp : Int32) (x1 : Int32) (x2 : Int32) : Int32 × (Nat → Int32) × (Nat → Int32) × (Int32) := (if (ci x2.toNatClampNeg) = x1 then ((0 : Int32), ha, ci, sp) else (if (sh_X4_isPrinter (sh_X1_printerOf ci x1)) = 0 then (kb (sh_X1_empty ha ci sp x2) (fun z_f12 => ((z_f12.2.2 - sp), z_f12.1, (upd z_f12.2.1 x2.toNatClampNeg x1), z_f12.2.2))) else (kb (sh_X1_empty ha ci sp (sh_X1_printerOf ci x1)) (fun z_f18 => (kb (sh_X1_empty z_f18.1 z_f18.2.1 z_f18.2.2 x2) (fun z_f24 => ((z_f24.2.2 - sp), z_f24.1, (upd z_f24.2.1 x2.toNatClampNeg x1), z_f24.2.2)))))))
abbrev rm_X1_moveCup : Room := { frames := 2, cells := 0, slots := 0, locals := 43 }
theorem hd_X1_moveCup : hdT yX1_moveCup 2 := by decide +kernel
set_option maxHeartbeats 40000000 in
set_option maxRecDepth 100000 in
theorem c_X1_moveCup (l : Launch) (D : va_G) (cI cC cQ : ClassId) (sz : Nat) (h0 : Nat) (a : Nat → Nat) (se : Nat → Int32) (ki : Nat → Int32) (ha : Nat → Int32) (sl : Nat → Int32) (ch : Nat → Int32) (ci : Nat → Int32) (dk : Nat → Int32) (li : Nat → Int32) (re : Nat → Int32) (dt : Nat → Int32) (la : Nat → Int32) (us : Int32) (sp : Int32) (rf : Int32) (x1 : Int32) (x2 : Int32) (hi_x2 : vp_in x2 2) : Met l yX1_moveCup (wsO yX1_moveCup cX1_moveCup 5 (some .int)) rm_X1_moveCup (va_Pc [.ref h0, .int x1, .int x2] (inW D (TYS cI cC cQ) (MW cI h0 a se ki ha sl ch ci dk li re dt la us sp rf) sz)) (va_Qi (fun (r : Int32) (u : (Nat → Int32) × (Nat → Int32) × (Int32)) => (r, u) = sh_X1_moveCup ha ci sp x1 x2) (fun (u : (Nat → Int32) × (Nat → Int32) × (Int32)) => atW D (TYS cI cC cQ) (va_A (MW cI h0 a se ki ha sl ch ci dk li re dt la us sp rf) sz) (MW cI h0 a se ki u.1 sl ch u.2.1 dk li re dt la us u.2.2 rf)) (va_A (MW cI h0 a se ki ha sl ch ci dk li re dt la us sp rf) sz)) 0 0 (va_A (MW cI h0 a se ki ha sl ch ci dk li re dt la us sp rf) sz) := by
  refine k_meti .int rfl (by decide) (Nat.le_of_ble_eq_true rfl) ?_
  intro p e s m args below meth c A ls Q H locs hargs hret hx hb hts hown hml hname hN hA hS hP hK hD hl
  have hl : lv_has ls 5 [(0, .ref h0), (1, .int x1), (2, .int x2)] := hl
  obtain ⟨Xq, hX⟩ : ∃ Xq, Xq = sh_X1_moveCup ha ci sp x1 x2 := ⟨_, rfl⟩
  have hq : Xq = (if (ci x2.toNatClampNeg) = x1 then ((0 : Int32), ha, ci, sp) else (if (sh_X4_isPrinter (sh_X1_printerOf ci x1)) = 0 then (kb (sh_X1_empty ha ci sp x2) (fun z_f12 => ((z_f12.2.2 - sp), z_f12.1, (upd z_f12.2.1 x2.toNatClampNeg x1), z_f12.2.2))) else (kb (sh_X1_empty ha ci sp (sh_X1_printerOf ci x1)) (fun z_f18 => (kb (sh_X1_empty z_f18.1 z_f18.2.1 z_f18.2.2 x2) (fun z_f24 => ((z_f24.2.2 - sp), z_f24.1, (upd z_f24.2.1 x2.toNatClampNeg x1), z_f24.2.2))))))) := hX
  refine lv_aload_n hx hb dX1_moveCup_0 rfl (lv_at hl 0 rfl) ?_
  refine va_get (D := D) (ci := 1) (v := .ref (a 5)) (C := RX1) (T := TX1) (N := 14) hx hb hts inA1 hown hK hP 0 rfl rfl 5 (by decide) (hts _ wd_fl_RX1_27) (fun _ h9 => h9) rfl dX1_moveCup_1 ?_
  refine lv_iload_n hx hb dX1_moveCup_4 rfl (lv_at hl 2 rfl) ?_
  refine va_iald hx hb hK hP 6 0 rfl rfl hi_x2 dX1_moveCup_5 ?_
  refine lv_iload_n hx hb dX1_moveCup_6 rfl (lv_at hl 1 rfl) ?_
  refine lv_icmp_ne (tgt := 12) hx hb dX1_moveCup_7 (by decide) (fun c1 => ?_) (fun c1 => ?_)
  · have hq := it_neg hq c1
    refine lv_aload_n hx hb dX1_moveCup_12 rfl (lv_at hl 0 rfl) ?_
    refine va_get (D := D) (ci := 1) (v := .int sp) (C := RX1) (T := TX1) (N := 14) hx hb hts inA1 hown hK hP 0 rfl rfl 12 (by decide) (hts _ wd_fl_RX1_49) (fun _ h9 => h9) rfl dX1_moveCup_13 ?_
    refine lv_istore_n (lv' := [(3, .int sp), (0, .ref h0), (1, .int x1), (2, .int x2)]) hx hb dX1_moveCup_16 rfl hl (by decide) rfl (fun ls hl => ?_)
    refine lv_aload_n hx hb dX1_moveCup_17 rfl (lv_at hl 1 rfl) ?_
    refine lv_iload_n hx hb dX1_moveCup_18 rfl (lv_at hl 2 rfl) ?_
    have hPs := k_self hP
    have hDs := k_selfD hD
    refine k_behi (X := []) (Y := []) (va_runV (As := [.int x1]) (rest := []) ⟨hx, hb, hml, hown, hts⟩ (c_X1_printerOf l D cI cC cQ H.size h0 a se ki ha sl ch ci dk li re dt la us sp rf x1) (kcwV hts wd_ml_RX1_87 wd_im_yX1_printerOf wd_sel_yX1_printerOf wd_ini_RX1 wd_code_yX1_printerOf rfl rfl rfl hd_X1_printerOf ⟨Nat.le_of_ble_eq_true rfl, Nat.le_of_ble_eq_true rfl⟩) ⟨in_blind, va_recv hK (pa_l (pa_r hPs)) (ci := 1) (q0 := 0) rfl rfl, k_pre hK (pa_l (pa_r hPs)) (da_l (da_r hDs)) hN⟩ rfl rfl hl.1 rfl (lv_room (Nat.le_of_ble_eq_true rfl)) dX1_moveCup_19 ⟨Nat.le_of_ble_eq_true rfl, Nat.le_of_ble_eq_true rfl⟩) hPs hDs hS hA (fun r2 u3 H locs hw4 hP hD hS => ?_)
    have hP := k_unP hP
    have hD := k_unD hD
    have hP : va_P D vwCl (MW cI h0 a se ki ha sl ch ci dk li re dt la us sp rf) H := hP
    have hD : va_D A (MW cI h0 a se ki ha sl ch ci dk li re dt la us sp rf) := hD
    have hw4 : r2 = (sh_X1_printerOf ci x1) := hw4
    subst hw4
    refine lv_istore (lv' := [(4, .int (sh_X1_printerOf ci x1)), (3, .int sp), (0, .ref h0), (1, .int x1), (2, .int x2)]) hx hb dX1_moveCup_22 hl (by decide) rfl (fun ls hl => ?_)
    refine lv_iload hx hb dX1_moveCup_24 (lv_at hl 0 rfl) ?_
    have hPs : va_P D vwCl ([] ++ ([] ++ (MW cI h0 a se ki ha sl ch ci dk li re dt la us sp rf))) H := hP
    have hDs : va_D A ([] ++ ([] ++ (MW cI h0 a se ki ha sl ch ci dk li re dt la us sp rf))) := hD
    refine k_behi (X := []) (Y := (MW cI h0 a se ki ha sl ch ci dk li re dt la us sp rf)) (va_runSN (As := [.int (sh_X1_printerOf ci x1)]) (rest := []) ⟨hx, hb, hml, hown, hts⟩ (c_X4_isPrinter l D cI cC cQ H.size (sh_X1_printerOf ci x1)) ⟨kcnB hts hN wn_nl_RX1_90 wd_ini_RX4 wd_code_yX4_isPrinter rfl rfl hd_X4_isPrinter ⟨Nat.le_of_ble_eq_true rfl, Nat.le_of_ble_eq_true rfl⟩, hts _ wd_st_yX4_isPrinter, trivial⟩ ⟨in_blind, k_pre hK (pa_l (pa_r hPs)) (da_l (da_r hDs)) hN⟩ rfl rfl hl.1 rfl (lv_room (Nat.le_of_ble_eq_true rfl)) dX1_moveCup_26 ⟨Nat.le_of_ble_eq_true rfl, Nat.le_of_ble_eq_true rfl⟩) hPs hDs hS hA (fun r5 u6 H locs hw7 hP hD hS => ?_)
    have hP : va_P D vwCl (MW cI h0 a se ki ha sl ch ci dk li re dt la us sp rf) H := hP
    have hD : va_D A (MW cI h0 a se ki ha sl ch ci dk li re dt la us sp rf) := hD
    have hw7 : r5 = (sh_X4_isPrinter (sh_X1_printerOf ci x1)) := hw7
    subst hw7
    refine lv_if_eq (tgt := 38) hx hb dX1_moveCup_29 (by decide) (fun c8 => ?_) (fun c8 => ?_)
    · have hq := it_pos hq c8
      refine lv_aload_n hx hb dX1_moveCup_38 rfl (lv_at hl 2 rfl) ?_
      refine lv_iload_n hx hb dX1_moveCup_39 rfl (lv_at hl 4 rfl) ?_
      have hPs := k_self hP
      have hDs := k_selfD hD
      refine k_behv (X := []) (Y := []) (va_runV (As := [.int x2]) (rest := []) ⟨hx, hb, hml, hown, hts⟩ (c_X1_empty l D cI cC cQ H.size h0 a se ki ha sl ch ci dk li re dt la us sp rf x2 (hi_x2)) (kcwV hts wd_ml_RX1_93 wd_im_yX1_empty wd_sel_yX1_empty wd_ini_RX1 wd_code_yX1_empty rfl rfl rfl hd_X1_empty ⟨Nat.le_of_ble_eq_true rfl, Nat.le_of_ble_eq_true rfl⟩) ⟨in_blind, va_recv hK (pa_l (pa_r hPs)) (ci := 1) (q0 := 0) rfl rfl, k_pre hK (pa_l (pa_r hPs)) (da_l (da_r hDs)) hN⟩ rfl rfl hl.1 rfl (lv_room (Nat.le_of_ble_eq_true rfl)) dX1_moveCup_40 ⟨Nat.le_of_ble_eq_true rfl, Nat.le_of_ble_eq_true rfl⟩) hPs hDs hS hA (fun u10 H locs hw11 hP hD hS => ?_)
      obtain ⟨f12, f13, v14⟩ := u10
      have hP := k_unP hP
      have hD := k_unD hD
      have hP : va_P D vwCl (MW cI h0 a se ki f12 sl ch f13 dk li re dt la us v14 rf) H := hP
      have hD : va_D A (MW cI h0 a se ki f12 sl ch f13 dk li re dt la us v14 rf) := hD
      have hw11 : (f12, f13, v14) = (sh_X1_empty ha ci sp x2) := hw11
      have hq := kb_to hq hw11
      refine lv_aload_n hx hb dX1_moveCup_43 rfl (lv_at hl 2 rfl) ?_
      refine va_get (D := D) (ci := 1) (v := .ref (a 5)) (C := RX1) (T := TX1) (N := 14) hx hb hts inA1 hown hK hP 0 rfl rfl 5 (by decide) (hts _ wd_fl_RX1_27) (fun _ h9 => h9) rfl dX1_moveCup_44 ?_
      refine lv_iload_n hx hb dX1_moveCup_47 rfl (lv_at hl 4 rfl) ?_
      refine lv_iload_n hx hb dX1_moveCup_48 rfl (lv_at hl 3 rfl) ?_
      refine va_iast hx hb hK hP hD hS 6 0 rfl rfl hi_x2 dX1_moveCup_49 (fun H locs hP hD hS => ?_)
      have hP : va_P D vwCl (MW cI h0 a se ki f12 sl ch (upd f13 x2.toNatClampNeg x1) dk li re dt la us v14 rf) H := hP
      have hD : va_D A (MW cI h0 a se ki f12 sl ch (upd f13 x2.toNatClampNeg x1) dk li re dt la us v14 rf) := hD
      refine lv_aload_n hx hb dX1_moveCup_50 rfl (lv_at hl 2 rfl) ?_
      refine va_get (D := D) (ci := 1) (v := .int v14) (C := RX1) (T := TX1) (N := 14) hx hb hts inA1 hown hK hP 0 rfl rfl 12 (by decide) (hts _ wd_fl_RX1_49) (fun _ h9 => h9) rfl dX1_moveCup_51 ?_
      refine lv_iload_n hx hb dX1_moveCup_54 rfl (lv_at hl 1 rfl) ?_
      refine lv_isub hx hb dX1_moveCup_55 ?_
      exact hret _ _ _ _ ((v14 - sp)) (f12, (upd f13 x2.toNatClampNeg x1), v14) dX1_moveCup_56 rfl (hq.symm.trans hX) hP hD hS
    · have hq := it_neg hq c8
      refine lv_aload_n hx hb dX1_moveCup_32 rfl (lv_at hl 2 rfl) ?_
      refine lv_iload hx hb dX1_moveCup_33 (lv_at hl 0 rfl) ?_
      have hPs := k_self hP
      have hDs := k_selfD hD
      refine k_behv (X := []) (Y := []) (va_runV (As := [.int (sh_X1_printerOf ci x1)]) (rest := []) ⟨hx, hb, hml, hown, hts⟩ (c_X1_empty l D cI cC cQ H.size h0 a se ki ha sl ch ci dk li re dt la us sp rf (sh_X1_printerOf ci x1) ((isIn2 c8))) (kcwV hts wd_ml_RX1_93 wd_im_yX1_empty wd_sel_yX1_empty wd_ini_RX1 wd_code_yX1_empty rfl rfl rfl hd_X1_empty ⟨Nat.le_of_ble_eq_true rfl, Nat.le_of_ble_eq_true rfl⟩) ⟨in_blind, va_recv hK (pa_l (pa_r hPs)) (ci := 1) (q0 := 0) rfl rfl, k_pre hK (pa_l (pa_r hPs)) (da_l (da_r hDs)) hN⟩ rfl rfl hl.1 rfl (lv_room (Nat.le_of_ble_eq_true rfl)) dX1_moveCup_35 ⟨Nat.le_of_ble_eq_true rfl, Nat.le_of_ble_eq_true rfl⟩) hPs hDs hS hA (fun u16 H locs hw17 hP hD hS => ?_)
      obtain ⟨f18, f19, v20⟩ := u16
      have hP := k_unP hP
      have hD := k_unD hD
      have hP : va_P D vwCl (MW cI h0 a se ki f18 sl ch f19 dk li re dt la us v20 rf) H := hP
      have hD : va_D A (MW cI h0 a se ki f18 sl ch f19 dk li re dt la us v20 rf) := hD
      have hw17 : (f18, f19, v20) = (sh_X1_empty ha ci sp (sh_X1_printerOf ci x1)) := hw17
      have hq := kb_to hq hw17
      refine lv_aload_n hx hb dX1_moveCup_38 rfl (lv_at hl 2 rfl) ?_
      refine lv_iload_n hx hb dX1_moveCup_39 rfl (lv_at hl 4 rfl) ?_
      have hPs := k_self hP
      have hDs := k_selfD hD
      refine k_behv (X := []) (Y := []) (va_runV (As := [.int x2]) (rest := []) ⟨hx, hb, hml, hown, hts⟩ (c_X1_empty l D cI cC cQ H.size h0 a se ki f18 sl ch f19 dk li re dt la us v20 rf x2 (hi_x2)) (kcwV hts wd_ml_RX1_93 wd_im_yX1_empty wd_sel_yX1_empty wd_ini_RX1 wd_code_yX1_empty rfl rfl rfl hd_X1_empty ⟨Nat.le_of_ble_eq_true rfl, Nat.le_of_ble_eq_true rfl⟩) ⟨in_blind, va_recv hK (pa_l (pa_r hPs)) (ci := 1) (q0 := 0) rfl rfl, k_pre hK (pa_l (pa_r hPs)) (da_l (da_r hDs)) hN⟩ rfl rfl hl.1 rfl (lv_room (Nat.le_of_ble_eq_true rfl)) dX1_moveCup_40 ⟨Nat.le_of_ble_eq_true rfl, Nat.le_of_ble_eq_true rfl⟩) hPs hDs hS hA (fun u22 H locs hw23 hP hD hS => ?_)
      obtain ⟨f24, f25, v26⟩ := u22
      have hP := k_unP hP
      have hD := k_unD hD
      have hP : va_P D vwCl (MW cI h0 a se ki f24 sl ch f25 dk li re dt la us v26 rf) H := hP
      have hD : va_D A (MW cI h0 a se ki f24 sl ch f25 dk li re dt la us v26 rf) := hD
      have hw23 : (f24, f25, v26) = (sh_X1_empty f18 f19 v20 x2) := hw23
      have hq := kb_to hq hw23
      refine lv_aload_n hx hb dX1_moveCup_43 rfl (lv_at hl 2 rfl) ?_
      refine va_get (D := D) (ci := 1) (v := .ref (a 5)) (C := RX1) (T := TX1) (N := 14) hx hb hts inA1 hown hK hP 0 rfl rfl 5 (by decide) (hts _ wd_fl_RX1_27) (fun _ h9 => h9) rfl dX1_moveCup_44 ?_
      refine lv_iload_n hx hb dX1_moveCup_47 rfl (lv_at hl 4 rfl) ?_
      refine lv_iload_n hx hb dX1_moveCup_48 rfl (lv_at hl 3 rfl) ?_
      refine va_iast hx hb hK hP hD hS 6 0 rfl rfl hi_x2 dX1_moveCup_49 (fun H locs hP hD hS => ?_)
      have hP : va_P D vwCl (MW cI h0 a se ki f24 sl ch (upd f25 x2.toNatClampNeg x1) dk li re dt la us v26 rf) H := hP
      have hD : va_D A (MW cI h0 a se ki f24 sl ch (upd f25 x2.toNatClampNeg x1) dk li re dt la us v26 rf) := hD
      refine lv_aload_n hx hb dX1_moveCup_50 rfl (lv_at hl 2 rfl) ?_
      refine va_get (D := D) (ci := 1) (v := .int v26) (C := RX1) (T := TX1) (N := 14) hx hb hts inA1 hown hK hP 0 rfl rfl 12 (by decide) (hts _ wd_fl_RX1_49) (fun _ h9 => h9) rfl dX1_moveCup_51 ?_
      refine lv_iload_n hx hb dX1_moveCup_54 rfl (lv_at hl 1 rfl) ?_
      refine lv_isub hx hb dX1_moveCup_55 ?_
      exact hret _ _ _ _ ((v26 - sp)) (f24, (upd f25 x2.toNatClampNeg x1), v26) dX1_moveCup_56 rfl (hq.symm.trans hX) hP hD hS
  · have hq := it_pos hq c1
    refine lv_iconst (v := 0) hx hb dX1_moveCup_10 (by decide) ?_
    exact hret _ _ _ _ (0) (ha, ci, sp) dX1_moveCup_11 rfl (hq.symm.trans hX) hP hD hS
def sh_X1_cupsOvertold (se : Nat → Int32) (ha : Nat → Int32) (sl : Nat → Int32) (ch : Nat → Int32) : Int32 := (kb (α := (Int32)) (if (sh_X1_toldLeft se ha sl ch 0) ≤ (sh_X1_toner ha sl 0) then 0 else 1) (fun z_v9 => (kb (α := (Int32)) (if (sh_X1_toldLeft se ha sl ch 1) ≤ (sh_X1_toner ha sl 1) then z_v9 else (z_v9 + 1)) (fun z_v18 => (kb (α := (Int32)) (if (sh_X1_toldLeft se ha sl ch 2) ≤ (sh_X1_toner ha sl 2) then z_v18 else (z_v18 + 1)) (fun z_v27 => (kb (α := (Int32)) (if (sh_X1_toldLeft se ha sl ch 3) ≤ (sh_X1_toner ha sl 3) then z_v27 else (z_v27 + 1)) (fun z_v36 => z_v36))))))))
abbrev rm_X1_cupsOvertold : Room := { frames := 3, cells := 0, slots := 0, locals := 63 }
theorem hd_X1_cupsOvertold : hdT yX1_cupsOvertold 0 := by decide +kernel
set_option maxHeartbeats 40000000 in
set_option maxRecDepth 100000 in
theorem c_X1_cupsOvertold (l : Launch) (D : va_G) (cI cC cQ : ClassId) (sz : Nat) (h0 : Nat) (a : Nat → Nat) (se : Nat → Int32) (ki : Nat → Int32) (ha : Nat → Int32) (sl : Nat → Int32) (ch : Nat → Int32) (ci : Nat → Int32) (dk : Nat → Int32) (li : Nat → Int32) (re : Nat → Int32) (dt : Nat → Int32) (la : Nat → Int32) (us : Int32) (sp : Int32) (rf : Int32)   : Met l yX1_cupsOvertold (wsO yX1_cupsOvertold cX1_cupsOvertold 3 (some .int)) rm_X1_cupsOvertold (va_Pc [.ref h0] (inW D (TYS cI cC cQ) (MW cI h0 a se ki ha sl ch ci dk li re dt la us sp rf) sz)) (va_Qi (fun (r : Int32) (_ : Unit) => r = sh_X1_cupsOvertold se ha sl ch) (fun (u : Unit) => atW D (TYS cI cC cQ) (va_A (MW cI h0 a se ki ha sl ch ci dk li re dt la us sp rf) sz) (MW cI h0 a se ki ha sl ch ci dk li re dt la us sp rf)) (va_A (MW cI h0 a se ki ha sl ch ci dk li re dt la us sp rf) sz)) 0 0 (va_A (MW cI h0 a se ki ha sl ch ci dk li re dt la us sp rf) sz) := by
  refine k_meti .int rfl (by decide) (Nat.le_of_ble_eq_true rfl) ?_
  intro p e s m args below meth c A ls Q H locs hargs hret hx hb hts hown hml hname hN hA hS hP hK hD hl
  have hl : lv_has ls 3 [(0, .ref h0)] := hl
  obtain ⟨Xq, hX⟩ : ∃ Xq, Xq = sh_X1_cupsOvertold se ha sl ch := ⟨_, rfl⟩
  have hq : Xq = (kb (α := (Int32)) (if (sh_X1_toldLeft se ha sl ch 0) ≤ (sh_X1_toner ha sl 0) then 0 else 1) (fun z_v9 => (kb (α := (Int32)) (if (sh_X1_toldLeft se ha sl ch 1) ≤ (sh_X1_toner ha sl 1) then z_v9 else (z_v9 + 1)) (fun z_v18 => (kb (α := (Int32)) (if (sh_X1_toldLeft se ha sl ch 2) ≤ (sh_X1_toner ha sl 2) then z_v18 else (z_v18 + 1)) (fun z_v27 => (kb (α := (Int32)) (if (sh_X1_toldLeft se ha sl ch 3) ≤ (sh_X1_toner ha sl 3) then z_v27 else (z_v27 + 1)) (fun z_v36 => z_v36)))))))) := hX
  refine lv_iconst (v := 0) hx hb dX1_cupsOvertold_0 (by decide) ?_
  refine lv_istore_n (lv' := [(1, .int 0), (0, .ref h0)]) hx hb dX1_cupsOvertold_1 rfl hl (by decide) rfl (fun ls hl => ?_)
  refine lv_iconst (v := 0) hx hb dX1_cupsOvertold_2 (by decide) ?_
  refine lv_istore_n (lv' := [(2, .int 0), (1, .int 0), (0, .ref h0)]) hx hb dX1_cupsOvertold_3 rfl hl (by decide) rfl (fun ls hl => ?_)
  refine lv_iload_n hx hb dX1_cupsOvertold_4 rfl (lv_at hl 0 rfl) ?_
  refine lv_iconst (v := 4) hx hb dX1_cupsOvertold_5 (by decide) ?_
  refine lv_icmp_ge (tgt := 31) hx hb dX1_cupsOvertold_6 (by decide) (fun c9 => absurd c9 (by decide)) (fun _ => ?_)
  refine lv_aload_n hx hb dX1_cupsOvertold_9 rfl (lv_at hl 2 rfl) ?_
  refine lv_iload_n hx hb dX1_cupsOvertold_10 rfl (lv_at hl 0 rfl) ?_
  have hPs := k_self hP
  have hDs := k_selfD hD
  refine k_behi (X := []) (Y := []) (va_runV (As := [.int 0]) (rest := []) ⟨hx, hb, hml, hown, hts⟩ (c_X1_toldLeft l D cI cC cQ H.size h0 a se ki ha sl ch ci dk li re dt la us sp rf 0 ((k_in (by decide)))) (kcwV hts wd_ml_RX1_102 wd_im_yX1_toldLeft wd_sel_yX1_toldLeft wd_ini_RX1 wd_code_yX1_toldLeft rfl rfl rfl hd_X1_toldLeft ⟨Nat.le_of_ble_eq_true rfl, Nat.le_of_ble_eq_true rfl⟩) ⟨in_blind, va_recv hK (pa_l (pa_r hPs)) (ci := 1) (q0 := 0) rfl rfl, k_pre hK (pa_l (pa_r hPs)) (da_l (da_r hDs)) hN⟩ rfl rfl hl.1 rfl (lv_room (Nat.le_of_ble_eq_true rfl)) dX1_cupsOvertold_11 ⟨Nat.le_of_ble_eq_true rfl, Nat.le_of_ble_eq_true rfl⟩) hPs hDs hS hA (fun r1 u2 H locs hw3 hP hD hS => ?_)
  have hP := k_unP hP
  have hD := k_unD hD
  have hP : va_P D vwCl (MW cI h0 a se ki ha sl ch ci dk li re dt la us sp rf) H := hP
  have hD : va_D A (MW cI h0 a se ki ha sl ch ci dk li re dt la us sp rf) := hD
  have hw3 : r1 = (sh_X1_toldLeft se ha sl ch 0) := hw3
  subst hw3
  refine lv_aload_n hx hb dX1_cupsOvertold_14 rfl (lv_at hl 2 rfl) ?_
  refine lv_iload_n hx hb dX1_cupsOvertold_15 rfl (lv_at hl 0 rfl) ?_
  have hPs := k_self hP
  have hDs := k_selfD hD
  refine k_behi (X := []) (Y := []) (va_runV (As := [.int 0]) (rest := [.int (sh_X1_toldLeft se ha sl ch 0)]) ⟨hx, hb, hml, hown, hts⟩ (c_X1_toner l D cI cC cQ H.size h0 a se ki ha sl ch ci dk li re dt la us sp rf 0 ((k_in (by decide)))) (kcwV hts wd_ml_RX1_96 wd_im_yX1_toner wd_sel_yX1_toner wd_ini_RX1 wd_code_yX1_toner rfl rfl rfl hd_X1_toner ⟨Nat.le_of_ble_eq_true rfl, Nat.le_of_ble_eq_true rfl⟩) ⟨in_blind, va_recv hK (pa_l (pa_r hPs)) (ci := 1) (q0 := 0) rfl rfl, k_pre hK (pa_l (pa_r hPs)) (da_l (da_r hDs)) hN⟩ rfl rfl hl.1 rfl (lv_room (Nat.le_of_ble_eq_true rfl)) dX1_cupsOvertold_16 ⟨Nat.le_of_ble_eq_true rfl, Nat.le_of_ble_eq_true rfl⟩) hPs hDs hS hA (fun r4 u5 H locs hw6 hP hD hS => ?_)
  have hP := k_unP hP
  have hD := k_unD hD
  have hP : va_P D vwCl (MW cI h0 a se ki ha sl ch ci dk li re dt la us sp rf) H := hP
  have hD : va_D A (MW cI h0 a se ki ha sl ch ci dk li re dt la us sp rf) := hD
  have hw6 : r4 = (sh_X1_toner ha sl 0) := hw6
  subst hw6
  have K : ∀ (v9 : Int32) (H : Heap) (locs : List Loc) (ls : Array Slot), v9 = (if (sh_X1_toldLeft se ha sl ch 0) ≤ (sh_X1_toner ha sl 0) then 0 else 1) → va_P D vwCl (MW cI h0 a se ki ha sl ch ci dk li re dt la us sp rf) H → va_D A (MW cI h0 a se ki ha sl ch ci dk li re dt la us sp rf) → va_S A s.heap H locs → lv_has ls 3 [(0, .ref h0), (1, .int v9), (2, .int 0)] → W p l e rm_X1_cupsOvertold s m args below meth c H locs 0 0 Q (F0 m 25 ls []) := by
    intro v9 H locs ls hv8 hP hD hS hl
    have hq := kb_to hq hv8
    refine lv_iinc (v := 1) (lv' := [(2, .int 1), (0, .ref h0), (1, .int v9)]) hx hb dX1_cupsOvertold_25 hl (k := 2) rfl (by decide) (by decide) rfl (fun ls hl => ?_)
    refine lv_goto (tgt := 4) hx hb dX1_cupsOvertold_28 (by decide) ?_
    refine lv_iload_n hx hb dX1_cupsOvertold_4 rfl (lv_at hl 0 rfl) ?_
    refine lv_iconst (v := 4) hx hb dX1_cupsOvertold_5 (by decide) ?_
    refine lv_icmp_ge (tgt := 31) hx hb dX1_cupsOvertold_6 (by decide) (fun c9 => absurd c9 (by decide)) (fun _ => ?_)
    refine lv_aload_n hx hb dX1_cupsOvertold_9 rfl (lv_at hl 1 rfl) ?_
    refine lv_iload_n hx hb dX1_cupsOvertold_10 rfl (lv_at hl 0 rfl) ?_
    have hPs := k_self hP
    have hDs := k_selfD hD
    refine k_behi (X := []) (Y := []) (va_runV (As := [.int 1]) (rest := []) ⟨hx, hb, hml, hown, hts⟩ (c_X1_toldLeft l D cI cC cQ H.size h0 a se ki ha sl ch ci dk li re dt la us sp rf 1 ((k_in (by decide)))) (kcwV hts wd_ml_RX1_102 wd_im_yX1_toldLeft wd_sel_yX1_toldLeft wd_ini_RX1 wd_code_yX1_toldLeft rfl rfl rfl hd_X1_toldLeft ⟨Nat.le_of_ble_eq_true rfl, Nat.le_of_ble_eq_true rfl⟩) ⟨in_blind, va_recv hK (pa_l (pa_r hPs)) (ci := 1) (q0 := 0) rfl rfl, k_pre hK (pa_l (pa_r hPs)) (da_l (da_r hDs)) hN⟩ rfl rfl hl.1 rfl (lv_room (Nat.le_of_ble_eq_true rfl)) dX1_cupsOvertold_11 ⟨Nat.le_of_ble_eq_true rfl, Nat.le_of_ble_eq_true rfl⟩) hPs hDs hS hA (fun r10 u11 H locs hw12 hP hD hS => ?_)
    have hP := k_unP hP
    have hD := k_unD hD
    have hP : va_P D vwCl (MW cI h0 a se ki ha sl ch ci dk li re dt la us sp rf) H := hP
    have hD : va_D A (MW cI h0 a se ki ha sl ch ci dk li re dt la us sp rf) := hD
    have hw12 : r10 = (sh_X1_toldLeft se ha sl ch 1) := hw12
    subst hw12
    refine lv_aload_n hx hb dX1_cupsOvertold_14 rfl (lv_at hl 1 rfl) ?_
    refine lv_iload_n hx hb dX1_cupsOvertold_15 rfl (lv_at hl 0 rfl) ?_
    have hPs := k_self hP
    have hDs := k_selfD hD
    refine k_behi (X := []) (Y := []) (va_runV (As := [.int 1]) (rest := [.int (sh_X1_toldLeft se ha sl ch 1)]) ⟨hx, hb, hml, hown, hts⟩ (c_X1_toner l D cI cC cQ H.size h0 a se ki ha sl ch ci dk li re dt la us sp rf 1 ((k_in (by decide)))) (kcwV hts wd_ml_RX1_96 wd_im_yX1_toner wd_sel_yX1_toner wd_ini_RX1 wd_code_yX1_toner rfl rfl rfl hd_X1_toner ⟨Nat.le_of_ble_eq_true rfl, Nat.le_of_ble_eq_true rfl⟩) ⟨in_blind, va_recv hK (pa_l (pa_r hPs)) (ci := 1) (q0 := 0) rfl rfl, k_pre hK (pa_l (pa_r hPs)) (da_l (da_r hDs)) hN⟩ rfl rfl hl.1 rfl (lv_room (Nat.le_of_ble_eq_true rfl)) dX1_cupsOvertold_16 ⟨Nat.le_of_ble_eq_true rfl, Nat.le_of_ble_eq_true rfl⟩) hPs hDs hS hA (fun r13 u14 H locs hw15 hP hD hS => ?_)
    have hP := k_unP hP
    have hD := k_unD hD
    have hP : va_P D vwCl (MW cI h0 a se ki ha sl ch ci dk li re dt la us sp rf) H := hP
    have hD : va_D A (MW cI h0 a se ki ha sl ch ci dk li re dt la us sp rf) := hD
    have hw15 : r13 = (sh_X1_toner ha sl 1) := hw15
    subst hw15
    have K : ∀ (v18 : Int32) (H : Heap) (locs : List Loc) (ls : Array Slot), v18 = (if (sh_X1_toldLeft se ha sl ch 1) ≤ (sh_X1_toner ha sl 1) then v9 else (v9 + 1)) → va_P D vwCl (MW cI h0 a se ki ha sl ch ci dk li re dt la us sp rf) H → va_D A (MW cI h0 a se ki ha sl ch ci dk li re dt la us sp rf) → va_S A s.heap H locs → lv_has ls 3 [(0, .ref h0), (1, .int v18), (2, .int 1)] → W p l e rm_X1_cupsOvertold s m args below meth c H locs 0 0 Q (F0 m 25 ls []) := by
      intro v18 H locs ls hv17 hP hD hS hl
      have hq := kb_to hq hv17
      refine lv_iinc (v := 2) (lv' := [(2, .int 2), (0, .ref h0), (1, .int v18)]) hx hb dX1_cupsOvertold_25 hl (k := 2) rfl (by decide) (by decide) rfl (fun ls hl => ?_)
      refine lv_goto (tgt := 4) hx hb dX1_cupsOvertold_28 (by decide) ?_
      refine lv_iload_n hx hb dX1_cupsOvertold_4 rfl (lv_at hl 0 rfl) ?_
      refine lv_iconst (v := 4) hx hb dX1_cupsOvertold_5 (by decide) ?_
      refine lv_icmp_ge (tgt := 31) hx hb dX1_cupsOvertold_6 (by decide) (fun c9 => absurd c9 (by decide)) (fun _ => ?_)
      refine lv_aload_n hx hb dX1_cupsOvertold_9 rfl (lv_at hl 1 rfl) ?_
      refine lv_iload_n hx hb dX1_cupsOvertold_10 rfl (lv_at hl 0 rfl) ?_
      have hPs := k_self hP
      have hDs := k_selfD hD
      refine k_behi (X := []) (Y := []) (va_runV (As := [.int 2]) (rest := []) ⟨hx, hb, hml, hown, hts⟩ (c_X1_toldLeft l D cI cC cQ H.size h0 a se ki ha sl ch ci dk li re dt la us sp rf 2 ((k_in (by decide)))) (kcwV hts wd_ml_RX1_102 wd_im_yX1_toldLeft wd_sel_yX1_toldLeft wd_ini_RX1 wd_code_yX1_toldLeft rfl rfl rfl hd_X1_toldLeft ⟨Nat.le_of_ble_eq_true rfl, Nat.le_of_ble_eq_true rfl⟩) ⟨in_blind, va_recv hK (pa_l (pa_r hPs)) (ci := 1) (q0 := 0) rfl rfl, k_pre hK (pa_l (pa_r hPs)) (da_l (da_r hDs)) hN⟩ rfl rfl hl.1 rfl (lv_room (Nat.le_of_ble_eq_true rfl)) dX1_cupsOvertold_11 ⟨Nat.le_of_ble_eq_true rfl, Nat.le_of_ble_eq_true rfl⟩) hPs hDs hS hA (fun r19 u20 H locs hw21 hP hD hS => ?_)
      have hP := k_unP hP
      have hD := k_unD hD
      have hP : va_P D vwCl (MW cI h0 a se ki ha sl ch ci dk li re dt la us sp rf) H := hP
      have hD : va_D A (MW cI h0 a se ki ha sl ch ci dk li re dt la us sp rf) := hD
      have hw21 : r19 = (sh_X1_toldLeft se ha sl ch 2) := hw21
      subst hw21
      refine lv_aload_n hx hb dX1_cupsOvertold_14 rfl (lv_at hl 1 rfl) ?_
      refine lv_iload_n hx hb dX1_cupsOvertold_15 rfl (lv_at hl 0 rfl) ?_
      have hPs := k_self hP
      have hDs := k_selfD hD
      refine k_behi (X := []) (Y := []) (va_runV (As := [.int 2]) (rest := [.int (sh_X1_toldLeft se ha sl ch 2)]) ⟨hx, hb, hml, hown, hts⟩ (c_X1_toner l D cI cC cQ H.size h0 a se ki ha sl ch ci dk li re dt la us sp rf 2 ((k_in (by decide)))) (kcwV hts wd_ml_RX1_96 wd_im_yX1_toner wd_sel_yX1_toner wd_ini_RX1 wd_code_yX1_toner rfl rfl rfl hd_X1_toner ⟨Nat.le_of_ble_eq_true rfl, Nat.le_of_ble_eq_true rfl⟩) ⟨in_blind, va_recv hK (pa_l (pa_r hPs)) (ci := 1) (q0 := 0) rfl rfl, k_pre hK (pa_l (pa_r hPs)) (da_l (da_r hDs)) hN⟩ rfl rfl hl.1 rfl (lv_room (Nat.le_of_ble_eq_true rfl)) dX1_cupsOvertold_16 ⟨Nat.le_of_ble_eq_true rfl, Nat.le_of_ble_eq_true rfl⟩) hPs hDs hS hA (fun r22 u23 H locs hw24 hP hD hS => ?_)
      have hP := k_unP hP
      have hD := k_unD hD
      have hP : va_P D vwCl (MW cI h0 a se ki ha sl ch ci dk li re dt la us sp rf) H := hP
      have hD : va_D A (MW cI h0 a se ki ha sl ch ci dk li re dt la us sp rf) := hD
      have hw24 : r22 = (sh_X1_toner ha sl 2) := hw24
      subst hw24
      have K : ∀ (v27 : Int32) (H : Heap) (locs : List Loc) (ls : Array Slot), v27 = (if (sh_X1_toldLeft se ha sl ch 2) ≤ (sh_X1_toner ha sl 2) then v18 else (v18 + 1)) → va_P D vwCl (MW cI h0 a se ki ha sl ch ci dk li re dt la us sp rf) H → va_D A (MW cI h0 a se ki ha sl ch ci dk li re dt la us sp rf) → va_S A s.heap H locs → lv_has ls 3 [(0, .ref h0), (1, .int v27), (2, .int 2)] → W p l e rm_X1_cupsOvertold s m args below meth c H locs 0 0 Q (F0 m 25 ls []) := by
        intro v27 H locs ls hv26 hP hD hS hl
        have hq := kb_to hq hv26
        refine lv_iinc (v := 3) (lv' := [(2, .int 3), (0, .ref h0), (1, .int v27)]) hx hb dX1_cupsOvertold_25 hl (k := 2) rfl (by decide) (by decide) rfl (fun ls hl => ?_)
        refine lv_goto (tgt := 4) hx hb dX1_cupsOvertold_28 (by decide) ?_
        refine lv_iload_n hx hb dX1_cupsOvertold_4 rfl (lv_at hl 0 rfl) ?_
        refine lv_iconst (v := 4) hx hb dX1_cupsOvertold_5 (by decide) ?_
        refine lv_icmp_ge (tgt := 31) hx hb dX1_cupsOvertold_6 (by decide) (fun c9 => absurd c9 (by decide)) (fun _ => ?_)
        refine lv_aload_n hx hb dX1_cupsOvertold_9 rfl (lv_at hl 1 rfl) ?_
        refine lv_iload_n hx hb dX1_cupsOvertold_10 rfl (lv_at hl 0 rfl) ?_
        have hPs := k_self hP
        have hDs := k_selfD hD
        refine k_behi (X := []) (Y := []) (va_runV (As := [.int 3]) (rest := []) ⟨hx, hb, hml, hown, hts⟩ (c_X1_toldLeft l D cI cC cQ H.size h0 a se ki ha sl ch ci dk li re dt la us sp rf 3 ((k_in (by decide)))) (kcwV hts wd_ml_RX1_102 wd_im_yX1_toldLeft wd_sel_yX1_toldLeft wd_ini_RX1 wd_code_yX1_toldLeft rfl rfl rfl hd_X1_toldLeft ⟨Nat.le_of_ble_eq_true rfl, Nat.le_of_ble_eq_true rfl⟩) ⟨in_blind, va_recv hK (pa_l (pa_r hPs)) (ci := 1) (q0 := 0) rfl rfl, k_pre hK (pa_l (pa_r hPs)) (da_l (da_r hDs)) hN⟩ rfl rfl hl.1 rfl (lv_room (Nat.le_of_ble_eq_true rfl)) dX1_cupsOvertold_11 ⟨Nat.le_of_ble_eq_true rfl, Nat.le_of_ble_eq_true rfl⟩) hPs hDs hS hA (fun r28 u29 H locs hw30 hP hD hS => ?_)
        have hP := k_unP hP
        have hD := k_unD hD
        have hP : va_P D vwCl (MW cI h0 a se ki ha sl ch ci dk li re dt la us sp rf) H := hP
        have hD : va_D A (MW cI h0 a se ki ha sl ch ci dk li re dt la us sp rf) := hD
        have hw30 : r28 = (sh_X1_toldLeft se ha sl ch 3) := hw30
        subst hw30
        refine lv_aload_n hx hb dX1_cupsOvertold_14 rfl (lv_at hl 1 rfl) ?_
        refine lv_iload_n hx hb dX1_cupsOvertold_15 rfl (lv_at hl 0 rfl) ?_
        have hPs := k_self hP
        have hDs := k_selfD hD
        refine k_behi (X := []) (Y := []) (va_runV (As := [.int 3]) (rest := [.int (sh_X1_toldLeft se ha sl ch 3)]) ⟨hx, hb, hml, hown, hts⟩ (c_X1_toner l D cI cC cQ H.size h0 a se ki ha sl ch ci dk li re dt la us sp rf 3 ((k_in (by decide)))) (kcwV hts wd_ml_RX1_96 wd_im_yX1_toner wd_sel_yX1_toner wd_ini_RX1 wd_code_yX1_toner rfl rfl rfl hd_X1_toner ⟨Nat.le_of_ble_eq_true rfl, Nat.le_of_ble_eq_true rfl⟩) ⟨in_blind, va_recv hK (pa_l (pa_r hPs)) (ci := 1) (q0 := 0) rfl rfl, k_pre hK (pa_l (pa_r hPs)) (da_l (da_r hDs)) hN⟩ rfl rfl hl.1 rfl (lv_room (Nat.le_of_ble_eq_true rfl)) dX1_cupsOvertold_16 ⟨Nat.le_of_ble_eq_true rfl, Nat.le_of_ble_eq_true rfl⟩) hPs hDs hS hA (fun r31 u32 H locs hw33 hP hD hS => ?_)
        have hP := k_unP hP
        have hD := k_unD hD
        have hP : va_P D vwCl (MW cI h0 a se ki ha sl ch ci dk li re dt la us sp rf) H := hP
        have hD : va_D A (MW cI h0 a se ki ha sl ch ci dk li re dt la us sp rf) := hD
        have hw33 : r31 = (sh_X1_toner ha sl 3) := hw33
        subst hw33
        have K : ∀ (v36 : Int32) (H : Heap) (locs : List Loc) (ls : Array Slot), v36 = (if (sh_X1_toldLeft se ha sl ch 3) ≤ (sh_X1_toner ha sl 3) then v27 else (v27 + 1)) → va_P D vwCl (MW cI h0 a se ki ha sl ch ci dk li re dt la us sp rf) H → va_D A (MW cI h0 a se ki ha sl ch ci dk li re dt la us sp rf) → va_S A s.heap H locs → lv_has ls 3 [(0, .ref h0), (1, .int v36), (2, .int 3)] → W p l e rm_X1_cupsOvertold s m args below meth c H locs 0 0 Q (F0 m 25 ls []) := by
          intro v36 H locs ls hv35 hP hD hS hl
          have hq := kb_to hq hv35
          refine lv_iinc (v := 4) (lv' := [(2, .int 4), (0, .ref h0), (1, .int v36)]) hx hb dX1_cupsOvertold_25 hl (k := 2) rfl (by decide) (by decide) rfl (fun ls hl => ?_)
          refine lv_goto (tgt := 4) hx hb dX1_cupsOvertold_28 (by decide) ?_
          refine lv_iload_n hx hb dX1_cupsOvertold_4 rfl (lv_at hl 0 rfl) ?_
          refine lv_iconst (v := 4) hx hb dX1_cupsOvertold_5 (by decide) ?_
          refine lv_icmp_ge (tgt := 31) hx hb dX1_cupsOvertold_6 (by decide) (fun _ => ?_) (fun c9 => absurd c9 (by decide))
          refine lv_iload_n hx hb dX1_cupsOvertold_31 rfl (lv_at hl 2 rfl) ?_
          exact hret _ _ _ _ (v36) () dX1_cupsOvertold_32 rfl (hq.symm.trans hX) hP hD hS
        refine lv_icmp_le (tgt := 25) hx hb dX1_cupsOvertold_19 (by decide) (fun c34 => ?_) (fun c34 => ?_)
        · skip
          exact K (v27) _ _ _ (by rw [if_pos c34]) hP hD hS (lv_sub hl [1, 2, 0] rfl)
        · skip
          refine lv_iinc (v := (v27 + 1)) (lv' := [(1, .int (v27 + 1)), (2, .int 3), (0, .ref h0)]) hx hb dX1_cupsOvertold_22 hl (k := 2) rfl rfl (by decide) rfl (fun ls hl => ?_)
          exact K ((v27 + 1)) _ _ _ (by rw [if_neg c34]) hP hD hS (lv_sub hl [2, 0, 1] rfl)
      refine lv_icmp_le (tgt := 25) hx hb dX1_cupsOvertold_19 (by decide) (fun c25 => ?_) (fun c25 => ?_)
      · skip
        exact K (v18) _ _ _ (by rw [if_pos c25]) hP hD hS (lv_sub hl [1, 2, 0] rfl)
      · skip
        refine lv_iinc (v := (v18 + 1)) (lv' := [(1, .int (v18 + 1)), (2, .int 2), (0, .ref h0)]) hx hb dX1_cupsOvertold_22 hl (k := 2) rfl rfl (by decide) rfl (fun ls hl => ?_)
        exact K ((v18 + 1)) _ _ _ (by rw [if_neg c25]) hP hD hS (lv_sub hl [2, 0, 1] rfl)
    refine lv_icmp_le (tgt := 25) hx hb dX1_cupsOvertold_19 (by decide) (fun c16 => ?_) (fun c16 => ?_)
    · skip
      exact K (v9) _ _ _ (by rw [if_pos c16]) hP hD hS (lv_sub hl [1, 2, 0] rfl)
    · skip
      refine lv_iinc (v := (v9 + 1)) (lv' := [(1, .int (v9 + 1)), (2, .int 1), (0, .ref h0)]) hx hb dX1_cupsOvertold_22 hl (k := 2) rfl rfl (by decide) rfl (fun ls hl => ?_)
      exact K ((v9 + 1)) _ _ _ (by rw [if_neg c16]) hP hD hS (lv_sub hl [2, 0, 1] rfl)
  refine lv_icmp_le (tgt := 25) hx hb dX1_cupsOvertold_19 (by decide) (fun c7 => ?_) (fun c7 => ?_)
  · skip
    exact K (0) _ _ _ (by rw [if_pos c7]) hP hD hS (lv_sub hl [2, 1, 0] rfl)
  · skip
    refine lv_iinc (v := 1) (lv' := [(1, .int 1), (2, .int 0), (0, .ref h0)]) hx hb dX1_cupsOvertold_22 hl (k := 1) rfl (by decide) (by decide) rfl (fun ls hl => ?_)
    exact K (1) _ _ _ (by rw [if_neg c7]) hP hD hS (lv_sub hl [2, 0, 1] rfl)
def sh_X1_cupsInside (ci : Nat → Int32) : Int32 := (kb (α := (Int32)) (if (sh_X4_isCup (ci (0 : Int32).toNatClampNeg)) = 0 then 0 else 1) (fun z_v6 => (kb (α := (Int32)) (if (sh_X4_isCup (ci (1 : Int32).toNatClampNeg)) = 0 then z_v6 else (z_v6 + 1)) (fun z_v12 => z_v12))))
abbrev rm_X1_cupsInside : Room := { frames := 1, cells := 0, slots := 0, locals := 20 }
theorem hd_X1_cupsInside : hdT yX1_cupsInside 0 := by decide +kernel
set_option maxHeartbeats 40000000 in
set_option maxRecDepth 100000 in
theorem c_X1_cupsInside (l : Launch) (D : va_G) (cI cC cQ : ClassId) (sz : Nat) (h0 : Nat) (a : Nat → Nat) (se : Nat → Int32) (ki : Nat → Int32) (ha : Nat → Int32) (sl : Nat → Int32) (ch : Nat → Int32) (ci : Nat → Int32) (dk : Nat → Int32) (li : Nat → Int32) (re : Nat → Int32) (dt : Nat → Int32) (la : Nat → Int32) (us : Int32) (sp : Int32) (rf : Int32)   : Met l yX1_cupsInside (wsO yX1_cupsInside cX1_cupsInside 3 (some .int)) rm_X1_cupsInside (va_Pc [.ref h0] (inW D (TYS cI cC cQ) (MW cI h0 a se ki ha sl ch ci dk li re dt la us sp rf) sz)) (va_Qi (fun (r : Int32) (_ : Unit) => r = sh_X1_cupsInside ci) (fun (u : Unit) => atW D (TYS cI cC cQ) (va_A (MW cI h0 a se ki ha sl ch ci dk li re dt la us sp rf) sz) (MW cI h0 a se ki ha sl ch ci dk li re dt la us sp rf)) (va_A (MW cI h0 a se ki ha sl ch ci dk li re dt la us sp rf) sz)) 0 0 (va_A (MW cI h0 a se ki ha sl ch ci dk li re dt la us sp rf) sz) := by
  refine k_meti .int rfl (by decide) (Nat.le_of_ble_eq_true rfl) ?_
  intro p e s m args below meth c A ls Q H locs hargs hret hx hb hts hown hml hname hN hA hS hP hK hD hl
  have hl : lv_has ls 3 [(0, .ref h0)] := hl
  obtain ⟨Xq, hX⟩ : ∃ Xq, Xq = sh_X1_cupsInside ci := ⟨_, rfl⟩
  have hq : Xq = (kb (α := (Int32)) (if (sh_X4_isCup (ci (0 : Int32).toNatClampNeg)) = 0 then 0 else 1) (fun z_v6 => (kb (α := (Int32)) (if (sh_X4_isCup (ci (1 : Int32).toNatClampNeg)) = 0 then z_v6 else (z_v6 + 1)) (fun z_v12 => z_v12)))) := hX
  refine lv_iconst (v := 0) hx hb dX1_cupsInside_0 (by decide) ?_
  refine lv_istore_n (lv' := [(1, .int 0), (0, .ref h0)]) hx hb dX1_cupsInside_1 rfl hl (by decide) rfl (fun ls hl => ?_)
  refine lv_iconst (v := 0) hx hb dX1_cupsInside_2 (by decide) ?_
  refine lv_istore_n (lv' := [(2, .int 0), (1, .int 0), (0, .ref h0)]) hx hb dX1_cupsInside_3 rfl hl (by decide) rfl (fun ls hl => ?_)
  refine lv_iload_n hx hb dX1_cupsInside_4 rfl (lv_at hl 0 rfl) ?_
  refine lv_iconst (v := 2) hx hb dX1_cupsInside_5 (by decide) ?_
  refine lv_icmp_ge (tgt := 30) hx hb dX1_cupsInside_6 (by decide) (fun c9 => absurd c9 (by decide)) (fun _ => ?_)
  refine lv_aload_n hx hb dX1_cupsInside_9 rfl (lv_at hl 2 rfl) ?_
  refine va_get (D := D) (ci := 1) (v := .ref (a 5)) (C := RX1) (T := TX1) (N := 14) hx hb hts inA1 hown hK hP 0 rfl rfl 5 (by decide) (hts _ wd_fl_RX1_27) (fun _ h9 => h9) rfl dX1_cupsInside_10 ?_
  refine lv_iload_n hx hb dX1_cupsInside_13 rfl (lv_at hl 0 rfl) ?_
  refine va_iald hx hb hK hP 6 0 rfl rfl (k_in (by decide)) dX1_cupsInside_14 ?_
  have hPs : va_P D vwCl ([] ++ ([] ++ (MW cI h0 a se ki ha sl ch ci dk li re dt la us sp rf))) H := hP
  have hDs : va_D A ([] ++ ([] ++ (MW cI h0 a se ki ha sl ch ci dk li re dt la us sp rf))) := hD
  refine k_behi (X := []) (Y := (MW cI h0 a se ki ha sl ch ci dk li re dt la us sp rf)) (va_runSN (As := [.int (ci (0 : Int32).toNatClampNeg)]) (rest := []) ⟨hx, hb, hml, hown, hts⟩ (c_X4_isCup l D cI cC cQ H.size (ci (0 : Int32).toNatClampNeg)) ⟨kcnB hts hN wn_nl_RX1_65 wd_ini_RX4 wd_code_yX4_isCup rfl rfl hd_X4_isCup ⟨Nat.le_of_ble_eq_true rfl, Nat.le_of_ble_eq_true rfl⟩, hts _ wd_st_yX4_isCup, trivial⟩ ⟨in_blind, k_pre hK (pa_l (pa_r hPs)) (da_l (da_r hDs)) hN⟩ rfl rfl hl.1 rfl (lv_room (Nat.le_of_ble_eq_true rfl)) dX1_cupsInside_15 ⟨Nat.le_of_ble_eq_true rfl, Nat.le_of_ble_eq_true rfl⟩) hPs hDs hS hA (fun r1 u2 H locs hw3 hP hD hS => ?_)
  have hP : va_P D vwCl (MW cI h0 a se ki ha sl ch ci dk li re dt la us sp rf) H := hP
  have hD : va_D A (MW cI h0 a se ki ha sl ch ci dk li re dt la us sp rf) := hD
  have hw3 : r1 = (sh_X4_isCup (ci (0 : Int32).toNatClampNeg)) := hw3
  subst hw3
  have K : ∀ (v6 : Int32) (H : Heap) (locs : List Loc) (ls : Array Slot), v6 = (if (sh_X4_isCup (ci (0 : Int32).toNatClampNeg)) = 0 then 0 else 1) → va_P D vwCl (MW cI h0 a se ki ha sl ch ci dk li re dt la us sp rf) H → va_D A (MW cI h0 a se ki ha sl ch ci dk li re dt la us sp rf) → va_S A s.heap H locs → lv_has ls 3 [(0, .ref h0), (1, .int v6), (2, .int 0)] → W p l e rm_X1_cupsInside s m args below meth c H locs 0 0 Q (F0 m 24 ls []) := by
    intro v6 H locs ls hv5 hP hD hS hl
    have hq := kb_to hq hv5
    refine lv_iinc (v := 1) (lv' := [(2, .int 1), (0, .ref h0), (1, .int v6)]) hx hb dX1_cupsInside_24 hl (k := 2) rfl (by decide) (by decide) rfl (fun ls hl => ?_)
    refine lv_goto (tgt := 4) hx hb dX1_cupsInside_27 (by decide) ?_
    refine lv_iload_n hx hb dX1_cupsInside_4 rfl (lv_at hl 0 rfl) ?_
    refine lv_iconst (v := 2) hx hb dX1_cupsInside_5 (by decide) ?_
    refine lv_icmp_ge (tgt := 30) hx hb dX1_cupsInside_6 (by decide) (fun c9 => absurd c9 (by decide)) (fun _ => ?_)
    refine lv_aload_n hx hb dX1_cupsInside_9 rfl (lv_at hl 1 rfl) ?_
    refine va_get (D := D) (ci := 1) (v := .ref (a 5)) (C := RX1) (T := TX1) (N := 14) hx hb hts inA1 hown hK hP 0 rfl rfl 5 (by decide) (hts _ wd_fl_RX1_27) (fun _ h9 => h9) rfl dX1_cupsInside_10 ?_
    refine lv_iload_n hx hb dX1_cupsInside_13 rfl (lv_at hl 0 rfl) ?_
    refine va_iald hx hb hK hP 6 0 rfl rfl (k_in (by decide)) dX1_cupsInside_14 ?_
    have hPs : va_P D vwCl ([] ++ ([] ++ (MW cI h0 a se ki ha sl ch ci dk li re dt la us sp rf))) H := hP
    have hDs : va_D A ([] ++ ([] ++ (MW cI h0 a se ki ha sl ch ci dk li re dt la us sp rf))) := hD
    refine k_behi (X := []) (Y := (MW cI h0 a se ki ha sl ch ci dk li re dt la us sp rf)) (va_runSN (As := [.int (ci (1 : Int32).toNatClampNeg)]) (rest := []) ⟨hx, hb, hml, hown, hts⟩ (c_X4_isCup l D cI cC cQ H.size (ci (1 : Int32).toNatClampNeg)) ⟨kcnB hts hN wn_nl_RX1_65 wd_ini_RX4 wd_code_yX4_isCup rfl rfl hd_X4_isCup ⟨Nat.le_of_ble_eq_true rfl, Nat.le_of_ble_eq_true rfl⟩, hts _ wd_st_yX4_isCup, trivial⟩ ⟨in_blind, k_pre hK (pa_l (pa_r hPs)) (da_l (da_r hDs)) hN⟩ rfl rfl hl.1 rfl (lv_room (Nat.le_of_ble_eq_true rfl)) dX1_cupsInside_15 ⟨Nat.le_of_ble_eq_true rfl, Nat.le_of_ble_eq_true rfl⟩) hPs hDs hS hA (fun r7 u8 H locs hw9 hP hD hS => ?_)
    have hP : va_P D vwCl (MW cI h0 a se ki ha sl ch ci dk li re dt la us sp rf) H := hP
    have hD : va_D A (MW cI h0 a se ki ha sl ch ci dk li re dt la us sp rf) := hD
    have hw9 : r7 = (sh_X4_isCup (ci (1 : Int32).toNatClampNeg)) := hw9
    subst hw9
    have K : ∀ (v12 : Int32) (H : Heap) (locs : List Loc) (ls : Array Slot), v12 = (if (sh_X4_isCup (ci (1 : Int32).toNatClampNeg)) = 0 then v6 else (v6 + 1)) → va_P D vwCl (MW cI h0 a se ki ha sl ch ci dk li re dt la us sp rf) H → va_D A (MW cI h0 a se ki ha sl ch ci dk li re dt la us sp rf) → va_S A s.heap H locs → lv_has ls 3 [(0, .ref h0), (1, .int v12), (2, .int 1)] → W p l e rm_X1_cupsInside s m args below meth c H locs 0 0 Q (F0 m 24 ls []) := by
      intro v12 H locs ls hv11 hP hD hS hl
      have hq := kb_to hq hv11
      refine lv_iinc (v := 2) (lv' := [(2, .int 2), (0, .ref h0), (1, .int v12)]) hx hb dX1_cupsInside_24 hl (k := 2) rfl (by decide) (by decide) rfl (fun ls hl => ?_)
      refine lv_goto (tgt := 4) hx hb dX1_cupsInside_27 (by decide) ?_
      refine lv_iload_n hx hb dX1_cupsInside_4 rfl (lv_at hl 0 rfl) ?_
      refine lv_iconst (v := 2) hx hb dX1_cupsInside_5 (by decide) ?_
      refine lv_icmp_ge (tgt := 30) hx hb dX1_cupsInside_6 (by decide) (fun _ => ?_) (fun c9 => absurd c9 (by decide))
      refine lv_iload_n hx hb dX1_cupsInside_30 rfl (lv_at hl 2 rfl) ?_
      exact hret _ _ _ _ (v12) () dX1_cupsInside_31 rfl (hq.symm.trans hX) hP hD hS
    refine lv_if_eq (tgt := 24) hx hb dX1_cupsInside_18 (by decide) (fun c10 => ?_) (fun c10 => ?_)
    · skip
      exact K (v6) _ _ _ (by rw [if_pos c10]) hP hD hS (lv_sub hl [1, 2, 0] rfl)
    · skip
      refine lv_iinc (v := (v6 + 1)) (lv' := [(1, .int (v6 + 1)), (2, .int 1), (0, .ref h0)]) hx hb dX1_cupsInside_21 hl (k := 2) rfl rfl (by decide) rfl (fun ls hl => ?_)
      exact K ((v6 + 1)) _ _ _ (by rw [if_neg c10]) hP hD hS (lv_sub hl [2, 0, 1] rfl)
  refine lv_if_eq (tgt := 24) hx hb dX1_cupsInside_18 (by decide) (fun c4 => ?_) (fun c4 => ?_)
  · skip
    exact K (0) _ _ _ (by rw [if_pos c4]) hP hD hS (lv_sub hl [2, 1, 0] rfl)
  · skip
    refine lv_iinc (v := 1) (lv' := [(1, .int 1), (2, .int 0), (0, .ref h0)]) hx hb dX1_cupsInside_21 hl (k := 1) rfl (by decide) (by decide) rfl (fun ls hl => ?_)
    exact K (1) _ _ _ (by rw [if_neg c4]) hP hD hS (lv_sub hl [2, 0, 1] rfl)
def lp_X1_pagesLasting_19 (se : Nat → Int32) (x2 : Int32) (x3 : Int32) (x4 : Int32) : Nat → (Int32) → (Int32) → (Int32) → (Int32)
  | 0, _, _, _ => default
  | fu + 1, hi5, lo6, n7 => (if x4 ≤ n7 then x4 else (kb (α := (Int32) × (Int32)) (if x3 = 0 then (hi5, lo6) else (if (sh_X1_wouldBeDark hi5 x2) = 0 then (if (sh_X1_wouldBeDark (hi5 + (lo6 / 2)) x2) = 0 then (hi5, lo6) else ((hi5 + (lo6 / 2)), (lo6 - (lo6 / 2)))) else (hi5, lo6))) (fun z_v12 => (if (sh_X1_wouldBeDark z_v12.1 x2) = 0 then n7 else (lp_X1_pagesLasting_19 se x2 x3 x4 fu ((z_v12.1 - x2) - (sh_X4_share (z_v12.1 - x2) (se (1 : Int32).toNatClampNeg))) (z_v12.2 + (sh_X4_share (z_v12.1 - x2) (se (1 : Int32).toNatClampNeg))) (n7 + 1))))))
def sh_X1_pagesLasting (se : Nat → Int32) (ha : Nat → Int32) (sl : Nat → Int32) (x1 : Int32) (x2 : Int32) (x3 : Int32) (x4 : Int32) : Int32 := (lp_X1_pagesLasting_19 se x2 x3 x4 ((x4.toInt - (0 : Int32).toInt).toNat + 1) (ha x1.toNatClampNeg) (sl x1.toNatClampNeg) 0)
abbrev rm_X1_pagesLasting : Room := { frames := 1, cells := 0, slots := 0, locals := 21 }
theorem hd_X1_pagesLasting : hdT yX1_pagesLasting 4 := by decide +kernel
set_option maxHeartbeats 40000000 in
set_option maxRecDepth 100000 in
theorem c_X1_pagesLasting (l : Launch) (D : va_G) (cI cC cQ : ClassId) (sz : Nat) (h0 : Nat) (a : Nat → Nat) (se : Nat → Int32) (ki : Nat → Int32) (ha : Nat → Int32) (sl : Nat → Int32) (ch : Nat → Int32) (ci : Nat → Int32) (dk : Nat → Int32) (li : Nat → Int32) (re : Nat → Int32) (dt : Nat → Int32) (la : Nat → Int32) (us : Int32) (sp : Int32) (rf : Int32) (x1 : Int32) (x2 : Int32) (x3 : Int32) (x4 : Int32) (hi_x1 : vp_in x1 4) : Met l yX1_pagesLasting (wsO yX1_pagesLasting cX1_pagesLasting 9 (some .int)) rm_X1_pagesLasting (va_Pc [.ref h0, .int x1, .int x2, .int x3, .int x4] (inW D (TYS cI cC cQ) (MW cI h0 a se ki ha sl ch ci dk li re dt la us sp rf) sz)) (va_Qi (fun (r : Int32) (_ : Unit) => r = sh_X1_pagesLasting se ha sl x1 x2 x3 x4) (fun (u : Unit) => atW D (TYS cI cC cQ) (va_A (MW cI h0 a se ki ha sl ch ci dk li re dt la us sp rf) sz) (MW cI h0 a se ki ha sl ch ci dk li re dt la us sp rf)) (va_A (MW cI h0 a se ki ha sl ch ci dk li re dt la us sp rf) sz)) 0 0 (va_A (MW cI h0 a se ki ha sl ch ci dk li re dt la us sp rf) sz) := by
  refine k_meti .int rfl (by decide) (Nat.le_of_ble_eq_true rfl) ?_
  intro p e s m args below meth c A ls Q H locs hargs hret hx hb hts hown hml hname hN hA hS hP hK hD hl
  have hl : lv_has ls 9 [(0, .ref h0), (1, .int x1), (2, .int x2), (3, .int x3), (4, .int x4)] := hl
  obtain ⟨Xq, hX⟩ : ∃ Xq, Xq = sh_X1_pagesLasting se ha sl x1 x2 x3 x4 := ⟨_, rfl⟩
  have hq : Xq = (lp_X1_pagesLasting_19 se x2 x3 x4 ((x4.toInt - (0 : Int32).toInt).toNat + 1) (ha x1.toNatClampNeg) (sl x1.toNatClampNeg) 0) := hX
  refine lv_aload_n hx hb dX1_pagesLasting_0 rfl (lv_at hl 0 rfl) ?_
  refine va_get (D := D) (ci := 1) (v := .ref (a 2)) (C := RX1) (T := TX1) (N := 14) hx hb hts inA1 hown hK hP 0 rfl rfl 2 (by decide) (hts _ wd_fl_RX1_18) (fun _ h9 => h9) rfl dX1_pagesLasting_1 ?_
  refine lv_iload_n hx hb dX1_pagesLasting_4 rfl (lv_at hl 1 rfl) ?_
  refine va_iald hx hb hK hP 3 0 rfl rfl hi_x1 dX1_pagesLasting_5 ?_
  refine lv_istore (lv' := [(5, .int (ha x1.toNatClampNeg)), (0, .ref h0), (1, .int x1), (2, .int x2), (3, .int x3), (4, .int x4)]) hx hb dX1_pagesLasting_6 hl (by decide) rfl (fun ls hl => ?_)
  refine lv_aload_n hx hb dX1_pagesLasting_8 rfl (lv_at hl 1 rfl) ?_
  refine va_get (D := D) (ci := 1) (v := .ref (a 3)) (C := RX1) (T := TX1) (N := 14) hx hb hts inA1 hown hK hP 0 rfl rfl 3 (by decide) (hts _ wd_fl_RX1_21) (fun _ h9 => h9) rfl dX1_pagesLasting_9 ?_
  refine lv_iload_n hx hb dX1_pagesLasting_12 rfl (lv_at hl 2 rfl) ?_
  refine va_iald hx hb hK hP 4 0 rfl rfl hi_x1 dX1_pagesLasting_13 ?_
  refine lv_istore (lv' := [(6, .int (sl x1.toNatClampNeg)), (5, .int (ha x1.toNatClampNeg)), (0, .ref h0), (1, .int x1), (2, .int x2), (3, .int x3), (4, .int x4)]) hx hb dX1_pagesLasting_14 hl (by decide) rfl (fun ls hl => ?_)
  refine lv_iconst (v := 0) hx hb dX1_pagesLasting_16 (by decide) ?_
  refine lv_istore (lv' := [(7, .int 0), (6, .int (sl x1.toNatClampNeg)), (5, .int (ha x1.toNatClampNeg)), (0, .ref h0), (1, .int x1), (2, .int x2), (3, .int x3), (4, .int x4)]) hx hb dX1_pagesLasting_17 hl (by decide) rfl (fun ls hl => ?_)
  have L19 : ∀ (fu : Nat) (hi5 : Int32) (lo6 : Int32) (n7 : Int32) (H : Heap) (locs : List Loc) (ls : Array Slot), (x4.toInt - (n7 : Int32).toInt).toNat < fu → Xq = lp_X1_pagesLasting_19 se x2 x3 x4 fu hi5 lo6 n7 → va_P D vwCl (MW cI h0 a se ki ha sl ch ci dk li re dt la us sp rf) H → va_D A (MW cI h0 a se ki ha sl ch ci dk li re dt la us sp rf) → va_S A s.heap H locs → lv_has ls 9 [(7, .int n7), (6, .int lo6), (5, .int hi5), (0, .ref h0), (1, .int x1), (2, .int x2), (3, .int x3), (4, .int x4)] → W p l e rm_X1_pagesLasting s m args below meth c H locs 0 0 Q (F0 m 19 ls []) := by
    intro fu
    induction fu with
    | zero => intro hi5 lo6 n7 H locs ls hmu; exact absurd hmu (Nat.not_lt_zero _)
    | succ fu ih =>
      intro hi5 lo6 n7 H locs ls hmu  hq hP hD hS hl
      have hq : Xq = (if x4 ≤ n7 then x4 else (kb (α := (Int32) × (Int32)) (if x3 = 0 then (hi5, lo6) else (if (sh_X1_wouldBeDark hi5 x2) = 0 then (if (sh_X1_wouldBeDark (hi5 + (lo6 / 2)) x2) = 0 then (hi5, lo6) else ((hi5 + (lo6 / 2)), (lo6 - (lo6 / 2)))) else (hi5, lo6))) (fun z_v12 => (if (sh_X1_wouldBeDark z_v12.1 x2) = 0 then n7 else (lp_X1_pagesLasting_19 se x2 x3 x4 fu ((z_v12.1 - x2) - (sh_X4_share (z_v12.1 - x2) (se (1 : Int32).toNatClampNeg))) (z_v12.2 + (sh_X4_share (z_v12.1 - x2) (se (1 : Int32).toNatClampNeg))) (n7 + 1)))))) := hq
      refine lv_iload hx hb dX1_pagesLasting_19 (lv_at hl 0 rfl) ?_
      refine lv_iload hx hb dX1_pagesLasting_21 (lv_at hl 7 rfl) ?_
      refine lv_icmp_ge (tgt := 122) hx hb dX1_pagesLasting_23 (by decide) (fun c1 => ?_) (fun c1 => ?_)
      · have hq := it_pos hq c1
        refine lv_iload hx hb dX1_pagesLasting_122 (lv_at hl 7 rfl) ?_
        exact hret _ _ _ _ (x4) () dX1_pagesLasting_124 rfl (hq.symm.trans hX) hP hD hS
      · have hq := it_neg hq c1
        refine lv_iload_n hx hb dX1_pagesLasting_26 rfl (lv_at hl 6 rfl) ?_
        have K : ∀ (v12 : Int32) (v13 : Int32) (H : Heap) (locs : List Loc) (ls : Array Slot), (v12, v13) = (if x3 = 0 then (hi5, lo6) else (if (sh_X1_wouldBeDark hi5 x2) = 0 then (if (sh_X1_wouldBeDark (hi5 + (lo6 / 2)) x2) = 0 then (hi5, lo6) else ((hi5 + (lo6 / 2)), (lo6 - (lo6 / 2)))) else (hi5, lo6))) → va_P D vwCl (MW cI h0 a se ki ha sl ch ci dk li re dt la us sp rf) H → va_D A (MW cI h0 a se ki ha sl ch ci dk li re dt la us sp rf) → va_S A s.heap H locs → lv_has ls 9 [(0, .ref h0), (1, .int x1), (2, .int x2), (3, .int x3), (4, .int x4), (5, .int v12), (6, .int v13), (7, .int n7)] → W p l e rm_X1_pagesLasting s m args below meth c H locs 0 0 Q (F0 m 71 ls []) := by
          intro v12 v13 H locs ls hv11 hP hD hS hl
          have hq := kb_to hq hv11
          refine lv_iload hx hb dX1_pagesLasting_71 (lv_at hl 5 rfl) ?_
          refine lv_iload_n hx hb dX1_pagesLasting_73 rfl (lv_at hl 2 rfl) ?_
          have hPs : va_P D vwCl ([] ++ ([] ++ (MW cI h0 a se ki ha sl ch ci dk li re dt la us sp rf))) H := hP
          have hDs : va_D A ([] ++ ([] ++ (MW cI h0 a se ki ha sl ch ci dk li re dt la us sp rf))) := hD
          refine k_behi (X := []) (Y := (MW cI h0 a se ki ha sl ch ci dk li re dt la us sp rf)) (va_runS (As := [.int v12, .int x2]) (rest := []) ⟨hx, hb, hml, hown, hts⟩ (c_X1_wouldBeDark l D cI cC cQ H.size v12 x2) (kcwS hts wd_ml_RX1_105 wd_st_yX1_wouldBeDark wd_ini_RX1 wd_code_yX1_wouldBeDark rfl rfl hd_X1_wouldBeDark ⟨Nat.le_of_ble_eq_true rfl, Nat.le_of_ble_eq_true rfl⟩) ⟨in_blind, k_pre hK (pa_l (pa_r hPs)) (da_l (da_r hDs)) hN⟩ rfl rfl hl.1 rfl (lv_room (Nat.le_of_ble_eq_true rfl)) dX1_pagesLasting_74 ⟨Nat.le_of_ble_eq_true rfl, Nat.le_of_ble_eq_true rfl⟩) hPs hDs hS hA (fun r14 u15 H locs hw16 hP hD hS => ?_)
          have hP : va_P D vwCl (MW cI h0 a se ki ha sl ch ci dk li re dt la us sp rf) H := hP
          have hD : va_D A (MW cI h0 a se ki ha sl ch ci dk li re dt la us sp rf) := hD
          have hw16 : r14 = (sh_X1_wouldBeDark v12 x2) := hw16
          subst hw16
          refine lv_if_ne (tgt := 83) hx hb dX1_pagesLasting_77 (by decide) (fun c17 => ?_) (fun c17 => ?_)
          · have hq := it_neg hq c17
            refine lv_iload hx hb dX1_pagesLasting_83 (lv_at hl 5 rfl) ?_
            refine lv_iload_n hx hb dX1_pagesLasting_85 rfl (lv_at hl 2 rfl) ?_
            refine lv_isub hx hb dX1_pagesLasting_86 ?_
            refine lv_istore (lv' := [(5, .int (v12 - x2)), (0, .ref h0), (1, .int x1), (2, .int x2), (3, .int x3), (4, .int x4), (6, .int v13), (7, .int n7)]) hx hb dX1_pagesLasting_87 hl (by decide) rfl (fun ls hl => ?_)
            refine lv_iload hx hb dX1_pagesLasting_89 (lv_at hl 0 rfl) ?_
            refine lv_aload_n hx hb dX1_pagesLasting_91 rfl (lv_at hl 1 rfl) ?_
            refine va_get (D := D) (ci := 1) (v := .ref (a 0)) (C := RX1) (T := TX1) (N := 14) hx hb hts inA1 hown hK hP 0 rfl rfl 0 (by decide) (hts _ wd_fl_RX1_9) (fun _ h9 => h9) rfl dX1_pagesLasting_92 ?_
            refine lv_iconst (v := 1) hx hb dX1_pagesLasting_95 (by decide) ?_
            refine va_iald hx hb hK hP 1 0 rfl rfl (k_in (by decide)) dX1_pagesLasting_96 ?_
            have hPs : va_P D vwCl ([] ++ ([] ++ (MW cI h0 a se ki ha sl ch ci dk li re dt la us sp rf))) H := hP
            have hDs : va_D A ([] ++ ([] ++ (MW cI h0 a se ki ha sl ch ci dk li re dt la us sp rf))) := hD
            refine k_behi (X := []) (Y := (MW cI h0 a se ki ha sl ch ci dk li re dt la us sp rf)) (va_runSN (As := [.int (v12 - x2), .int (se (1 : Int32).toNatClampNeg)]) (rest := []) ⟨hx, hb, hml, hown, hts⟩ (c_X4_share l D cI cC cQ H.size (v12 - x2) (se (1 : Int32).toNatClampNeg)) ⟨kcnB hts hN wn_nl_RX1_84 wd_ini_RX4 wd_code_yX4_share rfl rfl hd_X4_share ⟨Nat.le_of_ble_eq_true rfl, Nat.le_of_ble_eq_true rfl⟩, hts _ wd_st_yX4_share, trivial⟩ ⟨in_blind, k_pre hK (pa_l (pa_r hPs)) (da_l (da_r hDs)) hN⟩ rfl rfl hl.1 rfl (lv_room (Nat.le_of_ble_eq_true rfl)) dX1_pagesLasting_97 ⟨Nat.le_of_ble_eq_true rfl, Nat.le_of_ble_eq_true rfl⟩) hPs hDs hS hA (fun r18 u19 H locs hw20 hP hD hS => ?_)
            have hP : va_P D vwCl (MW cI h0 a se ki ha sl ch ci dk li re dt la us sp rf) H := hP
            have hD : va_D A (MW cI h0 a se ki ha sl ch ci dk li re dt la us sp rf) := hD
            have hw20 : r18 = (sh_X4_share (v12 - x2) (se (1 : Int32).toNatClampNeg)) := hw20
            subst hw20
            refine lv_istore (lv' := [(8, .int (sh_X4_share (v12 - x2) (se (1 : Int32).toNatClampNeg))), (5, .int (v12 - x2)), (0, .ref h0), (1, .int x1), (2, .int x2), (3, .int x3), (4, .int x4), (6, .int v13), (7, .int n7)]) hx hb dX1_pagesLasting_100 hl (by decide) rfl (fun ls hl => ?_)
            refine lv_iload hx hb dX1_pagesLasting_102 (lv_at hl 1 rfl) ?_
            refine lv_iload hx hb dX1_pagesLasting_104 (lv_at hl 0 rfl) ?_
            refine lv_isub hx hb dX1_pagesLasting_106 ?_
            refine lv_istore (lv' := [(5, .int ((v12 - x2) - (sh_X4_share (v12 - x2) (se (1 : Int32).toNatClampNeg)))), (8, .int (sh_X4_share (v12 - x2) (se (1 : Int32).toNatClampNeg))), (0, .ref h0), (1, .int x1), (2, .int x2), (3, .int x3), (4, .int x4), (6, .int v13), (7, .int n7)]) hx hb dX1_pagesLasting_107 hl (by decide) rfl (fun ls hl => ?_)
            refine lv_iload hx hb dX1_pagesLasting_109 (lv_at hl 7 rfl) ?_
            refine lv_iload hx hb dX1_pagesLasting_111 (lv_at hl 1 rfl) ?_
            refine lv_iadd hx hb dX1_pagesLasting_113 ?_
            refine lv_istore (lv' := [(6, .int (v13 + (sh_X4_share (v12 - x2) (se (1 : Int32).toNatClampNeg)))), (5, .int ((v12 - x2) - (sh_X4_share (v12 - x2) (se (1 : Int32).toNatClampNeg)))), (8, .int (sh_X4_share (v12 - x2) (se (1 : Int32).toNatClampNeg))), (0, .ref h0), (1, .int x1), (2, .int x2), (3, .int x3), (4, .int x4), (7, .int n7)]) hx hb dX1_pagesLasting_114 hl (by decide) rfl (fun ls hl => ?_)
            refine lv_iinc (v := (n7 + 1)) (lv' := [(7, .int (n7 + 1)), (6, .int (v13 + (sh_X4_share (v12 - x2) (se (1 : Int32).toNatClampNeg)))), (5, .int ((v12 - x2) - (sh_X4_share (v12 - x2) (se (1 : Int32).toNatClampNeg)))), (8, .int (sh_X4_share (v12 - x2) (se (1 : Int32).toNatClampNeg))), (0, .ref h0), (1, .int x1), (2, .int x2), (3, .int x3), (4, .int x4)]) hx hb dX1_pagesLasting_116 hl (k := 8) rfl rfl (by decide) rfl (fun ls hl => ?_)
            refine lv_goto (tgt := 19) hx hb dX1_pagesLasting_119 (by decide) ?_
            exact ih (((v12 - x2) - (sh_X4_share (v12 - x2) (se (1 : Int32).toNatClampNeg)))) ((v13 + (sh_X4_share (v12 - x2) (se (1 : Int32).toNatClampNeg)))) ((n7 + 1)) _ _ _ (k_mu hmu c1)  hq hP hD hS (lv_sub hl [0, 1, 2, 4, 5, 6, 7, 8] rfl)
          · have hq := it_pos hq c17
            refine lv_iload hx hb dX1_pagesLasting_80 (lv_at hl 7 rfl) ?_
            exact hret _ _ _ _ (n7) () dX1_pagesLasting_82 rfl (hq.symm.trans hX) hP hD hS
        refine lv_if_eq (tgt := 71) hx hb dX1_pagesLasting_27 (by decide) (fun c2 => ?_) (fun c2 => ?_)
        · skip
          exact K (hi5) (lo6) _ _ _ (by rw [if_pos c2]) hP hD hS (lv_sub hl [3, 4, 5, 6, 7, 2, 1, 0] rfl)
        · skip
          refine lv_iload hx hb dX1_pagesLasting_30 (lv_at hl 2 rfl) ?_
          refine lv_iload_n hx hb dX1_pagesLasting_32 rfl (lv_at hl 5 rfl) ?_
          have hPs : va_P D vwCl ([] ++ ([] ++ (MW cI h0 a se ki ha sl ch ci dk li re dt la us sp rf))) H := hP
          have hDs : va_D A ([] ++ ([] ++ (MW cI h0 a se ki ha sl ch ci dk li re dt la us sp rf))) := hD
          refine k_behi (X := []) (Y := (MW cI h0 a se ki ha sl ch ci dk li re dt la us sp rf)) (va_runS (As := [.int hi5, .int x2]) (rest := []) ⟨hx, hb, hml, hown, hts⟩ (c_X1_wouldBeDark l D cI cC cQ H.size hi5 x2) (kcwS hts wd_ml_RX1_105 wd_st_yX1_wouldBeDark wd_ini_RX1 wd_code_yX1_wouldBeDark rfl rfl hd_X1_wouldBeDark ⟨Nat.le_of_ble_eq_true rfl, Nat.le_of_ble_eq_true rfl⟩) ⟨in_blind, k_pre hK (pa_l (pa_r hPs)) (da_l (da_r hDs)) hN⟩ rfl rfl hl.1 rfl (lv_room (Nat.le_of_ble_eq_true rfl)) dX1_pagesLasting_33 ⟨Nat.le_of_ble_eq_true rfl, Nat.le_of_ble_eq_true rfl⟩) hPs hDs hS hA (fun r3 u4 H locs hw5 hP hD hS => ?_)
          have hP : va_P D vwCl (MW cI h0 a se ki ha sl ch ci dk li re dt la us sp rf) H := hP
          have hD : va_D A (MW cI h0 a se ki ha sl ch ci dk li re dt la us sp rf) := hD
          have hw5 : r3 = (sh_X1_wouldBeDark hi5 x2) := hw5
          subst hw5
          refine lv_if_ne (tgt := 71) hx hb dX1_pagesLasting_36 (by decide) (fun c6 => ?_) (fun c6 => ?_)
          · skip
            exact K (hi5) (lo6) _ _ _ (by rw [if_neg c2, if_neg c6]) hP hD hS (lv_sub hl [3, 4, 5, 6, 7, 2, 1, 0] rfl)
          · skip
            refine lv_iload hx hb dX1_pagesLasting_39 (lv_at hl 2 rfl) ?_
            refine lv_iload hx hb dX1_pagesLasting_41 (lv_at hl 1 rfl) ?_
            refine lv_iconst (v := 2) hx hb dX1_pagesLasting_43 (by decide) ?_
            refine lv_idiv hx hb dX1_pagesLasting_44 (by decide) ?_
            refine lv_iadd hx hb dX1_pagesLasting_45 ?_
            refine lv_iload_n hx hb dX1_pagesLasting_46 rfl (lv_at hl 5 rfl) ?_
            have hPs : va_P D vwCl ([] ++ ([] ++ (MW cI h0 a se ki ha sl ch ci dk li re dt la us sp rf))) H := hP
            have hDs : va_D A ([] ++ ([] ++ (MW cI h0 a se ki ha sl ch ci dk li re dt la us sp rf))) := hD
            refine k_behi (X := []) (Y := (MW cI h0 a se ki ha sl ch ci dk li re dt la us sp rf)) (va_runS (As := [.int (hi5 + (lo6 / 2)), .int x2]) (rest := []) ⟨hx, hb, hml, hown, hts⟩ (c_X1_wouldBeDark l D cI cC cQ H.size (hi5 + (lo6 / 2)) x2) (kcwS hts wd_ml_RX1_105 wd_st_yX1_wouldBeDark wd_ini_RX1 wd_code_yX1_wouldBeDark rfl rfl hd_X1_wouldBeDark ⟨Nat.le_of_ble_eq_true rfl, Nat.le_of_ble_eq_true rfl⟩) ⟨in_blind, k_pre hK (pa_l (pa_r hPs)) (da_l (da_r hDs)) hN⟩ rfl rfl hl.1 rfl (lv_room (Nat.le_of_ble_eq_true rfl)) dX1_pagesLasting_47 ⟨Nat.le_of_ble_eq_true rfl, Nat.le_of_ble_eq_true rfl⟩) hPs hDs hS hA (fun r7 u8 H locs hw9 hP hD hS => ?_)
            have hP : va_P D vwCl (MW cI h0 a se ki ha sl ch ci dk li re dt la us sp rf) H := hP
            have hD : va_D A (MW cI h0 a se ki ha sl ch ci dk li re dt la us sp rf) := hD
            have hw9 : r7 = (sh_X1_wouldBeDark (hi5 + (lo6 / 2)) x2) := hw9
            subst hw9
            refine lv_if_eq (tgt := 71) hx hb dX1_pagesLasting_50 (by decide) (fun c10 => ?_) (fun c10 => ?_)
            · skip
              exact K (hi5) (lo6) _ _ _ (by rw [if_neg c2, if_pos c6, if_pos c10]) hP hD hS (lv_sub hl [3, 4, 5, 6, 7, 2, 1, 0] rfl)
            · skip
              refine lv_iload hx hb dX1_pagesLasting_53 (lv_at hl 2 rfl) ?_
              refine lv_iload hx hb dX1_pagesLasting_55 (lv_at hl 1 rfl) ?_
              refine lv_iconst (v := 2) hx hb dX1_pagesLasting_57 (by decide) ?_
              refine lv_idiv hx hb dX1_pagesLasting_58 (by decide) ?_
              refine lv_iadd hx hb dX1_pagesLasting_59 ?_
              refine lv_istore (lv' := [(5, .int (hi5 + (lo6 / 2))), (7, .int n7), (6, .int lo6), (0, .ref h0), (1, .int x1), (2, .int x2), (3, .int x3), (4, .int x4)]) hx hb dX1_pagesLasting_60 hl (by decide) rfl (fun ls hl => ?_)
              refine lv_iload hx hb dX1_pagesLasting_62 (lv_at hl 2 rfl) ?_
              refine lv_iload hx hb dX1_pagesLasting_64 (lv_at hl 2 rfl) ?_
              refine lv_iconst (v := 2) hx hb dX1_pagesLasting_66 (by decide) ?_
              refine lv_idiv hx hb dX1_pagesLasting_67 (by decide) ?_
              refine lv_isub hx hb dX1_pagesLasting_68 ?_
              refine lv_istore (lv' := [(6, .int (lo6 - (lo6 / 2))), (5, .int (hi5 + (lo6 / 2))), (7, .int n7), (0, .ref h0), (1, .int x1), (2, .int x2), (3, .int x3), (4, .int x4)]) hx hb dX1_pagesLasting_69 hl (by decide) rfl (fun ls hl => ?_)
              exact K ((hi5 + (lo6 / 2))) ((lo6 - (lo6 / 2))) _ _ _ (by rw [if_neg c2, if_pos c6, if_neg c10]) hP hD hS (lv_sub hl [3, 4, 5, 6, 7, 1, 0, 2] rfl)
  exact L19 ((x4.toInt - (0 : Int32).toInt).toNat + 1) ((ha x1.toNatClampNeg)) ((sl x1.toNatClampNeg)) (0) _ _ _ (Nat.lt_succ_self _)  hq hP hD hS (lv_sub hl [0, 1, 2, 3, 4, 5, 6, 7] rfl)
def sh_X1_lastsShaken (se : Nat → Int32) (ki : Nat → Int32) (ha : Nat → Int32) (sl : Nat → Int32) (x1 : Int32) (x2 : Int32) (x3 : Int32) (x4 : Int32) : Int32 := (if (sh_X1_pagesLasting se ha sl x1 (sh_X1_tonerFor ki x1 x2 x3) 1 x4) < x4 then (0 : Int32) else (1 : Int32))
abbrev rm_X1_lastsShaken : Room := { frames := 2, cells := 0, slots := 0, locals := 49 }
theorem hd_X1_lastsShaken : hdT yX1_lastsShaken 4 := by decide +kernel
set_option maxHeartbeats 40000000 in
set_option maxRecDepth 100000 in
theorem c_X1_lastsShaken (l : Launch) (D : va_G) (cI cC cQ : ClassId) (sz : Nat) (h0 : Nat) (a : Nat → Nat) (se : Nat → Int32) (ki : Nat → Int32) (ha : Nat → Int32) (sl : Nat → Int32) (ch : Nat → Int32) (ci : Nat → Int32) (dk : Nat → Int32) (li : Nat → Int32) (re : Nat → Int32) (dt : Nat → Int32) (la : Nat → Int32) (us : Int32) (sp : Int32) (rf : Int32) (x1 : Int32) (x2 : Int32) (x3 : Int32) (x4 : Int32) (hi_x1 : vp_in x1 4) : Met l yX1_lastsShaken (wsO yX1_lastsShaken cX1_lastsShaken 5 (some .boolean)) rm_X1_lastsShaken (va_Pc [.ref h0, .int x1, .int x2, .int x3, .int x4] (inW D (TYS cI cC cQ) (MW cI h0 a se ki ha sl ch ci dk li re dt la us sp rf) sz)) (va_Qi (fun (r : Int32) (_ : Unit) => r = sh_X1_lastsShaken se ki ha sl x1 x2 x3 x4) (fun (u : Unit) => atW D (TYS cI cC cQ) (va_A (MW cI h0 a se ki ha sl ch ci dk li re dt la us sp rf) sz) (MW cI h0 a se ki ha sl ch ci dk li re dt la us sp rf)) (va_A (MW cI h0 a se ki ha sl ch ci dk li re dt la us sp rf) sz)) 0 0 (va_A (MW cI h0 a se ki ha sl ch ci dk li re dt la us sp rf) sz) := by
  refine k_meti .boolean rfl (by decide) (Nat.le_of_ble_eq_true rfl) ?_
  intro p e s m args below meth c A ls Q H locs hargs hret hx hb hts hown hml hname hN hA hS hP hK hD hl
  have hl : lv_has ls 5 [(0, .ref h0), (1, .int x1), (2, .int x2), (3, .int x3), (4, .int x4)] := hl
  obtain ⟨Xq, hX⟩ : ∃ Xq, Xq = sh_X1_lastsShaken se ki ha sl x1 x2 x3 x4 := ⟨_, rfl⟩
  have hq : Xq = (if (sh_X1_pagesLasting se ha sl x1 (sh_X1_tonerFor ki x1 x2 x3) 1 x4) < x4 then (0 : Int32) else (1 : Int32)) := hX
  refine lv_aload_n hx hb dX1_lastsShaken_0 rfl (lv_at hl 0 rfl) ?_
  refine lv_iload_n hx hb dX1_lastsShaken_1 rfl (lv_at hl 1 rfl) ?_
  refine lv_aload_n hx hb dX1_lastsShaken_2 rfl (lv_at hl 0 rfl) ?_
  refine lv_iload_n hx hb dX1_lastsShaken_3 rfl (lv_at hl 1 rfl) ?_
  refine lv_iload_n hx hb dX1_lastsShaken_4 rfl (lv_at hl 2 rfl) ?_
  refine lv_iload_n hx hb dX1_lastsShaken_5 rfl (lv_at hl 3 rfl) ?_
  have hPs := k_self hP
  have hDs := k_selfD hD
  refine k_behi (X := []) (Y := []) (va_runV (As := [.int x1, .int x2, .int x3]) (rest := [.int x1, .ref h0]) ⟨hx, hb, hml, hown, hts⟩ (c_X1_tonerFor l D cI cC cQ H.size h0 a se ki ha sl ch ci dk li re dt la us sp rf x1 x2 x3 (hi_x1)) (kcwV hts wd_ml_RX1_61 wd_im_yX1_tonerFor wd_sel_yX1_tonerFor wd_ini_RX1 wd_code_yX1_tonerFor rfl rfl rfl hd_X1_tonerFor ⟨Nat.le_of_ble_eq_true rfl, Nat.le_of_ble_eq_true rfl⟩) ⟨in_blind, va_recv hK (pa_l (pa_r hPs)) (ci := 1) (q0 := 0) rfl rfl, k_pre hK (pa_l (pa_r hPs)) (da_l (da_r hDs)) hN⟩ rfl rfl hl.1 rfl (lv_room (Nat.le_of_ble_eq_true rfl)) dX1_lastsShaken_6 ⟨Nat.le_of_ble_eq_true rfl, Nat.le_of_ble_eq_true rfl⟩) hPs hDs hS hA (fun r1 u2 H locs hw3 hP hD hS => ?_)
  have hP := k_unP hP
  have hD := k_unD hD
  have hP : va_P D vwCl (MW cI h0 a se ki ha sl ch ci dk li re dt la us sp rf) H := hP
  have hD : va_D A (MW cI h0 a se ki ha sl ch ci dk li re dt la us sp rf) := hD
  have hw3 : r1 = (sh_X1_tonerFor ki x1 x2 x3) := hw3
  subst hw3
  refine lv_iconst (v := 1) hx hb dX1_lastsShaken_9 (by decide) ?_
  refine lv_iload hx hb dX1_lastsShaken_10 (lv_at hl 4 rfl) ?_
  have hPs := k_self hP
  have hDs := k_selfD hD
  refine k_behi (X := []) (Y := []) (va_runV (As := [.int x1, .int (sh_X1_tonerFor ki x1 x2 x3), .int 1, .int x4]) (rest := []) ⟨hx, hb, hml, hown, hts⟩ (c_X1_pagesLasting l D cI cC cQ H.size h0 a se ki ha sl ch ci dk li re dt la us sp rf x1 (sh_X1_tonerFor ki x1 x2 x3) 1 x4 (hi_x1)) (kcwV hts wd_ml_RX1_109 wd_im_yX1_pagesLasting wd_sel_yX1_pagesLasting wd_ini_RX1 wd_code_yX1_pagesLasting rfl rfl rfl hd_X1_pagesLasting ⟨Nat.le_of_ble_eq_true rfl, Nat.le_of_ble_eq_true rfl⟩) ⟨in_blind, va_recv hK (pa_l (pa_r hPs)) (ci := 1) (q0 := 0) rfl rfl, k_pre hK (pa_l (pa_r hPs)) (da_l (da_r hDs)) hN⟩ rfl rfl hl.1 rfl (lv_room (Nat.le_of_ble_eq_true rfl)) dX1_lastsShaken_12 ⟨Nat.le_of_ble_eq_true rfl, Nat.le_of_ble_eq_true rfl⟩) hPs hDs hS hA (fun r4 u5 H locs hw6 hP hD hS => ?_)
  have hP := k_unP hP
  have hD := k_unD hD
  have hP : va_P D vwCl (MW cI h0 a se ki ha sl ch ci dk li re dt la us sp rf) H := hP
  have hD : va_D A (MW cI h0 a se ki ha sl ch ci dk li re dt la us sp rf) := hD
  have hw6 : r4 = (sh_X1_pagesLasting se ha sl x1 (sh_X1_tonerFor ki x1 x2 x3) 1 x4) := hw6
  subst hw6
  refine lv_iload hx hb dX1_lastsShaken_15 (lv_at hl 4 rfl) ?_
  refine lv_icmp_lt (tgt := 24) hx hb dX1_lastsShaken_17 (by decide) (fun c7 => ?_) (fun c7 => ?_)
  · have hq := it_pos hq c7
    refine lv_iconst (v := 0) hx hb dX1_lastsShaken_24 (by decide) ?_
    exact hret _ _ _ _ (0) () dX1_lastsShaken_25 rfl (hq.symm.trans hX) hP hD hS
  · have hq := it_neg hq c7
    refine lv_iconst (v := 1) hx hb dX1_lastsShaken_20 (by decide) ?_
    refine lv_goto (tgt := 25) hx hb dX1_lastsShaken_21 (by decide) ?_
    exact hret _ _ _ _ (1) () dX1_lastsShaken_25 rfl (hq.symm.trans hX) hP hD hS
def lp_X1_handPageByPage_11 (se : Nat → Int32) (x2 : Int32) (x3 : Int32) : Nat → (Int32) → (Int32) → (Int32)
  | 0, _, _ => default
  | fu + 1, hi4, n5 => (if x3 ≤ n5 then hi4 else (lp_X1_handPageByPage_11 se x2 x3 fu ((hi4 - x2) - (sh_X4_share (hi4 - x2) (se (1 : Int32).toNatClampNeg))) (n5 + 1)))
def sh_X1_handPageByPage (se : Nat → Int32) (ha : Nat → Int32) (x1 : Int32) (x2 : Int32) (x3 : Int32) : Int32 := (lp_X1_handPageByPage_11 se x2 x3 ((x3.toInt - (0 : Int32).toInt).toNat + 1) (ha x1.toNatClampNeg) 0)
abbrev rm_X1_handPageByPage : Room := { frames := 1, cells := 0, slots := 0, locals := 21 }
theorem hd_X1_handPageByPage : hdT yX1_handPageByPage 3 := by decide +kernel
set_option maxHeartbeats 40000000 in
set_option maxRecDepth 100000 in
theorem c_X1_handPageByPage (l : Launch) (D : va_G) (cI cC cQ : ClassId) (sz : Nat) (h0 : Nat) (a : Nat → Nat) (se : Nat → Int32) (ki : Nat → Int32) (ha : Nat → Int32) (sl : Nat → Int32) (ch : Nat → Int32) (ci : Nat → Int32) (dk : Nat → Int32) (li : Nat → Int32) (re : Nat → Int32) (dt : Nat → Int32) (la : Nat → Int32) (us : Int32) (sp : Int32) (rf : Int32) (x1 : Int32) (x2 : Int32) (x3 : Int32) (hi_x1 : vp_in x1 4) : Met l yX1_handPageByPage (wsO yX1_handPageByPage cX1_handPageByPage 6 (some .int)) rm_X1_handPageByPage (va_Pc [.ref h0, .int x1, .int x2, .int x3] (inW D (TYS cI cC cQ) (MW cI h0 a se ki ha sl ch ci dk li re dt la us sp rf) sz)) (va_Qi (fun (r : Int32) (_ : Unit) => r = sh_X1_handPageByPage se ha x1 x2 x3) (fun (u : Unit) => atW D (TYS cI cC cQ) (va_A (MW cI h0 a se ki ha sl ch ci dk li re dt la us sp rf) sz) (MW cI h0 a se ki ha sl ch ci dk li re dt la us sp rf)) (va_A (MW cI h0 a se ki ha sl ch ci dk li re dt la us sp rf) sz)) 0 0 (va_A (MW cI h0 a se ki ha sl ch ci dk li re dt la us sp rf) sz) := by
  refine k_meti .int rfl (by decide) (Nat.le_of_ble_eq_true rfl) ?_
  intro p e s m args below meth c A ls Q H locs hargs hret hx hb hts hown hml hname hN hA hS hP hK hD hl
  have hl : lv_has ls 6 [(0, .ref h0), (1, .int x1), (2, .int x2), (3, .int x3)] := hl
  obtain ⟨Xq, hX⟩ : ∃ Xq, Xq = sh_X1_handPageByPage se ha x1 x2 x3 := ⟨_, rfl⟩
  have hq : Xq = (lp_X1_handPageByPage_11 se x2 x3 ((x3.toInt - (0 : Int32).toInt).toNat + 1) (ha x1.toNatClampNeg) 0) := hX
  refine lv_aload_n hx hb dX1_handPageByPage_0 rfl (lv_at hl 0 rfl) ?_
  refine va_get (D := D) (ci := 1) (v := .ref (a 2)) (C := RX1) (T := TX1) (N := 14) hx hb hts inA1 hown hK hP 0 rfl rfl 2 (by decide) (hts _ wd_fl_RX1_18) (fun _ h9 => h9) rfl dX1_handPageByPage_1 ?_
  refine lv_iload_n hx hb dX1_handPageByPage_4 rfl (lv_at hl 1 rfl) ?_
  refine va_iald hx hb hK hP 3 0 rfl rfl hi_x1 dX1_handPageByPage_5 ?_
  refine lv_istore (lv' := [(4, .int (ha x1.toNatClampNeg)), (0, .ref h0), (1, .int x1), (2, .int x2), (3, .int x3)]) hx hb dX1_handPageByPage_6 hl (by decide) rfl (fun ls hl => ?_)
  refine lv_iconst (v := 0) hx hb dX1_handPageByPage_8 (by decide) ?_
  refine lv_istore (lv' := [(5, .int 0), (4, .int (ha x1.toNatClampNeg)), (0, .ref h0), (1, .int x1), (2, .int x2), (3, .int x3)]) hx hb dX1_handPageByPage_9 hl (by decide) rfl (fun ls hl => ?_)
  have L11 : ∀ (fu : Nat) (hi4 : Int32) (n5 : Int32) (H : Heap) (locs : List Loc) (ls : Array Slot), (x3.toInt - (n5 : Int32).toInt).toNat < fu → Xq = lp_X1_handPageByPage_11 se x2 x3 fu hi4 n5 → va_P D vwCl (MW cI h0 a se ki ha sl ch ci dk li re dt la us sp rf) H → va_D A (MW cI h0 a se ki ha sl ch ci dk li re dt la us sp rf) → va_S A s.heap H locs → lv_has ls 6 [(5, .int n5), (4, .int hi4), (0, .ref h0), (1, .int x1), (2, .int x2), (3, .int x3)] → W p l e rm_X1_handPageByPage s m args below meth c H locs 0 0 Q (F0 m 11 ls []) := by
    intro fu
    induction fu with
    | zero => intro hi4 n5 H locs ls hmu; exact absurd hmu (Nat.not_lt_zero _)
    | succ fu ih =>
      intro hi4 n5 H locs ls hmu  hq hP hD hS hl
      have hq : Xq = (if x3 ≤ n5 then hi4 else (lp_X1_handPageByPage_11 se x2 x3 fu ((hi4 - x2) - (sh_X4_share (hi4 - x2) (se (1 : Int32).toNatClampNeg))) (n5 + 1))) := hq
      refine lv_iload hx hb dX1_handPageByPage_11 (lv_at hl 0 rfl) ?_
      refine lv_iload_n hx hb dX1_handPageByPage_13 rfl (lv_at hl 5 rfl) ?_
      refine lv_icmp_ge (tgt := 45) hx hb dX1_handPageByPage_14 (by decide) (fun c1 => ?_) (fun c1 => ?_)
      · have hq := it_pos hq c1
        refine lv_iload hx hb dX1_handPageByPage_45 (lv_at hl 1 rfl) ?_
        exact hret _ _ _ _ (hi4) () dX1_handPageByPage_47 rfl (hq.symm.trans hX) hP hD hS
      · have hq := it_neg hq c1
        refine lv_iload hx hb dX1_handPageByPage_17 (lv_at hl 1 rfl) ?_
        refine lv_iload_n hx hb dX1_handPageByPage_19 rfl (lv_at hl 4 rfl) ?_
        refine lv_isub hx hb dX1_handPageByPage_20 ?_
        refine lv_istore (lv' := [(4, .int (hi4 - x2)), (5, .int n5), (0, .ref h0), (1, .int x1), (2, .int x2), (3, .int x3)]) hx hb dX1_handPageByPage_21 hl (by decide) rfl (fun ls hl => ?_)
        refine lv_iload hx hb dX1_handPageByPage_23 (lv_at hl 0 rfl) ?_
        refine lv_iload hx hb dX1_handPageByPage_25 (lv_at hl 0 rfl) ?_
        refine lv_aload_n hx hb dX1_handPageByPage_27 rfl (lv_at hl 2 rfl) ?_
        refine va_get (D := D) (ci := 1) (v := .ref (a 0)) (C := RX1) (T := TX1) (N := 14) hx hb hts inA1 hown hK hP 0 rfl rfl 0 (by decide) (hts _ wd_fl_RX1_9) (fun _ h9 => h9) rfl dX1_handPageByPage_28 ?_
        refine lv_iconst (v := 1) hx hb dX1_handPageByPage_31 (by decide) ?_
        refine va_iald hx hb hK hP 1 0 rfl rfl (k_in (by decide)) dX1_handPageByPage_32 ?_
        have hPs : va_P D vwCl ([] ++ ([] ++ (MW cI h0 a se ki ha sl ch ci dk li re dt la us sp rf))) H := hP
        have hDs : va_D A ([] ++ ([] ++ (MW cI h0 a se ki ha sl ch ci dk li re dt la us sp rf))) := hD
        refine k_behi (X := []) (Y := (MW cI h0 a se ki ha sl ch ci dk li re dt la us sp rf)) (va_runSN (As := [.int (hi4 - x2), .int (se (1 : Int32).toNatClampNeg)]) (rest := [.int (hi4 - x2)]) ⟨hx, hb, hml, hown, hts⟩ (c_X4_share l D cI cC cQ H.size (hi4 - x2) (se (1 : Int32).toNatClampNeg)) ⟨kcnB hts hN wn_nl_RX1_84 wd_ini_RX4 wd_code_yX4_share rfl rfl hd_X4_share ⟨Nat.le_of_ble_eq_true rfl, Nat.le_of_ble_eq_true rfl⟩, hts _ wd_st_yX4_share, trivial⟩ ⟨in_blind, k_pre hK (pa_l (pa_r hPs)) (da_l (da_r hDs)) hN⟩ rfl rfl hl.1 rfl (lv_room (Nat.le_of_ble_eq_true rfl)) dX1_handPageByPage_33 ⟨Nat.le_of_ble_eq_true rfl, Nat.le_of_ble_eq_true rfl⟩) hPs hDs hS hA (fun r5 u6 H locs hw7 hP hD hS => ?_)
        have hP : va_P D vwCl (MW cI h0 a se ki ha sl ch ci dk li re dt la us sp rf) H := hP
        have hD : va_D A (MW cI h0 a se ki ha sl ch ci dk li re dt la us sp rf) := hD
        have hw7 : r5 = (sh_X4_share (hi4 - x2) (se (1 : Int32).toNatClampNeg)) := hw7
        subst hw7
        refine lv_isub hx hb dX1_handPageByPage_36 ?_
        refine lv_istore (lv' := [(4, .int ((hi4 - x2) - (sh_X4_share (hi4 - x2) (se (1 : Int32).toNatClampNeg)))), (5, .int n5), (0, .ref h0), (1, .int x1), (2, .int x2), (3, .int x3)]) hx hb dX1_handPageByPage_37 hl (by decide) rfl (fun ls hl => ?_)
        refine lv_iinc (v := (n5 + 1)) (lv' := [(5, .int (n5 + 1)), (4, .int ((hi4 - x2) - (sh_X4_share (hi4 - x2) (se (1 : Int32).toNatClampNeg)))), (0, .ref h0), (1, .int x1), (2, .int x2), (3, .int x3)]) hx hb dX1_handPageByPage_39 hl (k := 1) rfl rfl (by decide) rfl (fun ls hl => ?_)
        refine lv_goto (tgt := 11) hx hb dX1_handPageByPage_42 (by decide) ?_
        exact ih (((hi4 - x2) - (sh_X4_share (hi4 - x2) (se (1 : Int32).toNatClampNeg)))) ((n5 + 1)) _ _ _ (k_mu hmu c1)  hq hP hD hS (lv_sub hl [0, 1, 2, 3, 4, 5] rfl)
  exact L11 ((x3.toInt - (0 : Int32).toInt).toNat + 1) ((ha x1.toNatClampNeg)) (0) _ _ _ (Nat.lt_succ_self _)  hq hP hD hS (lv_sub hl [0, 1, 2, 3, 4, 5] rfl)
def lp_X1_handAddedUp_17 (se : Nat → Int32) (ha : Nat → Int32) (x1 : Int32) (x2 : Int32) (x3 : Int32) : Nat → (Int32) → (Int32) → (Int32) → (Int32)
  | 0, _, _, _ => default
  | fu + 1, us5, st6, n7 => (if x3 ≤ n7 then (((ha x1.toNatClampNeg) - us5) - st6) else (lp_X1_handAddedUp_17 se ha x1 x2 x3 fu (us5 + x2) (st6 + (sh_X4_share (((ha x1.toNatClampNeg) - (us5 + x2)) - st6) (se (1 : Int32).toNatClampNeg))) (n7 + 1)))
def sh_X1_handAddedUp (se : Nat → Int32) (ha : Nat → Int32) (x1 : Int32) (x2 : Int32) (x3 : Int32) : Int32 := (lp_X1_handAddedUp_17 se ha x1 x2 x3 ((x3.toInt - (0 : Int32).toInt).toNat + 1) 0 0 0)
abbrev rm_X1_handAddedUp : Room := { frames := 1, cells := 0, slots := 0, locals := 21 }
theorem hd_X1_handAddedUp : hdT yX1_handAddedUp 3 := by decide +kernel
set_option maxHeartbeats 40000000 in
set_option maxRecDepth 100000 in
theorem c_X1_handAddedUp (l : Launch) (D : va_G) (cI cC cQ : ClassId) (sz : Nat) (h0 : Nat) (a : Nat → Nat) (se : Nat → Int32) (ki : Nat → Int32) (ha : Nat → Int32) (sl : Nat → Int32) (ch : Nat → Int32) (ci : Nat → Int32) (dk : Nat → Int32) (li : Nat → Int32) (re : Nat → Int32) (dt : Nat → Int32) (la : Nat → Int32) (us : Int32) (sp : Int32) (rf : Int32) (x1 : Int32) (x2 : Int32) (x3 : Int32) (hi_x1 : vp_in x1 4) : Met l yX1_handAddedUp (wsO yX1_handAddedUp cX1_handAddedUp 8 (some .int)) rm_X1_handAddedUp (va_Pc [.ref h0, .int x1, .int x2, .int x3] (inW D (TYS cI cC cQ) (MW cI h0 a se ki ha sl ch ci dk li re dt la us sp rf) sz)) (va_Qi (fun (r : Int32) (_ : Unit) => r = sh_X1_handAddedUp se ha x1 x2 x3) (fun (u : Unit) => atW D (TYS cI cC cQ) (va_A (MW cI h0 a se ki ha sl ch ci dk li re dt la us sp rf) sz) (MW cI h0 a se ki ha sl ch ci dk li re dt la us sp rf)) (va_A (MW cI h0 a se ki ha sl ch ci dk li re dt la us sp rf) sz)) 0 0 (va_A (MW cI h0 a se ki ha sl ch ci dk li re dt la us sp rf) sz) := by
  refine k_meti .int rfl (by decide) (Nat.le_of_ble_eq_true rfl) ?_
  intro p e s m args below meth c A ls Q H locs hargs hret hx hb hts hown hml hname hN hA hS hP hK hD hl
  have hl : lv_has ls 8 [(0, .ref h0), (1, .int x1), (2, .int x2), (3, .int x3)] := hl
  obtain ⟨Xq, hX⟩ : ∃ Xq, Xq = sh_X1_handAddedUp se ha x1 x2 x3 := ⟨_, rfl⟩
  have hq : Xq = (lp_X1_handAddedUp_17 se ha x1 x2 x3 ((x3.toInt - (0 : Int32).toInt).toNat + 1) 0 0 0) := hX
  refine lv_aload_n hx hb dX1_handAddedUp_0 rfl (lv_at hl 0 rfl) ?_
  refine va_get (D := D) (ci := 1) (v := .ref (a 2)) (C := RX1) (T := TX1) (N := 14) hx hb hts inA1 hown hK hP 0 rfl rfl 2 (by decide) (hts _ wd_fl_RX1_18) (fun _ h9 => h9) rfl dX1_handAddedUp_1 ?_
  refine lv_iload_n hx hb dX1_handAddedUp_4 rfl (lv_at hl 1 rfl) ?_
  refine va_iald hx hb hK hP 3 0 rfl rfl hi_x1 dX1_handAddedUp_5 ?_
  refine lv_istore (lv' := [(4, .int (ha x1.toNatClampNeg)), (0, .ref h0), (1, .int x1), (2, .int x2), (3, .int x3)]) hx hb dX1_handAddedUp_6 hl (by decide) rfl (fun ls hl => ?_)
  refine lv_iconst (v := 0) hx hb dX1_handAddedUp_8 (by decide) ?_
  refine lv_istore (lv' := [(5, .int 0), (4, .int (ha x1.toNatClampNeg)), (0, .ref h0), (1, .int x1), (2, .int x2), (3, .int x3)]) hx hb dX1_handAddedUp_9 hl (by decide) rfl (fun ls hl => ?_)
  refine lv_iconst (v := 0) hx hb dX1_handAddedUp_11 (by decide) ?_
  refine lv_istore (lv' := [(6, .int 0), (5, .int 0), (4, .int (ha x1.toNatClampNeg)), (0, .ref h0), (1, .int x1), (2, .int x2), (3, .int x3)]) hx hb dX1_handAddedUp_12 hl (by decide) rfl (fun ls hl => ?_)
  refine lv_iconst (v := 0) hx hb dX1_handAddedUp_14 (by decide) ?_
  refine lv_istore (lv' := [(7, .int 0), (6, .int 0), (5, .int 0), (4, .int (ha x1.toNatClampNeg)), (0, .ref h0), (1, .int x1), (2, .int x2), (3, .int x3)]) hx hb dX1_handAddedUp_15 hl (by decide) rfl (fun ls hl => ?_)
  have L17 : ∀ (fu : Nat) (us5 : Int32) (st6 : Int32) (n7 : Int32) (H : Heap) (locs : List Loc) (ls : Array Slot), (x3.toInt - (n7 : Int32).toInt).toNat < fu → Xq = lp_X1_handAddedUp_17 se ha x1 x2 x3 fu us5 st6 n7 → va_P D vwCl (MW cI h0 a se ki ha sl ch ci dk li re dt la us sp rf) H → va_D A (MW cI h0 a se ki ha sl ch ci dk li re dt la us sp rf) → va_S A s.heap H locs → lv_has ls 8 [(7, .int n7), (6, .int st6), (5, .int us5), (4, .int (ha x1.toNatClampNeg)), (0, .ref h0), (1, .int x1), (2, .int x2), (3, .int x3)] → W p l e rm_X1_handAddedUp s m args below meth c H locs 0 0 Q (F0 m 17 ls []) := by
    intro fu
    induction fu with
    | zero => intro us5 st6 n7 H locs ls hmu; exact absurd hmu (Nat.not_lt_zero _)
    | succ fu ih =>
      intro us5 st6 n7 H locs ls hmu  hq hP hD hS hl
      have hq : Xq = (if x3 ≤ n7 then (((ha x1.toNatClampNeg) - us5) - st6) else (lp_X1_handAddedUp_17 se ha x1 x2 x3 fu (us5 + x2) (st6 + (sh_X4_share (((ha x1.toNatClampNeg) - (us5 + x2)) - st6) (se (1 : Int32).toNatClampNeg))) (n7 + 1))) := hq
      refine lv_iload hx hb dX1_handAddedUp_17 (lv_at hl 0 rfl) ?_
      refine lv_iload_n hx hb dX1_handAddedUp_19 rfl (lv_at hl 7 rfl) ?_
      refine lv_icmp_ge (tgt := 57) hx hb dX1_handAddedUp_20 (by decide) (fun c1 => ?_) (fun c1 => ?_)
      · have hq := it_pos hq c1
        refine lv_iload hx hb dX1_handAddedUp_57 (lv_at hl 3 rfl) ?_
        refine lv_iload hx hb dX1_handAddedUp_59 (lv_at hl 2 rfl) ?_
        refine lv_isub hx hb dX1_handAddedUp_61 ?_
        refine lv_iload hx hb dX1_handAddedUp_62 (lv_at hl 1 rfl) ?_
        refine lv_isub hx hb dX1_handAddedUp_64 ?_
        exact hret _ _ _ _ ((((ha x1.toNatClampNeg) - us5) - st6)) () dX1_handAddedUp_65 rfl (hq.symm.trans hX) hP hD hS
      · have hq := it_neg hq c1
        refine lv_iload hx hb dX1_handAddedUp_23 (lv_at hl 2 rfl) ?_
        refine lv_iload_n hx hb dX1_handAddedUp_25 rfl (lv_at hl 6 rfl) ?_
        refine lv_iadd hx hb dX1_handAddedUp_26 ?_
        refine lv_istore (lv' := [(5, .int (us5 + x2)), (7, .int n7), (6, .int st6), (4, .int (ha x1.toNatClampNeg)), (0, .ref h0), (1, .int x1), (2, .int x2), (3, .int x3)]) hx hb dX1_handAddedUp_27 hl (by decide) rfl (fun ls hl => ?_)
        refine lv_iload hx hb dX1_handAddedUp_29 (lv_at hl 2 rfl) ?_
        refine lv_iload hx hb dX1_handAddedUp_31 (lv_at hl 3 rfl) ?_
        refine lv_iload hx hb dX1_handAddedUp_33 (lv_at hl 0 rfl) ?_
        refine lv_isub hx hb dX1_handAddedUp_35 ?_
        refine lv_iload hx hb dX1_handAddedUp_36 (lv_at hl 2 rfl) ?_
        refine lv_isub hx hb dX1_handAddedUp_38 ?_
        refine lv_aload_n hx hb dX1_handAddedUp_39 rfl (lv_at hl 4 rfl) ?_
        refine va_get (D := D) (ci := 1) (v := .ref (a 0)) (C := RX1) (T := TX1) (N := 14) hx hb hts inA1 hown hK hP 0 rfl rfl 0 (by decide) (hts _ wd_fl_RX1_9) (fun _ h9 => h9) rfl dX1_handAddedUp_40 ?_
        refine lv_iconst (v := 1) hx hb dX1_handAddedUp_43 (by decide) ?_
        refine va_iald hx hb hK hP 1 0 rfl rfl (k_in (by decide)) dX1_handAddedUp_44 ?_
        have hPs : va_P D vwCl ([] ++ ([] ++ (MW cI h0 a se ki ha sl ch ci dk li re dt la us sp rf))) H := hP
        have hDs : va_D A ([] ++ ([] ++ (MW cI h0 a se ki ha sl ch ci dk li re dt la us sp rf))) := hD
        refine k_behi (X := []) (Y := (MW cI h0 a se ki ha sl ch ci dk li re dt la us sp rf)) (va_runSN (As := [.int (((ha x1.toNatClampNeg) - (us5 + x2)) - st6), .int (se (1 : Int32).toNatClampNeg)]) (rest := [.int st6]) ⟨hx, hb, hml, hown, hts⟩ (c_X4_share l D cI cC cQ H.size (((ha x1.toNatClampNeg) - (us5 + x2)) - st6) (se (1 : Int32).toNatClampNeg)) ⟨kcnB hts hN wn_nl_RX1_84 wd_ini_RX4 wd_code_yX4_share rfl rfl hd_X4_share ⟨Nat.le_of_ble_eq_true rfl, Nat.le_of_ble_eq_true rfl⟩, hts _ wd_st_yX4_share, trivial⟩ ⟨in_blind, k_pre hK (pa_l (pa_r hPs)) (da_l (da_r hDs)) hN⟩ rfl rfl hl.1 rfl (lv_room (Nat.le_of_ble_eq_true rfl)) dX1_handAddedUp_45 ⟨Nat.le_of_ble_eq_true rfl, Nat.le_of_ble_eq_true rfl⟩) hPs hDs hS hA (fun r5 u6 H locs hw7 hP hD hS => ?_)
        have hP : va_P D vwCl (MW cI h0 a se ki ha sl ch ci dk li re dt la us sp rf) H := hP
        have hD : va_D A (MW cI h0 a se ki ha sl ch ci dk li re dt la us sp rf) := hD
        have hw7 : r5 = (sh_X4_share (((ha x1.toNatClampNeg) - (us5 + x2)) - st6) (se (1 : Int32).toNatClampNeg)) := hw7
        subst hw7
        refine lv_iadd hx hb dX1_handAddedUp_48 ?_
        refine lv_istore (lv' := [(6, .int (st6 + (sh_X4_share (((ha x1.toNatClampNeg) - (us5 + x2)) - st6) (se (1 : Int32).toNatClampNeg)))), (5, .int (us5 + x2)), (7, .int n7), (4, .int (ha x1.toNatClampNeg)), (0, .ref h0), (1, .int x1), (2, .int x2), (3, .int x3)]) hx hb dX1_handAddedUp_49 hl (by decide) rfl (fun ls hl => ?_)
        refine lv_iinc (v := (n7 + 1)) (lv' := [(7, .int (n7 + 1)), (6, .int (st6 + (sh_X4_share (((ha x1.toNatClampNeg) - (us5 + x2)) - st6) (se (1 : Int32).toNatClampNeg)))), (5, .int (us5 + x2)), (4, .int (ha x1.toNatClampNeg)), (0, .ref h0), (1, .int x1), (2, .int x2), (3, .int x3)]) hx hb dX1_handAddedUp_51 hl (k := 2) rfl rfl (by decide) rfl (fun ls hl => ?_)
        refine lv_goto (tgt := 17) hx hb dX1_handAddedUp_54 (by decide) ?_
        exact ih ((us5 + x2)) ((st6 + (sh_X4_share (((ha x1.toNatClampNeg) - (us5 + x2)) - st6) (se (1 : Int32).toNatClampNeg)))) ((n7 + 1)) _ _ _ (k_mu hmu c1)  hq hP hD hS (lv_sub hl [0, 1, 2, 3, 4, 5, 6, 7] rfl)
  exact L17 ((x3.toInt - (0 : Int32).toInt).toNat + 1) (0) (0) (0) _ _ _ (Nat.lt_succ_self _)  hq hP hD hS (lv_sub hl [0, 1, 2, 3, 4, 5, 6, 7] rfl)
def sh_X1_becomeLike (se : Nat → Int32) (ki : Nat → Int32) (ha : Nat → Int32) (sl : Nat → Int32) (ch : Nat → Int32) (ci : Nat → Int32) (dk : Nat → Int32) (li : Nat → Int32) (re : Nat → Int32) (dt : Nat → Int32) (la : Nat → Int32) (se1 : Nat → Int32) (ki1 : Nat → Int32) (ha1 : Nat → Int32) (sl1 : Nat → Int32) (ch1 : Nat → Int32) (ci1 : Nat → Int32) (dk1 : Nat → Int32) (li1 : Nat → Int32) (re1 : Nat → Int32) (dt1 : Nat → Int32) (la1 : Nat → Int32) (us1 : Int32) (sp1 : Int32) (rf1 : Int32) : (Nat → Int32) × (Nat → Int32) × (Nat → Int32) × (Nat → Int32) × (Nat → Int32) × (Nat → Int32) × (Nat → Int32) × (Nat → Int32) × (Nat → Int32) × (Nat → Int32) × (Nat → Int32) × (Int32) × (Int32) × (Int32) := ((va_cpy se1 se (0 : Int32).toNatClampNeg (0 : Int32).toNatClampNeg (4 : Int32).toNatClampNeg), (va_cpy ki1 ki (0 : Int32).toNatClampNeg (0 : Int32).toNatClampNeg (4 : Int32).toNatClampNeg), (va_cpy ha1 ha (0 : Int32).toNatClampNeg (0 : Int32).toNatClampNeg (4 : Int32).toNatClampNeg), (va_cpy sl1 sl (0 : Int32).toNatClampNeg (0 : Int32).toNatClampNeg (4 : Int32).toNatClampNeg), (va_cpy ch1 ch (0 : Int32).toNatClampNeg (0 : Int32).toNatClampNeg (4 : Int32).toNatClampNeg), (va_cpy ci1 ci (0 : Int32).toNatClampNeg (0 : Int32).toNatClampNeg (2 : Int32).toNatClampNeg), (va_cpy dk1 dk (0 : Int32).toNatClampNeg (0 : Int32).toNatClampNeg (2 : Int32).toNatClampNeg), (va_cpy li1 li (0 : Int32).toNatClampNeg (0 : Int32).toNatClampNeg (2 : Int32).toNatClampNeg), (va_cpy re1 re (0 : Int32).toNatClampNeg (0 : Int32).toNatClampNeg (2 : Int32).toNatClampNeg), (va_cpy dt1 dt (0 : Int32).toNatClampNeg (0 : Int32).toNatClampNeg (2 : Int32).toNatClampNeg), (va_cpy la1 la (0 : Int32).toNatClampNeg (0 : Int32).toNatClampNeg (2 : Int32).toNatClampNeg), us1, sp1, rf1)
abbrev rm_X1_becomeLike : Room := { frames := 1, cells := 0, slots := 0, locals := 18 }
theorem hd_X1_becomeLike : hdT yX1_becomeLike 1 := by decide +kernel
set_option maxHeartbeats 40000000 in
set_option maxRecDepth 100000 in
theorem c_X1_becomeLike (l : Launch) (D : va_G) (cI cC cQ : ClassId) (sz : Nat) (h0 : Nat) (a : Nat → Nat) (h1 : Nat) (b : Nat → Nat) (se : Nat → Int32) (ki : Nat → Int32) (ha : Nat → Int32) (sl : Nat → Int32) (ch : Nat → Int32) (ci : Nat → Int32) (dk : Nat → Int32) (li : Nat → Int32) (re : Nat → Int32) (dt : Nat → Int32) (la : Nat → Int32) (us : Int32) (sp : Int32) (rf : Int32) (se1 : Nat → Int32) (ki1 : Nat → Int32) (ha1 : Nat → Int32) (sl1 : Nat → Int32) (ch1 : Nat → Int32) (ci1 : Nat → Int32) (dk1 : Nat → Int32) (li1 : Nat → Int32) (re1 : Nat → Int32) (dt1 : Nat → Int32) (la1 : Nat → Int32) (us1 : Int32) (sp1 : Int32) (rf1 : Int32)   : Met l yX1_becomeLike (wsO yX1_becomeLike cX1_becomeLike 2 none) rm_X1_becomeLike (va_Pc [.ref h0, .ref h1] (inW D (TYS cI cC cQ) (MW2 cI h0 a h1 b se ki ha sl ch ci dk li re dt la us sp rf se1 ki1 ha1 sl1 ch1 ci1 dk1 li1 re1 dt1 la1 us1 sp1 rf1) sz)) (va_Qv (fun (u : (Nat → Int32) × (Nat → Int32) × (Nat → Int32) × (Nat → Int32) × (Nat → Int32) × (Nat → Int32) × (Nat → Int32) × (Nat → Int32) × (Nat → Int32) × (Nat → Int32) × (Nat → Int32) × (Int32) × (Int32) × (Int32)) => u = sh_X1_becomeLike se ki ha sl ch ci dk li re dt la se1 ki1 ha1 sl1 ch1 ci1 dk1 li1 re1 dt1 la1 us1 sp1 rf1) (fun (u : (Nat → Int32) × (Nat → Int32) × (Nat → Int32) × (Nat → Int32) × (Nat → Int32) × (Nat → Int32) × (Nat → Int32) × (Nat → Int32) × (Nat → Int32) × (Nat → Int32) × (Nat → Int32) × (Int32) × (Int32) × (Int32)) => atW D (TYS cI cC cQ) (va_A (MW2 cI h0 a h1 b se ki ha sl ch ci dk li re dt la us sp rf se1 ki1 ha1 sl1 ch1 ci1 dk1 li1 re1 dt1 la1 us1 sp1 rf1) sz) (MW2 cI h0 a h1 b u.1 u.2.1 u.2.2.1 u.2.2.2.1 u.2.2.2.2.1 u.2.2.2.2.2.1 u.2.2.2.2.2.2.1 u.2.2.2.2.2.2.2.1 u.2.2.2.2.2.2.2.2.1 u.2.2.2.2.2.2.2.2.2.1 u.2.2.2.2.2.2.2.2.2.2.1 u.2.2.2.2.2.2.2.2.2.2.2.1 u.2.2.2.2.2.2.2.2.2.2.2.2.1 u.2.2.2.2.2.2.2.2.2.2.2.2.2 se1 ki1 ha1 sl1 ch1 ci1 dk1 li1 re1 dt1 la1 us1 sp1 rf1)) (va_A (MW2 cI h0 a h1 b se ki ha sl ch ci dk li re dt la us sp rf se1 ki1 ha1 sl1 ch1 ci1 dk1 li1 re1 dt1 la1 us1 sp1 rf1) sz)) 0 0 (va_A (MW2 cI h0 a h1 b se ki ha sl ch ci dk li re dt la us sp rf se1 ki1 ha1 sl1 ch1 ci1 dk1 li1 re1 dt1 la1 us1 sp1 rf1) sz) := by
  refine k_metv rfl (by decide) (Nat.le_of_ble_eq_true rfl) ?_
  intro p e s m args below meth c A ls Q H locs hargs hret hx hb hts hown hml hname hN hA hS hP hK hD hl
  have hl : lv_has ls 2 [(0, .ref h0), (1, .ref h1)] := hl
  obtain ⟨Xq, hX⟩ : ∃ Xq, Xq = sh_X1_becomeLike se ki ha sl ch ci dk li re dt la se1 ki1 ha1 sl1 ch1 ci1 dk1 li1 re1 dt1 la1 us1 sp1 rf1 := ⟨_, rfl⟩
  have hq : Xq = ((va_cpy se1 se (0 : Int32).toNatClampNeg (0 : Int32).toNatClampNeg (4 : Int32).toNatClampNeg), (va_cpy ki1 ki (0 : Int32).toNatClampNeg (0 : Int32).toNatClampNeg (4 : Int32).toNatClampNeg), (va_cpy ha1 ha (0 : Int32).toNatClampNeg (0 : Int32).toNatClampNeg (4 : Int32).toNatClampNeg), (va_cpy sl1 sl (0 : Int32).toNatClampNeg (0 : Int32).toNatClampNeg (4 : Int32).toNatClampNeg), (va_cpy ch1 ch (0 : Int32).toNatClampNeg (0 : Int32).toNatClampNeg (4 : Int32).toNatClampNeg), (va_cpy ci1 ci (0 : Int32).toNatClampNeg (0 : Int32).toNatClampNeg (2 : Int32).toNatClampNeg), (va_cpy dk1 dk (0 : Int32).toNatClampNeg (0 : Int32).toNatClampNeg (2 : Int32).toNatClampNeg), (va_cpy li1 li (0 : Int32).toNatClampNeg (0 : Int32).toNatClampNeg (2 : Int32).toNatClampNeg), (va_cpy re1 re (0 : Int32).toNatClampNeg (0 : Int32).toNatClampNeg (2 : Int32).toNatClampNeg), (va_cpy dt1 dt (0 : Int32).toNatClampNeg (0 : Int32).toNatClampNeg (2 : Int32).toNatClampNeg), (va_cpy la1 la (0 : Int32).toNatClampNeg (0 : Int32).toNatClampNeg (2 : Int32).toNatClampNeg), us1, sp1, rf1) := hX
  refine lv_aload_n hx hb dX1_becomeLike_0 rfl (lv_at hl 1 rfl) ?_
  refine va_get (D := D) (ci := 1) (v := .ref (b 0)) (C := RX1) (T := TX1) (N := 14) hx hb hts inA1 hown hK hP 12 rfl rfl 0 (by decide) (hts _ wd_fl_RX1_9) (fun _ h9 => h9) rfl dX1_becomeLike_1 ?_
  refine lv_iconst (v := 0) hx hb dX1_becomeLike_4 (by decide) ?_
  refine lv_aload_n hx hb dX1_becomeLike_5 rfl (lv_at hl 0 rfl) ?_
  refine va_get (D := D) (ci := 1) (v := .ref (a 0)) (C := RX1) (T := TX1) (N := 14) hx hb hts inA1 hown hK hP 0 rfl rfl 0 (by decide) (hts _ wd_fl_RX1_9) (fun _ h9 => h9) rfl dX1_becomeLike_6 ?_
  refine lv_iconst (v := 0) hx hb dX1_becomeLike_9 (by decide) ?_
  refine lv_iconst (v := 4) hx hb dX1_becomeLike_10 (by decide) ?_
  refine va_copyi hx hb (hml.trans hl.1.symm) hown (hts _ wd_ml_RX1_55) (hts _ wd_nat_arraycopyName) (hts _ wd_st_arraycopyName) (hts _ (wd_ini_RJ10)) hK hP hD hS 13 1 0 0 rfl rfl rfl rfl rfl (by decide) (by decide) (by decide) (by decide) (by decide) (fun i _ => rfl) (Nat.le_of_ble_eq_true rfl) (Nat.le_of_ble_eq_true rfl) dX1_becomeLike_11 (fun H locs hP hD hS => ?_)
  have hP : va_P D vwCl (MW2 cI h0 a h1 b (va_cpy se1 se (0 : Int32).toNatClampNeg (0 : Int32).toNatClampNeg (4 : Int32).toNatClampNeg) ki ha sl ch ci dk li re dt la us sp rf se1 ki1 ha1 sl1 ch1 ci1 dk1 li1 re1 dt1 la1 us1 sp1 rf1) H := hP
  have hD : va_D A (MW2 cI h0 a h1 b (va_cpy se1 se (0 : Int32).toNatClampNeg (0 : Int32).toNatClampNeg (4 : Int32).toNatClampNeg) ki ha sl ch ci dk li re dt la us sp rf se1 ki1 ha1 sl1 ch1 ci1 dk1 li1 re1 dt1 la1 us1 sp1 rf1) := hD
  refine lv_aload_n hx hb dX1_becomeLike_14 rfl (lv_at hl 1 rfl) ?_
  refine va_get (D := D) (ci := 1) (v := .ref (b 1)) (C := RX1) (T := TX1) (N := 14) hx hb hts inA1 hown hK hP 12 rfl rfl 1 (by decide) (hts _ wd_fl_RX1_15) (fun _ h9 => h9) rfl dX1_becomeLike_15 ?_
  refine lv_iconst (v := 0) hx hb dX1_becomeLike_18 (by decide) ?_
  refine lv_aload_n hx hb dX1_becomeLike_19 rfl (lv_at hl 0 rfl) ?_
  refine va_get (D := D) (ci := 1) (v := .ref (a 1)) (C := RX1) (T := TX1) (N := 14) hx hb hts inA1 hown hK hP 0 rfl rfl 1 (by decide) (hts _ wd_fl_RX1_15) (fun _ h9 => h9) rfl dX1_becomeLike_20 ?_
  refine lv_iconst (v := 0) hx hb dX1_becomeLike_23 (by decide) ?_
  refine lv_iconst (v := 4) hx hb dX1_becomeLike_24 (by decide) ?_
  refine va_copyi hx hb (hml.trans hl.1.symm) hown (hts _ wd_ml_RX1_55) (hts _ wd_nat_arraycopyName) (hts _ wd_st_arraycopyName) (hts _ (wd_ini_RJ10)) hK hP hD hS 14 2 0 0 rfl rfl rfl rfl rfl (by decide) (by decide) (by decide) (by decide) (by decide) (fun i _ => rfl) (Nat.le_of_ble_eq_true rfl) (Nat.le_of_ble_eq_true rfl) dX1_becomeLike_25 (fun H locs hP hD hS => ?_)
  have hP : va_P D vwCl (MW2 cI h0 a h1 b (va_cpy se1 se (0 : Int32).toNatClampNeg (0 : Int32).toNatClampNeg (4 : Int32).toNatClampNeg) (va_cpy ki1 ki (0 : Int32).toNatClampNeg (0 : Int32).toNatClampNeg (4 : Int32).toNatClampNeg) ha sl ch ci dk li re dt la us sp rf se1 ki1 ha1 sl1 ch1 ci1 dk1 li1 re1 dt1 la1 us1 sp1 rf1) H := hP
  have hD : va_D A (MW2 cI h0 a h1 b (va_cpy se1 se (0 : Int32).toNatClampNeg (0 : Int32).toNatClampNeg (4 : Int32).toNatClampNeg) (va_cpy ki1 ki (0 : Int32).toNatClampNeg (0 : Int32).toNatClampNeg (4 : Int32).toNatClampNeg) ha sl ch ci dk li re dt la us sp rf se1 ki1 ha1 sl1 ch1 ci1 dk1 li1 re1 dt1 la1 us1 sp1 rf1) := hD
  refine lv_aload_n hx hb dX1_becomeLike_28 rfl (lv_at hl 1 rfl) ?_
  refine va_get (D := D) (ci := 1) (v := .ref (b 2)) (C := RX1) (T := TX1) (N := 14) hx hb hts inA1 hown hK hP 12 rfl rfl 2 (by decide) (hts _ wd_fl_RX1_18) (fun _ h9 => h9) rfl dX1_becomeLike_29 ?_
  refine lv_iconst (v := 0) hx hb dX1_becomeLike_32 (by decide) ?_
  refine lv_aload_n hx hb dX1_becomeLike_33 rfl (lv_at hl 0 rfl) ?_
  refine va_get (D := D) (ci := 1) (v := .ref (a 2)) (C := RX1) (T := TX1) (N := 14) hx hb hts inA1 hown hK hP 0 rfl rfl 2 (by decide) (hts _ wd_fl_RX1_18) (fun _ h9 => h9) rfl dX1_becomeLike_34 ?_
  refine lv_iconst (v := 0) hx hb dX1_becomeLike_37 (by decide) ?_
  refine lv_iconst (v := 4) hx hb dX1_becomeLike_38 (by decide) ?_
  refine va_copyi hx hb (hml.trans hl.1.symm) hown (hts _ wd_ml_RX1_55) (hts _ wd_nat_arraycopyName) (hts _ wd_st_arraycopyName) (hts _ (wd_ini_RJ10)) hK hP hD hS 15 3 0 0 rfl rfl rfl rfl rfl (by decide) (by decide) (by decide) (by decide) (by decide) (fun i _ => rfl) (Nat.le_of_ble_eq_true rfl) (Nat.le_of_ble_eq_true rfl) dX1_becomeLike_39 (fun H locs hP hD hS => ?_)
  have hP : va_P D vwCl (MW2 cI h0 a h1 b (va_cpy se1 se (0 : Int32).toNatClampNeg (0 : Int32).toNatClampNeg (4 : Int32).toNatClampNeg) (va_cpy ki1 ki (0 : Int32).toNatClampNeg (0 : Int32).toNatClampNeg (4 : Int32).toNatClampNeg) (va_cpy ha1 ha (0 : Int32).toNatClampNeg (0 : Int32).toNatClampNeg (4 : Int32).toNatClampNeg) sl ch ci dk li re dt la us sp rf se1 ki1 ha1 sl1 ch1 ci1 dk1 li1 re1 dt1 la1 us1 sp1 rf1) H := hP
  have hD : va_D A (MW2 cI h0 a h1 b (va_cpy se1 se (0 : Int32).toNatClampNeg (0 : Int32).toNatClampNeg (4 : Int32).toNatClampNeg) (va_cpy ki1 ki (0 : Int32).toNatClampNeg (0 : Int32).toNatClampNeg (4 : Int32).toNatClampNeg) (va_cpy ha1 ha (0 : Int32).toNatClampNeg (0 : Int32).toNatClampNeg (4 : Int32).toNatClampNeg) sl ch ci dk li re dt la us sp rf se1 ki1 ha1 sl1 ch1 ci1 dk1 li1 re1 dt1 la1 us1 sp1 rf1) := hD
  refine lv_aload_n hx hb dX1_becomeLike_42 rfl (lv_at hl 1 rfl) ?_
  refine va_get (D := D) (ci := 1) (v := .ref (b 3)) (C := RX1) (T := TX1) (N := 14) hx hb hts inA1 hown hK hP 12 rfl rfl 3 (by decide) (hts _ wd_fl_RX1_21) (fun _ h9 => h9) rfl dX1_becomeLike_43 ?_
  refine lv_iconst (v := 0) hx hb dX1_becomeLike_46 (by decide) ?_
  refine lv_aload_n hx hb dX1_becomeLike_47 rfl (lv_at hl 0 rfl) ?_
  refine va_get (D := D) (ci := 1) (v := .ref (a 3)) (C := RX1) (T := TX1) (N := 14) hx hb hts inA1 hown hK hP 0 rfl rfl 3 (by decide) (hts _ wd_fl_RX1_21) (fun _ h9 => h9) rfl dX1_becomeLike_48 ?_
  refine lv_iconst (v := 0) hx hb dX1_becomeLike_51 (by decide) ?_
  refine lv_iconst (v := 4) hx hb dX1_becomeLike_52 (by decide) ?_
  refine va_copyi hx hb (hml.trans hl.1.symm) hown (hts _ wd_ml_RX1_55) (hts _ wd_nat_arraycopyName) (hts _ wd_st_arraycopyName) (hts _ (wd_ini_RJ10)) hK hP hD hS 16 4 0 0 rfl rfl rfl rfl rfl (by decide) (by decide) (by decide) (by decide) (by decide) (fun i _ => rfl) (Nat.le_of_ble_eq_true rfl) (Nat.le_of_ble_eq_true rfl) dX1_becomeLike_53 (fun H locs hP hD hS => ?_)
  have hP : va_P D vwCl (MW2 cI h0 a h1 b (va_cpy se1 se (0 : Int32).toNatClampNeg (0 : Int32).toNatClampNeg (4 : Int32).toNatClampNeg) (va_cpy ki1 ki (0 : Int32).toNatClampNeg (0 : Int32).toNatClampNeg (4 : Int32).toNatClampNeg) (va_cpy ha1 ha (0 : Int32).toNatClampNeg (0 : Int32).toNatClampNeg (4 : Int32).toNatClampNeg) (va_cpy sl1 sl (0 : Int32).toNatClampNeg (0 : Int32).toNatClampNeg (4 : Int32).toNatClampNeg) ch ci dk li re dt la us sp rf se1 ki1 ha1 sl1 ch1 ci1 dk1 li1 re1 dt1 la1 us1 sp1 rf1) H := hP
  have hD : va_D A (MW2 cI h0 a h1 b (va_cpy se1 se (0 : Int32).toNatClampNeg (0 : Int32).toNatClampNeg (4 : Int32).toNatClampNeg) (va_cpy ki1 ki (0 : Int32).toNatClampNeg (0 : Int32).toNatClampNeg (4 : Int32).toNatClampNeg) (va_cpy ha1 ha (0 : Int32).toNatClampNeg (0 : Int32).toNatClampNeg (4 : Int32).toNatClampNeg) (va_cpy sl1 sl (0 : Int32).toNatClampNeg (0 : Int32).toNatClampNeg (4 : Int32).toNatClampNeg) ch ci dk li re dt la us sp rf se1 ki1 ha1 sl1 ch1 ci1 dk1 li1 re1 dt1 la1 us1 sp1 rf1) := hD
  refine lv_aload_n hx hb dX1_becomeLike_56 rfl (lv_at hl 1 rfl) ?_
  refine va_get (D := D) (ci := 1) (v := .ref (b 4)) (C := RX1) (T := TX1) (N := 14) hx hb hts inA1 hown hK hP 12 rfl rfl 4 (by decide) (hts _ wd_fl_RX1_24) (fun _ h9 => h9) rfl dX1_becomeLike_57 ?_
  refine lv_iconst (v := 0) hx hb dX1_becomeLike_60 (by decide) ?_
  refine lv_aload_n hx hb dX1_becomeLike_61 rfl (lv_at hl 0 rfl) ?_
  refine va_get (D := D) (ci := 1) (v := .ref (a 4)) (C := RX1) (T := TX1) (N := 14) hx hb hts inA1 hown hK hP 0 rfl rfl 4 (by decide) (hts _ wd_fl_RX1_24) (fun _ h9 => h9) rfl dX1_becomeLike_62 ?_
  refine lv_iconst (v := 0) hx hb dX1_becomeLike_65 (by decide) ?_
  refine lv_iconst (v := 4) hx hb dX1_becomeLike_66 (by decide) ?_
  refine va_copyi hx hb (hml.trans hl.1.symm) hown (hts _ wd_ml_RX1_55) (hts _ wd_nat_arraycopyName) (hts _ wd_st_arraycopyName) (hts _ (wd_ini_RJ10)) hK hP hD hS 17 5 0 0 rfl rfl rfl rfl rfl (by decide) (by decide) (by decide) (by decide) (by decide) (fun i _ => rfl) (Nat.le_of_ble_eq_true rfl) (Nat.le_of_ble_eq_true rfl) dX1_becomeLike_67 (fun H locs hP hD hS => ?_)
  have hP : va_P D vwCl (MW2 cI h0 a h1 b (va_cpy se1 se (0 : Int32).toNatClampNeg (0 : Int32).toNatClampNeg (4 : Int32).toNatClampNeg) (va_cpy ki1 ki (0 : Int32).toNatClampNeg (0 : Int32).toNatClampNeg (4 : Int32).toNatClampNeg) (va_cpy ha1 ha (0 : Int32).toNatClampNeg (0 : Int32).toNatClampNeg (4 : Int32).toNatClampNeg) (va_cpy sl1 sl (0 : Int32).toNatClampNeg (0 : Int32).toNatClampNeg (4 : Int32).toNatClampNeg) (va_cpy ch1 ch (0 : Int32).toNatClampNeg (0 : Int32).toNatClampNeg (4 : Int32).toNatClampNeg) ci dk li re dt la us sp rf se1 ki1 ha1 sl1 ch1 ci1 dk1 li1 re1 dt1 la1 us1 sp1 rf1) H := hP
  have hD : va_D A (MW2 cI h0 a h1 b (va_cpy se1 se (0 : Int32).toNatClampNeg (0 : Int32).toNatClampNeg (4 : Int32).toNatClampNeg) (va_cpy ki1 ki (0 : Int32).toNatClampNeg (0 : Int32).toNatClampNeg (4 : Int32).toNatClampNeg) (va_cpy ha1 ha (0 : Int32).toNatClampNeg (0 : Int32).toNatClampNeg (4 : Int32).toNatClampNeg) (va_cpy sl1 sl (0 : Int32).toNatClampNeg (0 : Int32).toNatClampNeg (4 : Int32).toNatClampNeg) (va_cpy ch1 ch (0 : Int32).toNatClampNeg (0 : Int32).toNatClampNeg (4 : Int32).toNatClampNeg) ci dk li re dt la us sp rf se1 ki1 ha1 sl1 ch1 ci1 dk1 li1 re1 dt1 la1 us1 sp1 rf1) := hD
  refine lv_aload_n hx hb dX1_becomeLike_70 rfl (lv_at hl 1 rfl) ?_
  refine va_get (D := D) (ci := 1) (v := .ref (b 5)) (C := RX1) (T := TX1) (N := 14) hx hb hts inA1 hown hK hP 12 rfl rfl 5 (by decide) (hts _ wd_fl_RX1_27) (fun _ h9 => h9) rfl dX1_becomeLike_71 ?_
  refine lv_iconst (v := 0) hx hb dX1_becomeLike_74 (by decide) ?_
  refine lv_aload_n hx hb dX1_becomeLike_75 rfl (lv_at hl 0 rfl) ?_
  refine va_get (D := D) (ci := 1) (v := .ref (a 5)) (C := RX1) (T := TX1) (N := 14) hx hb hts inA1 hown hK hP 0 rfl rfl 5 (by decide) (hts _ wd_fl_RX1_27) (fun _ h9 => h9) rfl dX1_becomeLike_76 ?_
  refine lv_iconst (v := 0) hx hb dX1_becomeLike_79 (by decide) ?_
  refine lv_iconst (v := 2) hx hb dX1_becomeLike_80 (by decide) ?_
  refine va_copyi hx hb (hml.trans hl.1.symm) hown (hts _ wd_ml_RX1_55) (hts _ wd_nat_arraycopyName) (hts _ wd_st_arraycopyName) (hts _ (wd_ini_RJ10)) hK hP hD hS 18 6 0 0 rfl rfl rfl rfl rfl (by decide) (by decide) (by decide) (by decide) (by decide) (fun i _ => rfl) (Nat.le_of_ble_eq_true rfl) (Nat.le_of_ble_eq_true rfl) dX1_becomeLike_81 (fun H locs hP hD hS => ?_)
  have hP : va_P D vwCl (MW2 cI h0 a h1 b (va_cpy se1 se (0 : Int32).toNatClampNeg (0 : Int32).toNatClampNeg (4 : Int32).toNatClampNeg) (va_cpy ki1 ki (0 : Int32).toNatClampNeg (0 : Int32).toNatClampNeg (4 : Int32).toNatClampNeg) (va_cpy ha1 ha (0 : Int32).toNatClampNeg (0 : Int32).toNatClampNeg (4 : Int32).toNatClampNeg) (va_cpy sl1 sl (0 : Int32).toNatClampNeg (0 : Int32).toNatClampNeg (4 : Int32).toNatClampNeg) (va_cpy ch1 ch (0 : Int32).toNatClampNeg (0 : Int32).toNatClampNeg (4 : Int32).toNatClampNeg) (va_cpy ci1 ci (0 : Int32).toNatClampNeg (0 : Int32).toNatClampNeg (2 : Int32).toNatClampNeg) dk li re dt la us sp rf se1 ki1 ha1 sl1 ch1 ci1 dk1 li1 re1 dt1 la1 us1 sp1 rf1) H := hP
  have hD : va_D A (MW2 cI h0 a h1 b (va_cpy se1 se (0 : Int32).toNatClampNeg (0 : Int32).toNatClampNeg (4 : Int32).toNatClampNeg) (va_cpy ki1 ki (0 : Int32).toNatClampNeg (0 : Int32).toNatClampNeg (4 : Int32).toNatClampNeg) (va_cpy ha1 ha (0 : Int32).toNatClampNeg (0 : Int32).toNatClampNeg (4 : Int32).toNatClampNeg) (va_cpy sl1 sl (0 : Int32).toNatClampNeg (0 : Int32).toNatClampNeg (4 : Int32).toNatClampNeg) (va_cpy ch1 ch (0 : Int32).toNatClampNeg (0 : Int32).toNatClampNeg (4 : Int32).toNatClampNeg) (va_cpy ci1 ci (0 : Int32).toNatClampNeg (0 : Int32).toNatClampNeg (2 : Int32).toNatClampNeg) dk li re dt la us sp rf se1 ki1 ha1 sl1 ch1 ci1 dk1 li1 re1 dt1 la1 us1 sp1 rf1) := hD
  refine lv_aload_n hx hb dX1_becomeLike_84 rfl (lv_at hl 1 rfl) ?_
  refine va_get (D := D) (ci := 1) (v := .ref (b 6)) (C := RX1) (T := TX1) (N := 14) hx hb hts inA1 hown hK hP 12 rfl rfl 6 (by decide) (hts _ wd_fl_RX1_30) (fun _ h9 => h9) rfl dX1_becomeLike_85 ?_
  refine lv_iconst (v := 0) hx hb dX1_becomeLike_88 (by decide) ?_
  refine lv_aload_n hx hb dX1_becomeLike_89 rfl (lv_at hl 0 rfl) ?_
  refine va_get (D := D) (ci := 1) (v := .ref (a 6)) (C := RX1) (T := TX1) (N := 14) hx hb hts inA1 hown hK hP 0 rfl rfl 6 (by decide) (hts _ wd_fl_RX1_30) (fun _ h9 => h9) rfl dX1_becomeLike_90 ?_
  refine lv_iconst (v := 0) hx hb dX1_becomeLike_93 (by decide) ?_
  refine lv_iconst (v := 2) hx hb dX1_becomeLike_94 (by decide) ?_
  refine va_copyi hx hb (hml.trans hl.1.symm) hown (hts _ wd_ml_RX1_55) (hts _ wd_nat_arraycopyName) (hts _ wd_st_arraycopyName) (hts _ (wd_ini_RJ10)) hK hP hD hS 19 7 0 0 rfl rfl rfl rfl rfl (by decide) (by decide) (by decide) (by decide) (by decide) (fun i _ => rfl) (Nat.le_of_ble_eq_true rfl) (Nat.le_of_ble_eq_true rfl) dX1_becomeLike_95 (fun H locs hP hD hS => ?_)
  have hP : va_P D vwCl (MW2 cI h0 a h1 b (va_cpy se1 se (0 : Int32).toNatClampNeg (0 : Int32).toNatClampNeg (4 : Int32).toNatClampNeg) (va_cpy ki1 ki (0 : Int32).toNatClampNeg (0 : Int32).toNatClampNeg (4 : Int32).toNatClampNeg) (va_cpy ha1 ha (0 : Int32).toNatClampNeg (0 : Int32).toNatClampNeg (4 : Int32).toNatClampNeg) (va_cpy sl1 sl (0 : Int32).toNatClampNeg (0 : Int32).toNatClampNeg (4 : Int32).toNatClampNeg) (va_cpy ch1 ch (0 : Int32).toNatClampNeg (0 : Int32).toNatClampNeg (4 : Int32).toNatClampNeg) (va_cpy ci1 ci (0 : Int32).toNatClampNeg (0 : Int32).toNatClampNeg (2 : Int32).toNatClampNeg) (va_cpy dk1 dk (0 : Int32).toNatClampNeg (0 : Int32).toNatClampNeg (2 : Int32).toNatClampNeg) li re dt la us sp rf se1 ki1 ha1 sl1 ch1 ci1 dk1 li1 re1 dt1 la1 us1 sp1 rf1) H := hP
  have hD : va_D A (MW2 cI h0 a h1 b (va_cpy se1 se (0 : Int32).toNatClampNeg (0 : Int32).toNatClampNeg (4 : Int32).toNatClampNeg) (va_cpy ki1 ki (0 : Int32).toNatClampNeg (0 : Int32).toNatClampNeg (4 : Int32).toNatClampNeg) (va_cpy ha1 ha (0 : Int32).toNatClampNeg (0 : Int32).toNatClampNeg (4 : Int32).toNatClampNeg) (va_cpy sl1 sl (0 : Int32).toNatClampNeg (0 : Int32).toNatClampNeg (4 : Int32).toNatClampNeg) (va_cpy ch1 ch (0 : Int32).toNatClampNeg (0 : Int32).toNatClampNeg (4 : Int32).toNatClampNeg) (va_cpy ci1 ci (0 : Int32).toNatClampNeg (0 : Int32).toNatClampNeg (2 : Int32).toNatClampNeg) (va_cpy dk1 dk (0 : Int32).toNatClampNeg (0 : Int32).toNatClampNeg (2 : Int32).toNatClampNeg) li re dt la us sp rf se1 ki1 ha1 sl1 ch1 ci1 dk1 li1 re1 dt1 la1 us1 sp1 rf1) := hD
  refine lv_aload_n hx hb dX1_becomeLike_98 rfl (lv_at hl 1 rfl) ?_
  refine va_get (D := D) (ci := 1) (v := .ref (b 7)) (C := RX1) (T := TX1) (N := 14) hx hb hts inA1 hown hK hP 12 rfl rfl 7 (by decide) (hts _ wd_fl_RX1_33) (fun _ h9 => h9) rfl dX1_becomeLike_99 ?_
  refine lv_iconst (v := 0) hx hb dX1_becomeLike_102 (by decide) ?_
  refine lv_aload_n hx hb dX1_becomeLike_103 rfl (lv_at hl 0 rfl) ?_
  refine va_get (D := D) (ci := 1) (v := .ref (a 7)) (C := RX1) (T := TX1) (N := 14) hx hb hts inA1 hown hK hP 0 rfl rfl 7 (by decide) (hts _ wd_fl_RX1_33) (fun _ h9 => h9) rfl dX1_becomeLike_104 ?_
  refine lv_iconst (v := 0) hx hb dX1_becomeLike_107 (by decide) ?_
  refine lv_iconst (v := 2) hx hb dX1_becomeLike_108 (by decide) ?_
  refine va_copyi hx hb (hml.trans hl.1.symm) hown (hts _ wd_ml_RX1_55) (hts _ wd_nat_arraycopyName) (hts _ wd_st_arraycopyName) (hts _ (wd_ini_RJ10)) hK hP hD hS 20 8 0 0 rfl rfl rfl rfl rfl (by decide) (by decide) (by decide) (by decide) (by decide) (fun i _ => rfl) (Nat.le_of_ble_eq_true rfl) (Nat.le_of_ble_eq_true rfl) dX1_becomeLike_109 (fun H locs hP hD hS => ?_)
  have hP : va_P D vwCl (MW2 cI h0 a h1 b (va_cpy se1 se (0 : Int32).toNatClampNeg (0 : Int32).toNatClampNeg (4 : Int32).toNatClampNeg) (va_cpy ki1 ki (0 : Int32).toNatClampNeg (0 : Int32).toNatClampNeg (4 : Int32).toNatClampNeg) (va_cpy ha1 ha (0 : Int32).toNatClampNeg (0 : Int32).toNatClampNeg (4 : Int32).toNatClampNeg) (va_cpy sl1 sl (0 : Int32).toNatClampNeg (0 : Int32).toNatClampNeg (4 : Int32).toNatClampNeg) (va_cpy ch1 ch (0 : Int32).toNatClampNeg (0 : Int32).toNatClampNeg (4 : Int32).toNatClampNeg) (va_cpy ci1 ci (0 : Int32).toNatClampNeg (0 : Int32).toNatClampNeg (2 : Int32).toNatClampNeg) (va_cpy dk1 dk (0 : Int32).toNatClampNeg (0 : Int32).toNatClampNeg (2 : Int32).toNatClampNeg) (va_cpy li1 li (0 : Int32).toNatClampNeg (0 : Int32).toNatClampNeg (2 : Int32).toNatClampNeg) re dt la us sp rf se1 ki1 ha1 sl1 ch1 ci1 dk1 li1 re1 dt1 la1 us1 sp1 rf1) H := hP
  have hD : va_D A (MW2 cI h0 a h1 b (va_cpy se1 se (0 : Int32).toNatClampNeg (0 : Int32).toNatClampNeg (4 : Int32).toNatClampNeg) (va_cpy ki1 ki (0 : Int32).toNatClampNeg (0 : Int32).toNatClampNeg (4 : Int32).toNatClampNeg) (va_cpy ha1 ha (0 : Int32).toNatClampNeg (0 : Int32).toNatClampNeg (4 : Int32).toNatClampNeg) (va_cpy sl1 sl (0 : Int32).toNatClampNeg (0 : Int32).toNatClampNeg (4 : Int32).toNatClampNeg) (va_cpy ch1 ch (0 : Int32).toNatClampNeg (0 : Int32).toNatClampNeg (4 : Int32).toNatClampNeg) (va_cpy ci1 ci (0 : Int32).toNatClampNeg (0 : Int32).toNatClampNeg (2 : Int32).toNatClampNeg) (va_cpy dk1 dk (0 : Int32).toNatClampNeg (0 : Int32).toNatClampNeg (2 : Int32).toNatClampNeg) (va_cpy li1 li (0 : Int32).toNatClampNeg (0 : Int32).toNatClampNeg (2 : Int32).toNatClampNeg) re dt la us sp rf se1 ki1 ha1 sl1 ch1 ci1 dk1 li1 re1 dt1 la1 us1 sp1 rf1) := hD
  refine lv_aload_n hx hb dX1_becomeLike_112 rfl (lv_at hl 1 rfl) ?_
  refine va_get (D := D) (ci := 1) (v := .ref (b 8)) (C := RX1) (T := TX1) (N := 14) hx hb hts inA1 hown hK hP 12 rfl rfl 8 (by decide) (hts _ wd_fl_RX1_36) (fun _ h9 => h9) rfl dX1_becomeLike_113 ?_
  refine lv_iconst (v := 0) hx hb dX1_becomeLike_116 (by decide) ?_
  refine lv_aload_n hx hb dX1_becomeLike_117 rfl (lv_at hl 0 rfl) ?_
  refine va_get (D := D) (ci := 1) (v := .ref (a 8)) (C := RX1) (T := TX1) (N := 14) hx hb hts inA1 hown hK hP 0 rfl rfl 8 (by decide) (hts _ wd_fl_RX1_36) (fun _ h9 => h9) rfl dX1_becomeLike_118 ?_
  refine lv_iconst (v := 0) hx hb dX1_becomeLike_121 (by decide) ?_
  refine lv_iconst (v := 2) hx hb dX1_becomeLike_122 (by decide) ?_
  refine va_copyi hx hb (hml.trans hl.1.symm) hown (hts _ wd_ml_RX1_55) (hts _ wd_nat_arraycopyName) (hts _ wd_st_arraycopyName) (hts _ (wd_ini_RJ10)) hK hP hD hS 21 9 0 0 rfl rfl rfl rfl rfl (by decide) (by decide) (by decide) (by decide) (by decide) (fun i _ => rfl) (Nat.le_of_ble_eq_true rfl) (Nat.le_of_ble_eq_true rfl) dX1_becomeLike_123 (fun H locs hP hD hS => ?_)
  have hP : va_P D vwCl (MW2 cI h0 a h1 b (va_cpy se1 se (0 : Int32).toNatClampNeg (0 : Int32).toNatClampNeg (4 : Int32).toNatClampNeg) (va_cpy ki1 ki (0 : Int32).toNatClampNeg (0 : Int32).toNatClampNeg (4 : Int32).toNatClampNeg) (va_cpy ha1 ha (0 : Int32).toNatClampNeg (0 : Int32).toNatClampNeg (4 : Int32).toNatClampNeg) (va_cpy sl1 sl (0 : Int32).toNatClampNeg (0 : Int32).toNatClampNeg (4 : Int32).toNatClampNeg) (va_cpy ch1 ch (0 : Int32).toNatClampNeg (0 : Int32).toNatClampNeg (4 : Int32).toNatClampNeg) (va_cpy ci1 ci (0 : Int32).toNatClampNeg (0 : Int32).toNatClampNeg (2 : Int32).toNatClampNeg) (va_cpy dk1 dk (0 : Int32).toNatClampNeg (0 : Int32).toNatClampNeg (2 : Int32).toNatClampNeg) (va_cpy li1 li (0 : Int32).toNatClampNeg (0 : Int32).toNatClampNeg (2 : Int32).toNatClampNeg) (va_cpy re1 re (0 : Int32).toNatClampNeg (0 : Int32).toNatClampNeg (2 : Int32).toNatClampNeg) dt la us sp rf se1 ki1 ha1 sl1 ch1 ci1 dk1 li1 re1 dt1 la1 us1 sp1 rf1) H := hP
  have hD : va_D A (MW2 cI h0 a h1 b (va_cpy se1 se (0 : Int32).toNatClampNeg (0 : Int32).toNatClampNeg (4 : Int32).toNatClampNeg) (va_cpy ki1 ki (0 : Int32).toNatClampNeg (0 : Int32).toNatClampNeg (4 : Int32).toNatClampNeg) (va_cpy ha1 ha (0 : Int32).toNatClampNeg (0 : Int32).toNatClampNeg (4 : Int32).toNatClampNeg) (va_cpy sl1 sl (0 : Int32).toNatClampNeg (0 : Int32).toNatClampNeg (4 : Int32).toNatClampNeg) (va_cpy ch1 ch (0 : Int32).toNatClampNeg (0 : Int32).toNatClampNeg (4 : Int32).toNatClampNeg) (va_cpy ci1 ci (0 : Int32).toNatClampNeg (0 : Int32).toNatClampNeg (2 : Int32).toNatClampNeg) (va_cpy dk1 dk (0 : Int32).toNatClampNeg (0 : Int32).toNatClampNeg (2 : Int32).toNatClampNeg) (va_cpy li1 li (0 : Int32).toNatClampNeg (0 : Int32).toNatClampNeg (2 : Int32).toNatClampNeg) (va_cpy re1 re (0 : Int32).toNatClampNeg (0 : Int32).toNatClampNeg (2 : Int32).toNatClampNeg) dt la us sp rf se1 ki1 ha1 sl1 ch1 ci1 dk1 li1 re1 dt1 la1 us1 sp1 rf1) := hD
  refine lv_aload_n hx hb dX1_becomeLike_126 rfl (lv_at hl 1 rfl) ?_
  refine va_get (D := D) (ci := 1) (v := .ref (b 9)) (C := RX1) (T := TX1) (N := 14) hx hb hts inA1 hown hK hP 12 rfl rfl 9 (by decide) (hts _ wd_fl_RX1_39) (fun _ h9 => h9) rfl dX1_becomeLike_127 ?_
  refine lv_iconst (v := 0) hx hb dX1_becomeLike_130 (by decide) ?_
  refine lv_aload_n hx hb dX1_becomeLike_131 rfl (lv_at hl 0 rfl) ?_
  refine va_get (D := D) (ci := 1) (v := .ref (a 9)) (C := RX1) (T := TX1) (N := 14) hx hb hts inA1 hown hK hP 0 rfl rfl 9 (by decide) (hts _ wd_fl_RX1_39) (fun _ h9 => h9) rfl dX1_becomeLike_132 ?_
  refine lv_iconst (v := 0) hx hb dX1_becomeLike_135 (by decide) ?_
  refine lv_iconst (v := 2) hx hb dX1_becomeLike_136 (by decide) ?_
  refine va_copyi hx hb (hml.trans hl.1.symm) hown (hts _ wd_ml_RX1_55) (hts _ wd_nat_arraycopyName) (hts _ wd_st_arraycopyName) (hts _ (wd_ini_RJ10)) hK hP hD hS 22 10 0 0 rfl rfl rfl rfl rfl (by decide) (by decide) (by decide) (by decide) (by decide) (fun i _ => rfl) (Nat.le_of_ble_eq_true rfl) (Nat.le_of_ble_eq_true rfl) dX1_becomeLike_137 (fun H locs hP hD hS => ?_)
  have hP : va_P D vwCl (MW2 cI h0 a h1 b (va_cpy se1 se (0 : Int32).toNatClampNeg (0 : Int32).toNatClampNeg (4 : Int32).toNatClampNeg) (va_cpy ki1 ki (0 : Int32).toNatClampNeg (0 : Int32).toNatClampNeg (4 : Int32).toNatClampNeg) (va_cpy ha1 ha (0 : Int32).toNatClampNeg (0 : Int32).toNatClampNeg (4 : Int32).toNatClampNeg) (va_cpy sl1 sl (0 : Int32).toNatClampNeg (0 : Int32).toNatClampNeg (4 : Int32).toNatClampNeg) (va_cpy ch1 ch (0 : Int32).toNatClampNeg (0 : Int32).toNatClampNeg (4 : Int32).toNatClampNeg) (va_cpy ci1 ci (0 : Int32).toNatClampNeg (0 : Int32).toNatClampNeg (2 : Int32).toNatClampNeg) (va_cpy dk1 dk (0 : Int32).toNatClampNeg (0 : Int32).toNatClampNeg (2 : Int32).toNatClampNeg) (va_cpy li1 li (0 : Int32).toNatClampNeg (0 : Int32).toNatClampNeg (2 : Int32).toNatClampNeg) (va_cpy re1 re (0 : Int32).toNatClampNeg (0 : Int32).toNatClampNeg (2 : Int32).toNatClampNeg) (va_cpy dt1 dt (0 : Int32).toNatClampNeg (0 : Int32).toNatClampNeg (2 : Int32).toNatClampNeg) la us sp rf se1 ki1 ha1 sl1 ch1 ci1 dk1 li1 re1 dt1 la1 us1 sp1 rf1) H := hP
  have hD : va_D A (MW2 cI h0 a h1 b (va_cpy se1 se (0 : Int32).toNatClampNeg (0 : Int32).toNatClampNeg (4 : Int32).toNatClampNeg) (va_cpy ki1 ki (0 : Int32).toNatClampNeg (0 : Int32).toNatClampNeg (4 : Int32).toNatClampNeg) (va_cpy ha1 ha (0 : Int32).toNatClampNeg (0 : Int32).toNatClampNeg (4 : Int32).toNatClampNeg) (va_cpy sl1 sl (0 : Int32).toNatClampNeg (0 : Int32).toNatClampNeg (4 : Int32).toNatClampNeg) (va_cpy ch1 ch (0 : Int32).toNatClampNeg (0 : Int32).toNatClampNeg (4 : Int32).toNatClampNeg) (va_cpy ci1 ci (0 : Int32).toNatClampNeg (0 : Int32).toNatClampNeg (2 : Int32).toNatClampNeg) (va_cpy dk1 dk (0 : Int32).toNatClampNeg (0 : Int32).toNatClampNeg (2 : Int32).toNatClampNeg) (va_cpy li1 li (0 : Int32).toNatClampNeg (0 : Int32).toNatClampNeg (2 : Int32).toNatClampNeg) (va_cpy re1 re (0 : Int32).toNatClampNeg (0 : Int32).toNatClampNeg (2 : Int32).toNatClampNeg) (va_cpy dt1 dt (0 : Int32).toNatClampNeg (0 : Int32).toNatClampNeg (2 : Int32).toNatClampNeg) la us sp rf se1 ki1 ha1 sl1 ch1 ci1 dk1 li1 re1 dt1 la1 us1 sp1 rf1) := hD
  refine lv_aload_n hx hb dX1_becomeLike_140 rfl (lv_at hl 1 rfl) ?_
  refine va_get (D := D) (ci := 1) (v := .ref (b 10)) (C := RX1) (T := TX1) (N := 14) hx hb hts inA1 hown hK hP 12 rfl rfl 10 (by decide) (hts _ wd_fl_RX1_42) (fun _ h9 => h9) rfl dX1_becomeLike_141 ?_
  refine lv_iconst (v := 0) hx hb dX1_becomeLike_144 (by decide) ?_
  refine lv_aload_n hx hb dX1_becomeLike_145 rfl (lv_at hl 0 rfl) ?_
  refine va_get (D := D) (ci := 1) (v := .ref (a 10)) (C := RX1) (T := TX1) (N := 14) hx hb hts inA1 hown hK hP 0 rfl rfl 10 (by decide) (hts _ wd_fl_RX1_42) (fun _ h9 => h9) rfl dX1_becomeLike_146 ?_
  refine lv_iconst (v := 0) hx hb dX1_becomeLike_149 (by decide) ?_
  refine lv_iconst (v := 2) hx hb dX1_becomeLike_150 (by decide) ?_
  refine va_copyi hx hb (hml.trans hl.1.symm) hown (hts _ wd_ml_RX1_55) (hts _ wd_nat_arraycopyName) (hts _ wd_st_arraycopyName) (hts _ (wd_ini_RJ10)) hK hP hD hS 23 11 0 0 rfl rfl rfl rfl rfl (by decide) (by decide) (by decide) (by decide) (by decide) (fun i _ => rfl) (Nat.le_of_ble_eq_true rfl) (Nat.le_of_ble_eq_true rfl) dX1_becomeLike_151 (fun H locs hP hD hS => ?_)
  have hP : va_P D vwCl (MW2 cI h0 a h1 b (va_cpy se1 se (0 : Int32).toNatClampNeg (0 : Int32).toNatClampNeg (4 : Int32).toNatClampNeg) (va_cpy ki1 ki (0 : Int32).toNatClampNeg (0 : Int32).toNatClampNeg (4 : Int32).toNatClampNeg) (va_cpy ha1 ha (0 : Int32).toNatClampNeg (0 : Int32).toNatClampNeg (4 : Int32).toNatClampNeg) (va_cpy sl1 sl (0 : Int32).toNatClampNeg (0 : Int32).toNatClampNeg (4 : Int32).toNatClampNeg) (va_cpy ch1 ch (0 : Int32).toNatClampNeg (0 : Int32).toNatClampNeg (4 : Int32).toNatClampNeg) (va_cpy ci1 ci (0 : Int32).toNatClampNeg (0 : Int32).toNatClampNeg (2 : Int32).toNatClampNeg) (va_cpy dk1 dk (0 : Int32).toNatClampNeg (0 : Int32).toNatClampNeg (2 : Int32).toNatClampNeg) (va_cpy li1 li (0 : Int32).toNatClampNeg (0 : Int32).toNatClampNeg (2 : Int32).toNatClampNeg) (va_cpy re1 re (0 : Int32).toNatClampNeg (0 : Int32).toNatClampNeg (2 : Int32).toNatClampNeg) (va_cpy dt1 dt (0 : Int32).toNatClampNeg (0 : Int32).toNatClampNeg (2 : Int32).toNatClampNeg) (va_cpy la1 la (0 : Int32).toNatClampNeg (0 : Int32).toNatClampNeg (2 : Int32).toNatClampNeg) us sp rf se1 ki1 ha1 sl1 ch1 ci1 dk1 li1 re1 dt1 la1 us1 sp1 rf1) H := hP
  have hD : va_D A (MW2 cI h0 a h1 b (va_cpy se1 se (0 : Int32).toNatClampNeg (0 : Int32).toNatClampNeg (4 : Int32).toNatClampNeg) (va_cpy ki1 ki (0 : Int32).toNatClampNeg (0 : Int32).toNatClampNeg (4 : Int32).toNatClampNeg) (va_cpy ha1 ha (0 : Int32).toNatClampNeg (0 : Int32).toNatClampNeg (4 : Int32).toNatClampNeg) (va_cpy sl1 sl (0 : Int32).toNatClampNeg (0 : Int32).toNatClampNeg (4 : Int32).toNatClampNeg) (va_cpy ch1 ch (0 : Int32).toNatClampNeg (0 : Int32).toNatClampNeg (4 : Int32).toNatClampNeg) (va_cpy ci1 ci (0 : Int32).toNatClampNeg (0 : Int32).toNatClampNeg (2 : Int32).toNatClampNeg) (va_cpy dk1 dk (0 : Int32).toNatClampNeg (0 : Int32).toNatClampNeg (2 : Int32).toNatClampNeg) (va_cpy li1 li (0 : Int32).toNatClampNeg (0 : Int32).toNatClampNeg (2 : Int32).toNatClampNeg) (va_cpy re1 re (0 : Int32).toNatClampNeg (0 : Int32).toNatClampNeg (2 : Int32).toNatClampNeg) (va_cpy dt1 dt (0 : Int32).toNatClampNeg (0 : Int32).toNatClampNeg (2 : Int32).toNatClampNeg) (va_cpy la1 la (0 : Int32).toNatClampNeg (0 : Int32).toNatClampNeg (2 : Int32).toNatClampNeg) us sp rf se1 ki1 ha1 sl1 ch1 ci1 dk1 li1 re1 dt1 la1 us1 sp1 rf1) := hD
  refine lv_aload_n hx hb dX1_becomeLike_154 rfl (lv_at hl 0 rfl) ?_
  refine lv_aload_n hx hb dX1_becomeLike_155 rfl (lv_at hl 1 rfl) ?_
  refine va_get (D := D) (ci := 1) (v := .int us1) (C := RX1) (T := TX1) (N := 14) hx hb hts inA1 hown hK hP 12 rfl rfl 11 (by decide) (hts _ wd_fl_RX1_45) (fun _ h9 => h9) rfl dX1_becomeLike_156 ?_
  refine va_put (D := D) (ci := 1) (v := .int us1) (ty := .int) (C := RX1) (T := TX1) (N := 14) hx hb hts inA1 tyX1 tyX1_ok nmX1 hown hK hP hD hS 0 rfl rfl 11 (by decide) (hts _ wd_fl_RX1_45) (fun _ h9 => h9) rfl (by decide +kernel) rfl rfl (Nat.le_of_ble_eq_true rfl) dX1_becomeLike_159 (fun H locs hP hD hS => ?_)
  have hP : va_P D vwCl (MW2 cI h0 a h1 b (va_cpy se1 se (0 : Int32).toNatClampNeg (0 : Int32).toNatClampNeg (4 : Int32).toNatClampNeg) (va_cpy ki1 ki (0 : Int32).toNatClampNeg (0 : Int32).toNatClampNeg (4 : Int32).toNatClampNeg) (va_cpy ha1 ha (0 : Int32).toNatClampNeg (0 : Int32).toNatClampNeg (4 : Int32).toNatClampNeg) (va_cpy sl1 sl (0 : Int32).toNatClampNeg (0 : Int32).toNatClampNeg (4 : Int32).toNatClampNeg) (va_cpy ch1 ch (0 : Int32).toNatClampNeg (0 : Int32).toNatClampNeg (4 : Int32).toNatClampNeg) (va_cpy ci1 ci (0 : Int32).toNatClampNeg (0 : Int32).toNatClampNeg (2 : Int32).toNatClampNeg) (va_cpy dk1 dk (0 : Int32).toNatClampNeg (0 : Int32).toNatClampNeg (2 : Int32).toNatClampNeg) (va_cpy li1 li (0 : Int32).toNatClampNeg (0 : Int32).toNatClampNeg (2 : Int32).toNatClampNeg) (va_cpy re1 re (0 : Int32).toNatClampNeg (0 : Int32).toNatClampNeg (2 : Int32).toNatClampNeg) (va_cpy dt1 dt (0 : Int32).toNatClampNeg (0 : Int32).toNatClampNeg (2 : Int32).toNatClampNeg) (va_cpy la1 la (0 : Int32).toNatClampNeg (0 : Int32).toNatClampNeg (2 : Int32).toNatClampNeg) us1 sp rf se1 ki1 ha1 sl1 ch1 ci1 dk1 li1 re1 dt1 la1 us1 sp1 rf1) H := hP
  have hD : va_D A (MW2 cI h0 a h1 b (va_cpy se1 se (0 : Int32).toNatClampNeg (0 : Int32).toNatClampNeg (4 : Int32).toNatClampNeg) (va_cpy ki1 ki (0 : Int32).toNatClampNeg (0 : Int32).toNatClampNeg (4 : Int32).toNatClampNeg) (va_cpy ha1 ha (0 : Int32).toNatClampNeg (0 : Int32).toNatClampNeg (4 : Int32).toNatClampNeg) (va_cpy sl1 sl (0 : Int32).toNatClampNeg (0 : Int32).toNatClampNeg (4 : Int32).toNatClampNeg) (va_cpy ch1 ch (0 : Int32).toNatClampNeg (0 : Int32).toNatClampNeg (4 : Int32).toNatClampNeg) (va_cpy ci1 ci (0 : Int32).toNatClampNeg (0 : Int32).toNatClampNeg (2 : Int32).toNatClampNeg) (va_cpy dk1 dk (0 : Int32).toNatClampNeg (0 : Int32).toNatClampNeg (2 : Int32).toNatClampNeg) (va_cpy li1 li (0 : Int32).toNatClampNeg (0 : Int32).toNatClampNeg (2 : Int32).toNatClampNeg) (va_cpy re1 re (0 : Int32).toNatClampNeg (0 : Int32).toNatClampNeg (2 : Int32).toNatClampNeg) (va_cpy dt1 dt (0 : Int32).toNatClampNeg (0 : Int32).toNatClampNeg (2 : Int32).toNatClampNeg) (va_cpy la1 la (0 : Int32).toNatClampNeg (0 : Int32).toNatClampNeg (2 : Int32).toNatClampNeg) us1 sp rf se1 ki1 ha1 sl1 ch1 ci1 dk1 li1 re1 dt1 la1 us1 sp1 rf1) := hD
  refine lv_aload_n hx hb dX1_becomeLike_162 rfl (lv_at hl 0 rfl) ?_
  refine lv_aload_n hx hb dX1_becomeLike_163 rfl (lv_at hl 1 rfl) ?_
  refine va_get (D := D) (ci := 1) (v := .int sp1) (C := RX1) (T := TX1) (N := 14) hx hb hts inA1 hown hK hP 12 rfl rfl 12 (by decide) (hts _ wd_fl_RX1_49) (fun _ h9 => h9) rfl dX1_becomeLike_164 ?_
  refine va_put (D := D) (ci := 1) (v := .int sp1) (ty := .int) (C := RX1) (T := TX1) (N := 14) hx hb hts inA1 tyX1 tyX1_ok nmX1 hown hK hP hD hS 0 rfl rfl 12 (by decide) (hts _ wd_fl_RX1_49) (fun _ h9 => h9) rfl (by decide +kernel) rfl rfl (Nat.le_of_ble_eq_true rfl) dX1_becomeLike_167 (fun H locs hP hD hS => ?_)
  have hP : va_P D vwCl (MW2 cI h0 a h1 b (va_cpy se1 se (0 : Int32).toNatClampNeg (0 : Int32).toNatClampNeg (4 : Int32).toNatClampNeg) (va_cpy ki1 ki (0 : Int32).toNatClampNeg (0 : Int32).toNatClampNeg (4 : Int32).toNatClampNeg) (va_cpy ha1 ha (0 : Int32).toNatClampNeg (0 : Int32).toNatClampNeg (4 : Int32).toNatClampNeg) (va_cpy sl1 sl (0 : Int32).toNatClampNeg (0 : Int32).toNatClampNeg (4 : Int32).toNatClampNeg) (va_cpy ch1 ch (0 : Int32).toNatClampNeg (0 : Int32).toNatClampNeg (4 : Int32).toNatClampNeg) (va_cpy ci1 ci (0 : Int32).toNatClampNeg (0 : Int32).toNatClampNeg (2 : Int32).toNatClampNeg) (va_cpy dk1 dk (0 : Int32).toNatClampNeg (0 : Int32).toNatClampNeg (2 : Int32).toNatClampNeg) (va_cpy li1 li (0 : Int32).toNatClampNeg (0 : Int32).toNatClampNeg (2 : Int32).toNatClampNeg) (va_cpy re1 re (0 : Int32).toNatClampNeg (0 : Int32).toNatClampNeg (2 : Int32).toNatClampNeg) (va_cpy dt1 dt (0 : Int32).toNatClampNeg (0 : Int32).toNatClampNeg (2 : Int32).toNatClampNeg) (va_cpy la1 la (0 : Int32).toNatClampNeg (0 : Int32).toNatClampNeg (2 : Int32).toNatClampNeg) us1 sp1 rf se1 ki1 ha1 sl1 ch1 ci1 dk1 li1 re1 dt1 la1 us1 sp1 rf1) H := hP
  have hD : va_D A (MW2 cI h0 a h1 b (va_cpy se1 se (0 : Int32).toNatClampNeg (0 : Int32).toNatClampNeg (4 : Int32).toNatClampNeg) (va_cpy ki1 ki (0 : Int32).toNatClampNeg (0 : Int32).toNatClampNeg (4 : Int32).toNatClampNeg) (va_cpy ha1 ha (0 : Int32).toNatClampNeg (0 : Int32).toNatClampNeg (4 : Int32).toNatClampNeg) (va_cpy sl1 sl (0 : Int32).toNatClampNeg (0 : Int32).toNatClampNeg (4 : Int32).toNatClampNeg) (va_cpy ch1 ch (0 : Int32).toNatClampNeg (0 : Int32).toNatClampNeg (4 : Int32).toNatClampNeg) (va_cpy ci1 ci (0 : Int32).toNatClampNeg (0 : Int32).toNatClampNeg (2 : Int32).toNatClampNeg) (va_cpy dk1 dk (0 : Int32).toNatClampNeg (0 : Int32).toNatClampNeg (2 : Int32).toNatClampNeg) (va_cpy li1 li (0 : Int32).toNatClampNeg (0 : Int32).toNatClampNeg (2 : Int32).toNatClampNeg) (va_cpy re1 re (0 : Int32).toNatClampNeg (0 : Int32).toNatClampNeg (2 : Int32).toNatClampNeg) (va_cpy dt1 dt (0 : Int32).toNatClampNeg (0 : Int32).toNatClampNeg (2 : Int32).toNatClampNeg) (va_cpy la1 la (0 : Int32).toNatClampNeg (0 : Int32).toNatClampNeg (2 : Int32).toNatClampNeg) us1 sp1 rf se1 ki1 ha1 sl1 ch1 ci1 dk1 li1 re1 dt1 la1 us1 sp1 rf1) := hD
  refine lv_aload_n hx hb dX1_becomeLike_170 rfl (lv_at hl 0 rfl) ?_
  refine lv_aload_n hx hb dX1_becomeLike_171 rfl (lv_at hl 1 rfl) ?_
  refine va_get (D := D) (ci := 1) (v := .int rf1) (C := RX1) (T := TX1) (N := 14) hx hb hts inA1 hown hK hP 12 rfl rfl 13 (by decide) (hts _ wd_fl_RX1_52) (fun _ h9 => h9) rfl dX1_becomeLike_172 ?_
  refine va_put (D := D) (ci := 1) (v := .int rf1) (ty := .int) (C := RX1) (T := TX1) (N := 14) hx hb hts inA1 tyX1 tyX1_ok nmX1 hown hK hP hD hS 0 rfl rfl 13 (by decide) (hts _ wd_fl_RX1_52) (fun _ h9 => h9) rfl (by decide +kernel) rfl rfl (Nat.le_of_ble_eq_true rfl) dX1_becomeLike_175 (fun H locs hP hD hS => ?_)
  have hP : va_P D vwCl (MW2 cI h0 a h1 b (va_cpy se1 se (0 : Int32).toNatClampNeg (0 : Int32).toNatClampNeg (4 : Int32).toNatClampNeg) (va_cpy ki1 ki (0 : Int32).toNatClampNeg (0 : Int32).toNatClampNeg (4 : Int32).toNatClampNeg) (va_cpy ha1 ha (0 : Int32).toNatClampNeg (0 : Int32).toNatClampNeg (4 : Int32).toNatClampNeg) (va_cpy sl1 sl (0 : Int32).toNatClampNeg (0 : Int32).toNatClampNeg (4 : Int32).toNatClampNeg) (va_cpy ch1 ch (0 : Int32).toNatClampNeg (0 : Int32).toNatClampNeg (4 : Int32).toNatClampNeg) (va_cpy ci1 ci (0 : Int32).toNatClampNeg (0 : Int32).toNatClampNeg (2 : Int32).toNatClampNeg) (va_cpy dk1 dk (0 : Int32).toNatClampNeg (0 : Int32).toNatClampNeg (2 : Int32).toNatClampNeg) (va_cpy li1 li (0 : Int32).toNatClampNeg (0 : Int32).toNatClampNeg (2 : Int32).toNatClampNeg) (va_cpy re1 re (0 : Int32).toNatClampNeg (0 : Int32).toNatClampNeg (2 : Int32).toNatClampNeg) (va_cpy dt1 dt (0 : Int32).toNatClampNeg (0 : Int32).toNatClampNeg (2 : Int32).toNatClampNeg) (va_cpy la1 la (0 : Int32).toNatClampNeg (0 : Int32).toNatClampNeg (2 : Int32).toNatClampNeg) us1 sp1 rf1 se1 ki1 ha1 sl1 ch1 ci1 dk1 li1 re1 dt1 la1 us1 sp1 rf1) H := hP
  have hD : va_D A (MW2 cI h0 a h1 b (va_cpy se1 se (0 : Int32).toNatClampNeg (0 : Int32).toNatClampNeg (4 : Int32).toNatClampNeg) (va_cpy ki1 ki (0 : Int32).toNatClampNeg (0 : Int32).toNatClampNeg (4 : Int32).toNatClampNeg) (va_cpy ha1 ha (0 : Int32).toNatClampNeg (0 : Int32).toNatClampNeg (4 : Int32).toNatClampNeg) (va_cpy sl1 sl (0 : Int32).toNatClampNeg (0 : Int32).toNatClampNeg (4 : Int32).toNatClampNeg) (va_cpy ch1 ch (0 : Int32).toNatClampNeg (0 : Int32).toNatClampNeg (4 : Int32).toNatClampNeg) (va_cpy ci1 ci (0 : Int32).toNatClampNeg (0 : Int32).toNatClampNeg (2 : Int32).toNatClampNeg) (va_cpy dk1 dk (0 : Int32).toNatClampNeg (0 : Int32).toNatClampNeg (2 : Int32).toNatClampNeg) (va_cpy li1 li (0 : Int32).toNatClampNeg (0 : Int32).toNatClampNeg (2 : Int32).toNatClampNeg) (va_cpy re1 re (0 : Int32).toNatClampNeg (0 : Int32).toNatClampNeg (2 : Int32).toNatClampNeg) (va_cpy dt1 dt (0 : Int32).toNatClampNeg (0 : Int32).toNatClampNeg (2 : Int32).toNatClampNeg) (va_cpy la1 la (0 : Int32).toNatClampNeg (0 : Int32).toNatClampNeg (2 : Int32).toNatClampNeg) us1 sp1 rf1 se1 ki1 ha1 sl1 ch1 ci1 dk1 li1 re1 dt1 la1 us1 sp1 rf1) := hD
  exact hret _ _ _ _ ((va_cpy se1 se (0 : Int32).toNatClampNeg (0 : Int32).toNatClampNeg (4 : Int32).toNatClampNeg), (va_cpy ki1 ki (0 : Int32).toNatClampNeg (0 : Int32).toNatClampNeg (4 : Int32).toNatClampNeg), (va_cpy ha1 ha (0 : Int32).toNatClampNeg (0 : Int32).toNatClampNeg (4 : Int32).toNatClampNeg), (va_cpy sl1 sl (0 : Int32).toNatClampNeg (0 : Int32).toNatClampNeg (4 : Int32).toNatClampNeg), (va_cpy ch1 ch (0 : Int32).toNatClampNeg (0 : Int32).toNatClampNeg (4 : Int32).toNatClampNeg), (va_cpy ci1 ci (0 : Int32).toNatClampNeg (0 : Int32).toNatClampNeg (2 : Int32).toNatClampNeg), (va_cpy dk1 dk (0 : Int32).toNatClampNeg (0 : Int32).toNatClampNeg (2 : Int32).toNatClampNeg), (va_cpy li1 li (0 : Int32).toNatClampNeg (0 : Int32).toNatClampNeg (2 : Int32).toNatClampNeg), (va_cpy re1 re (0 : Int32).toNatClampNeg (0 : Int32).toNatClampNeg (2 : Int32).toNatClampNeg), (va_cpy dt1 dt (0 : Int32).toNatClampNeg (0 : Int32).toNatClampNeg (2 : Int32).toNatClampNeg), (va_cpy la1 la (0 : Int32).toNatClampNeg (0 : Int32).toNatClampNeg (2 : Int32).toNatClampNeg), us1, sp1, rf1) dX1_becomeLike_178 (hq.symm.trans hX) hP hD hS
