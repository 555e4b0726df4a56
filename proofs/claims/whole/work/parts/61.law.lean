/-- the machine, the words, the script, the static rows: what stays through the loop -/
def FxL (p : Program) (s : State) (m : MethodId) (meth : Method) (c : Code) (b L : Nat) (xs : Nat → Int32) (D : va_G) (cI cC cQ : ClassId) : Prop :=
  p.tables.exec = Jvm.exec ∧ c.code = cL_law ∧ meth.sig.returnType = ret ∧ meth.locks = false ∧ c.maxLocals = 8 ∧ s.vm.findClass RL = some m.cls ∧ (∀ w ∈ lwA, w.before #[Value.ref b] s = true) ∧ va_X b L xs s s.heap ∧ b < s.heap.size ∧ nbW s ∧ va_K D vwCl (TYS cI cC cQ) s ∧ stZ (fun q : Nat => s.heap.size ≤ q) s s.heap
/-- at pc0 of the loop, with the two alike -/
def GoL (p : Program) (l : Launch) (e : Env) (s : State) (m : MethodId) (below : List Frame) (meth : Method) (c : Code) (b : Nat) (D : va_G) (cI cC cQ : ClassId) (d0 n0 : Nat) (na : Nat → Nat) (s0 : Nat) (sa : Nat → Nat) (h1 h2 : Nat) (mm : Nat → Nat) (ma : Nat → Nat → Nat) (t0 p0 : Nat) (pA : Nat → Nat) (z0 : Nat) (za : Nat → Nat) (pc0 : Nat) (B : Int) (i : Int32) : Prop :=
  ∀ (tk : Int32) (N : TMa) (S : TMa) (oo : Int32) (zz : Int32) (M0 : TMa) (M1 : TMa) (M2 : TMa) (M3 : TMa) (rs : Int32) (de : Int32) (pc : Int32) (pg : Int32) (sg : Nat → Int32) (ln : Int32) (po : Int32) (dd : Int32) (lt : Nat → Int32) (pl : Nat → Int32) (f1s : Nat → Int32) (s2s : Nat → Int32) (tms : Nat → Int32) (sv : Nat → Int32) (pa : Nat → Int32) (pn : Int32) (sn : Nat → Int32) (kp : Int32) (pd : Nat → Int32) (l2 : Int32) (so : Nat → Int32) (p2 : Int32) (wr : Int32) (l5 : Int32) (fr : Int32) (sc : Int32) (tm : Int32) (hd : Int32) (st : Int32) (H : Heap) (locs : List Loc) (ls : Array Slot), Rel B tk N S oo zz M0 M1 M2 M3 rs de pc pg sg ln sv pa pn sn kp pd l2 so → va_P D vwCl ((DW cI cC cQ d0 n0 na s0 sa h1 h2 mm ma t0 p0 pA tk N S oo zz M0 M1 M2 M3 rs de pc pg sg ln po dd lt pl f1s s2s tms) ++ (MO cI z0 za sv pa pn sn kp pd l2 so p2 wr l5 fr sc tm hd st)) H → va_D (fun q : Nat => s.heap.size ≤ q) ((DW cI cC cQ d0 n0 na s0 sa h1 h2 mm ma t0 p0 pA tk N S oo zz M0 M1 M2 M3 rs de pc pg sg ln po dd lt pl f1s s2s tms) ++ (MO cI z0 za sv pa pn sn kp pd l2 so p2 wr l5 fr sc tm hd st)) → va_S (fun q : Nat => s.heap.size ≤ q) s.heap H locs → lv_has ls 8 [(3, .int i), (2, .ref z0), (1, .ref d0), (0, .ref b)] →
    W p l e room_1 s m #[Value.ref b] below meth c H locs 89 802 (lw_Z below #[Value.ref b] s) (F0 m pc0 ls [])
theorem padr_self {sg pd : Nat → Int32} {ln : Int32} (h : padr sg pd ln) : padr sg sg ln := ⟨h.1, fun i hi => by
  have := h.2 i hi
  rw [this.1]
  exact ⟨rfl, this.2⟩⟩
theorem padr_mate {sg pd : Nat → Int32} {ln : Int32} (h : padr sg pd ln) : padr pd pd ln := ⟨h.1, fun i hi => ⟨rfl, (h.2 i hi).2⟩⟩

set_option maxHeartbeats 40000000 in
set_option maxRecDepth 100000 in
theorem law_0 {p : Program} {l : Launch} {e : Env} {s : State} {m : MethodId} {below : List Frame} {meth : Method} {c : Code} {b L : Nat} {xs : Nat → Int32} {D : va_G} {cI cC cQ : ClassId} {d0 n0 : Nat} {na : Nat → Nat} {s0 : Nat} {sa : Nat → Nat} {h1 h2 : Nat} {mm : Nat → Nat} {ma : Nat → Nat → Nat} {t0 p0 : Nat} {pA : Nat → Nat} {z0 : Nat} {za : Nat → Nat} {B : Int} {i : Int32} (F : FxL p s m meth c b L xs D cI cC cQ) (hi : vp_in (i + 1) L ∧ vp_in (i + 2) L ∧ vp_in (i + 3) L ∧ vp_in (i + 4) L) (hB : B ≤ 400000000) (go : GoL p l e s m below meth c b D cI cC cQ d0 n0 na s0 sa h1 h2 mm ma t0 p0 pA z0 za 830 (B + 10000) i) : GoL p l e s m below meth c b D cI cC cQ d0 n0 na s0 sa h1 h2 mm ma t0 p0 pA z0 za 144 B i := by
  intro tk N S oo zz M0 M1 M2 M3 rs de pc pg sg ln po dd lt pl f1s s2s tms sv pa pn sn kp pd l2 so p2 wr l5 fr sc tm hd st H locs ls hrel hP hD hS hl
  obtain ⟨hx, hb, hr, hlocks, hml, hown, hts, hX, hbl, hN, hK, hZ⟩ := F
  have hA : ∀ q : Nat, s.heap.size ≤ q → (fun q : Nat => s.heap.size ≤ q) q := fun _ h => h
  have hbA : ¬ (fun q : Nat => s.heap.size ≤ q) b := Nat.not_le.mpr hbl
  refine lv_aload_n hx hb dL_law_144 rfl (lv_at hl 2 rfl) ?_
  refine lv_aload_n hx hb dL_law_145 rfl (lv_at hl 3 rfl) ?_
  refine lv_iload_n hx hb dL_law_146 rfl (lv_at hl 0 rfl) ?_
  refine lv_iconst (v := 1) hx hb dL_law_147 (by decide) ?_
  refine lv_iadd hx hb dL_law_148 ?_
  refine va_sld hx hb hX hbl hbA hS hi.1 dL_law_149 ?_
  refine lv_aload_n hx hb dL_law_150 rfl (lv_at hl 3 rfl) ?_
  refine lv_iload_n hx hb dL_law_151 rfl (lv_at hl 0 rfl) ?_
  refine lv_iconst (v := 2) hx hb dL_law_152 (by decide) ?_
  refine lv_iadd hx hb dL_law_153 ?_
  refine va_sld hx hb hX hbl hbA hS hi.2.1 dL_law_154 ?_
  have hPs : va_P D vwCl (([] : va_W) ++ ((DW cI cC cQ d0 n0 na s0 sa h1 h2 mm ma t0 p0 pA tk N S oo zz M0 M1 M2 M3 rs de pc pg sg ln po dd lt pl f1s s2s tms) ++ (MO cI z0 za sv pa pn sn kp pd l2 so p2 wr l5 fr sc tm hd st))) H := hP
  have hDs : va_D (fun q : Nat => s.heap.size ≤ q) (([] : va_W) ++ ((DW cI cC cQ d0 n0 na s0 sa h1 h2 mm ma t0 p0 pA tk N S oo zz M0 M1 M2 M3 rs de pc pg sg ln po dd lt pl f1s s2s tms) ++ (MO cI z0 za sv pa pn sn kp pd l2 so p2 wr l5 fr sc tm hd st))) := hD
  refine k_behi (X := ([] : va_W)) (Y := (MO cI z0 za sv pa pn sn kp pd l2 so p2 wr l5 fr sc tm hd st)) (va_runV (As := [.int (xs (i + 1).toNatClampNeg), .int (xs (i + 2).toNatClampNeg)]) (rest := []) ⟨hx, hb, hml, hown, hts⟩ (c_X4_print l D cI cC cQ H.size d0 n0 na s0 sa h1 h2 mm ma t0 p0 pA tk N S oo zz M0 M1 M2 M3 rs de pc pg sg ln po dd lt pl f1s s2s tms (xs (i + 1).toNatClampNeg) (xs (i + 2).toNatClampNeg) (hrel.2.1.1) (hrel.2.1.2.1)) (kcwV hts wd_ml_RL_13 wd_im_yX4_print wd_sel_yX4_print wd_ini_RX4 wd_code_yX4_print rfl rfl rfl hd_X4_print ⟨Nat.le_of_ble_eq_true rfl, Nat.le_of_ble_eq_true rfl⟩) ⟨in_blind, va_recv hK (pa_l (pa_r hPs)) (ci := 4) (q0 := 0) rfl rfl, k_pre hK (pa_l (pa_r hPs)) (da_l (da_r hDs)) hN⟩ rfl rfl hl.1 rfl (lv_room (Nat.le_of_ble_eq_true rfl)) dL_law_155 ⟨Nat.le_of_ble_eq_true rfl, Nat.le_of_ble_eq_true rfl⟩) hPs hDs hS hA (fun r1 u1 H locs hw1 hP hD hS => ?_)
  have hw1 : (r1, u1) = sh_X4_print N oo zz M0 M1 M2 M3 (xs (i + 1).toNatClampNeg) (xs (i + 2).toNatClampNeg) := hw1
  have hP : va_P D vwCl ((DW cI cC cQ d0 n0 na s0 sa h1 h2 mm ma t0 p0 pA tk u1.1 S u1.2.1 u1.2.2.1 u1.2.2.2.1 u1.2.2.2.2.1 u1.2.2.2.2.2.1 u1.2.2.2.2.2.2 rs de pc pg sg ln po dd lt pl f1s s2s tms) ++ (MO cI z0 za sv pa pn sn kp pd l2 so p2 wr l5 fr sc tm hd st)) H := hP
  have hD : va_D (fun q : Nat => s.heap.size ≤ q) ((DW cI cC cQ d0 n0 na s0 sa h1 h2 mm ma t0 p0 pA tk u1.1 S u1.2.1 u1.2.2.1 u1.2.2.2.1 u1.2.2.2.2.1 u1.2.2.2.2.2.1 u1.2.2.2.2.2.2 rs de pc pg sg ln po dd lt pl f1s s2s tms) ++ (MO cI z0 za sv pa pn sn kp pd l2 so p2 wr l5 fr sc tm hd st)) := hD
  refine lv_aload_n hx hb dL_law_158 rfl (lv_at hl 1 rfl) ?_
  refine lv_aload_n hx hb dL_law_159 rfl (lv_at hl 3 rfl) ?_
  refine lv_iload_n hx hb dL_law_160 rfl (lv_at hl 0 rfl) ?_
  refine lv_iconst (v := 1) hx hb dL_law_161 (by decide) ?_
  refine lv_iadd hx hb dL_law_162 ?_
  refine va_sld hx hb hX hbl hbA hS hi.1 dL_law_163 ?_
  refine lv_aload_n hx hb dL_law_164 rfl (lv_at hl 3 rfl) ?_
  refine lv_iload_n hx hb dL_law_165 rfl (lv_at hl 0 rfl) ?_
  refine lv_iconst (v := 2) hx hb dL_law_166 (by decide) ?_
  refine lv_iadd hx hb dL_law_167 ?_
  refine va_sld hx hb hX hbl hbA hS hi.2.1 dL_law_168 ?_
  have hPs : va_P D vwCl ((DW cI cC cQ d0 n0 na s0 sa h1 h2 mm ma t0 p0 pA tk u1.1 S u1.2.1 u1.2.2.1 u1.2.2.2.1 u1.2.2.2.2.1 u1.2.2.2.2.2.1 u1.2.2.2.2.2.2 rs de pc pg sg ln po dd lt pl f1s s2s tms) ++ ((MO cI z0 za sv pa pn sn kp pd l2 so p2 wr l5 fr sc tm hd st) ++ ([] : va_W))) H := hP
  have hDs : va_D (fun q : Nat => s.heap.size ≤ q) ((DW cI cC cQ d0 n0 na s0 sa h1 h2 mm ma t0 p0 pA tk u1.1 S u1.2.1 u1.2.2.1 u1.2.2.2.1 u1.2.2.2.2.1 u1.2.2.2.2.2.1 u1.2.2.2.2.2.2 rs de pc pg sg ln po dd lt pl f1s s2s tms) ++ ((MO cI z0 za sv pa pn sn kp pd l2 so p2 wr l5 fr sc tm hd st) ++ ([] : va_W))) := hD
  refine k_behi (X := (DW cI cC cQ d0 n0 na s0 sa h1 h2 mm ma t0 p0 pA tk u1.1 S u1.2.1 u1.2.2.1 u1.2.2.2.1 u1.2.2.2.2.1 u1.2.2.2.2.2.1 u1.2.2.2.2.2.2 rs de pc pg sg ln po dd lt pl f1s s2s tms)) (Y := ([] : va_W)) (va_runV (As := [.int (xs (i + 1).toNatClampNeg), .int (xs (i + 2).toNatClampNeg)]) (rest := [.int r1]) ⟨hx, hb, hml, hown, hts⟩ (c_X5_print l D cI cC cQ H.size z0 za sv pa pn sn kp pd l2 so p2 wr l5 fr sc tm hd st (xs (i + 1).toNatClampNeg) (xs (i + 2).toNatClampNeg) ((hrel.2.1.2.2.1 ▸ hrel.2.1.2.1)) (hrel.1.2.1)) (kcwV hts wd_ml_RL_17 wd_im_yX5_print wd_sel_yX5_print wd_ini_RX5 wd_code_yX5_print rfl rfl rfl hd_X5_print ⟨Nat.le_of_ble_eq_true rfl, Nat.le_of_ble_eq_true rfl⟩) ⟨in_blind, va_recv hK (pa_l (pa_r hPs)) (ci := 5) (q0 := 0) rfl rfl, k_pre hK (pa_l (pa_r hPs)) (da_l (da_r hDs)) hN⟩ rfl rfl hl.1 rfl (lv_room (Nat.le_of_ble_eq_true rfl)) dL_law_169 ⟨Nat.le_of_ble_eq_true rfl, Nat.le_of_ble_eq_true rfl⟩) hPs hDs hS hA (fun r2 u2 H locs hw2 hP hD hS => ?_)
  have hw2 : (r2, u2) = sh_X5_print sv pa pn (xs (i + 1).toNatClampNeg) (xs (i + 2).toNatClampNeg) := hw2
  have hP : va_P D vwCl ((DW cI cC cQ d0 n0 na s0 sa h1 h2 mm ma t0 p0 pA tk u1.1 S u1.2.1 u1.2.2.1 u1.2.2.2.1 u1.2.2.2.2.1 u1.2.2.2.2.2.1 u1.2.2.2.2.2.2 rs de pc pg sg ln po dd lt pl f1s s2s tms) ++ (MO cI z0 za u2.1 u2.2.1 u2.2.2 sn kp pd l2 so p2 wr l5 fr sc tm hd st)) H := hP
  have hD : va_D (fun q : Nat => s.heap.size ≤ q) ((DW cI cC cQ d0 n0 na s0 sa h1 h2 mm ma t0 p0 pA tk u1.1 S u1.2.1 u1.2.2.1 u1.2.2.2.1 u1.2.2.2.2.1 u1.2.2.2.2.2.1 u1.2.2.2.2.2.2 rs de pc pg sg ln po dd lt pl f1s s2s tms) ++ (MO cI z0 za u2.1 u2.2.1 u2.2.2 sn kp pd l2 so p2 wr l5 fr sc tm hd st)) := hD
  have E := e_print hrel (by omega) (R := (r1, u1)) hw1 (T := (r2, u2)) hw2
  have E1 : r1 = r2 := E.1
  have E2 : Rel (B + 10000) tk u1.1 S u1.2.1 u1.2.2.1 u1.2.2.2.1 u1.2.2.2.2.1 u1.2.2.2.2.2.1 u1.2.2.2.2.2.2 rs de pc pg sg ln u2.1 u2.2.1 u2.2.2 sn kp pd l2 so := E.2
  refine lv_icmp_eq (tgt := 830) hx hb dL_law_172 (by decide) (fun _ => ?_) (fun c9 => absurd E1 c9)
  exact go tk u1.1 S u1.2.1 u1.2.2.1 u1.2.2.2.1 u1.2.2.2.2.1 u1.2.2.2.2.2.1 u1.2.2.2.2.2.2 rs de pc pg sg ln po dd lt pl f1s s2s tms u2.1 u2.2.1 u2.2.2 sn kp pd l2 so p2 wr l5 fr sc tm hd st _ _ _ (E2) hP hD hS hl
set_option maxHeartbeats 40000000 in
set_option maxRecDepth 100000 in
theorem law_1 {p : Program} {l : Launch} {e : Env} {s : State} {m : MethodId} {below : List Frame} {meth : Method} {c : Code} {b L : Nat} {xs : Nat → Int32} {D : va_G} {cI cC cQ : ClassId} {d0 n0 : Nat} {na : Nat → Nat} {s0 : Nat} {sa : Nat → Nat} {h1 h2 : Nat} {mm : Nat → Nat} {ma : Nat → Nat → Nat} {t0 p0 : Nat} {pA : Nat → Nat} {z0 : Nat} {za : Nat → Nat} {B : Int} {i : Int32} (F : FxL p s m meth c b L xs D cI cC cQ) (hi : vp_in (i + 1) L ∧ vp_in (i + 2) L ∧ vp_in (i + 3) L ∧ vp_in (i + 4) L) (hB : B ≤ 400000000) (go : GoL p l e s m below meth c b D cI cC cQ d0 n0 na s0 sa h1 h2 mm ma t0 p0 pA z0 za 830 (B + 10000) i) : GoL p l e s m below meth c b D cI cC cQ d0 n0 na s0 sa h1 h2 mm ma t0 p0 pA z0 za 177 B i := by
  intro tk N S oo zz M0 M1 M2 M3 rs de pc pg sg ln po dd lt pl f1s s2s tms sv pa pn sn kp pd l2 so p2 wr l5 fr sc tm hd st H locs ls hrel hP hD hS hl
  obtain ⟨hx, hb, hr, hlocks, hml, hown, hts, hX, hbl, hN, hK, hZ⟩ := F
  have hA : ∀ q : Nat, s.heap.size ≤ q → (fun q : Nat => s.heap.size ≤ q) q := fun _ h => h
  have hbA : ¬ (fun q : Nat => s.heap.size ≤ q) b := Nat.not_le.mpr hbl
  refine lv_aload_n hx hb dL_law_177 rfl (lv_at hl 2 rfl) ?_
  refine lv_aload_n hx hb dL_law_178 rfl (lv_at hl 3 rfl) ?_
  refine lv_iload_n hx hb dL_law_179 rfl (lv_at hl 0 rfl) ?_
  refine lv_iconst (v := 1) hx hb dL_law_180 (by decide) ?_
  refine lv_iadd hx hb dL_law_181 ?_
  refine va_sld hx hb hX hbl hbA hS hi.1 dL_law_182 ?_
  have hPs : va_P D vwCl (([] : va_W) ++ ((DW cI cC cQ d0 n0 na s0 sa h1 h2 mm ma t0 p0 pA tk N S oo zz M0 M1 M2 M3 rs de pc pg sg ln po dd lt pl f1s s2s tms) ++ (MO cI z0 za sv pa pn sn kp pd l2 so p2 wr l5 fr sc tm hd st))) H := hP
  have hDs : va_D (fun q : Nat => s.heap.size ≤ q) (([] : va_W) ++ ((DW cI cC cQ d0 n0 na s0 sa h1 h2 mm ma t0 p0 pA tk N S oo zz M0 M1 M2 M3 rs de pc pg sg ln po dd lt pl f1s s2s tms) ++ (MO cI z0 za sv pa pn sn kp pd l2 so p2 wr l5 fr sc tm hd st))) := hD
  refine k_behi (X := ([] : va_W)) (Y := (MO cI z0 za sv pa pn sn kp pd l2 so p2 wr l5 fr sc tm hd st)) (va_runV (As := [.int (xs (i + 1).toNatClampNeg)]) (rest := []) ⟨hx, hb, hml, hown, hts⟩ (c_X4_shake l D cI cC cQ H.size d0 n0 na s0 sa h1 h2 mm ma t0 p0 pA tk N S oo zz M0 M1 M2 M3 rs de pc pg sg ln po dd lt pl f1s s2s tms (xs (i + 1).toNatClampNeg) (hrel.2.1.1) (hrel.2.1.2.1)) (kcwV hts wd_ml_RL_18 wd_im_yX4_shake wd_sel_yX4_shake wd_ini_RX4 wd_code_yX4_shake rfl rfl rfl hd_X4_shake ⟨Nat.le_of_ble_eq_true rfl, Nat.le_of_ble_eq_true rfl⟩) ⟨in_blind, va_recv hK (pa_l (pa_r hPs)) (ci := 4) (q0 := 0) rfl rfl, k_pre hK (pa_l (pa_r hPs)) (da_l (da_r hDs)) hN⟩ rfl rfl hl.1 rfl (lv_room (Nat.le_of_ble_eq_true rfl)) dL_law_183 ⟨Nat.le_of_ble_eq_true rfl, Nat.le_of_ble_eq_true rfl⟩) hPs hDs hS hA (fun r1 u1 H locs hw1 hP hD hS => ?_)
  have hw1 : (r1, u1) = sh_X4_shake N oo zz M0 M1 M2 M3 (xs (i + 1).toNatClampNeg) := hw1
  have hP : va_P D vwCl ((DW cI cC cQ d0 n0 na s0 sa h1 h2 mm ma t0 p0 pA tk u1.1 S u1.2.1 u1.2.2.1 u1.2.2.2.1 u1.2.2.2.2.1 u1.2.2.2.2.2.1 u1.2.2.2.2.2.2 rs de pc pg sg ln po dd lt pl f1s s2s tms) ++ (MO cI z0 za sv pa pn sn kp pd l2 so p2 wr l5 fr sc tm hd st)) H := hP
  have hD : va_D (fun q : Nat => s.heap.size ≤ q) ((DW cI cC cQ d0 n0 na s0 sa h1 h2 mm ma t0 p0 pA tk u1.1 S u1.2.1 u1.2.2.1 u1.2.2.2.1 u1.2.2.2.2.1 u1.2.2.2.2.2.1 u1.2.2.2.2.2.2 rs de pc pg sg ln po dd lt pl f1s s2s tms) ++ (MO cI z0 za sv pa pn sn kp pd l2 so p2 wr l5 fr sc tm hd st)) := hD
  refine lv_aload_n hx hb dL_law_186 rfl (lv_at hl 1 rfl) ?_
  refine lv_aload_n hx hb dL_law_187 rfl (lv_at hl 3 rfl) ?_
  refine lv_iload_n hx hb dL_law_188 rfl (lv_at hl 0 rfl) ?_
  refine lv_iconst (v := 1) hx hb dL_law_189 (by decide) ?_
  refine lv_iadd hx hb dL_law_190 ?_
  refine va_sld hx hb hX hbl hbA hS hi.1 dL_law_191 ?_
  have hPs : va_P D vwCl ((DW cI cC cQ d0 n0 na s0 sa h1 h2 mm ma t0 p0 pA tk u1.1 S u1.2.1 u1.2.2.1 u1.2.2.2.1 u1.2.2.2.2.1 u1.2.2.2.2.2.1 u1.2.2.2.2.2.2 rs de pc pg sg ln po dd lt pl f1s s2s tms) ++ ((MO cI z0 za sv pa pn sn kp pd l2 so p2 wr l5 fr sc tm hd st) ++ ([] : va_W))) H := hP
  have hDs : va_D (fun q : Nat => s.heap.size ≤ q) ((DW cI cC cQ d0 n0 na s0 sa h1 h2 mm ma t0 p0 pA tk u1.1 S u1.2.1 u1.2.2.1 u1.2.2.2.1 u1.2.2.2.2.1 u1.2.2.2.2.2.1 u1.2.2.2.2.2.2 rs de pc pg sg ln po dd lt pl f1s s2s tms) ++ ((MO cI z0 za sv pa pn sn kp pd l2 so p2 wr l5 fr sc tm hd st) ++ ([] : va_W))) := hD
  refine k_behi (X := (DW cI cC cQ d0 n0 na s0 sa h1 h2 mm ma t0 p0 pA tk u1.1 S u1.2.1 u1.2.2.1 u1.2.2.2.1 u1.2.2.2.2.1 u1.2.2.2.2.2.1 u1.2.2.2.2.2.2 rs de pc pg sg ln po dd lt pl f1s s2s tms)) (Y := ([] : va_W)) (va_runV (As := [.int (xs (i + 1).toNatClampNeg)]) (rest := [.int r1]) ⟨hx, hb, hml, hown, hts⟩ (c_X5_shake l D cI cC cQ H.size z0 za sv pa pn sn kp pd l2 so p2 wr l5 fr sc tm hd st (xs (i + 1).toNatClampNeg) ((hrel.2.1.2.2.1 ▸ hrel.2.1.2.1))) (kcwV hts wd_ml_RL_22 wd_im_yX5_shake wd_sel_yX5_shake wd_ini_RX5 wd_code_yX5_shake rfl rfl rfl hd_X5_shake ⟨Nat.le_of_ble_eq_true rfl, Nat.le_of_ble_eq_true rfl⟩) ⟨in_blind, va_recv hK (pa_l (pa_r hPs)) (ci := 5) (q0 := 0) rfl rfl, k_pre hK (pa_l (pa_r hPs)) (da_l (da_r hDs)) hN⟩ rfl rfl hl.1 rfl (lv_room (Nat.le_of_ble_eq_true rfl)) dL_law_192 ⟨Nat.le_of_ble_eq_true rfl, Nat.le_of_ble_eq_true rfl⟩) hPs hDs hS hA (fun r2 u2 H locs hw2 hP hD hS => ?_)
  have hw2 : (r2, u2) = sh_X5_shake sv pa pn (xs (i + 1).toNatClampNeg) := hw2
  have hP : va_P D vwCl ((DW cI cC cQ d0 n0 na s0 sa h1 h2 mm ma t0 p0 pA tk u1.1 S u1.2.1 u1.2.2.1 u1.2.2.2.1 u1.2.2.2.2.1 u1.2.2.2.2.2.1 u1.2.2.2.2.2.2 rs de pc pg sg ln po dd lt pl f1s s2s tms) ++ (MO cI z0 za u2.1 u2.2.1 u2.2.2 sn kp pd l2 so p2 wr l5 fr sc tm hd st)) H := hP
  have hD : va_D (fun q : Nat => s.heap.size ≤ q) ((DW cI cC cQ d0 n0 na s0 sa h1 h2 mm ma t0 p0 pA tk u1.1 S u1.2.1 u1.2.2.1 u1.2.2.2.1 u1.2.2.2.2.1 u1.2.2.2.2.2.1 u1.2.2.2.2.2.2 rs de pc pg sg ln po dd lt pl f1s s2s tms) ++ (MO cI z0 za u2.1 u2.2.1 u2.2.2 sn kp pd l2 so p2 wr l5 fr sc tm hd st)) := hD
  have E := e_shake hrel (R := (r1, u1)) hw1 (T := (r2, u2)) hw2
  have E1 : r1 = r2 := E.1
  have E2 : Rel (B + 10000) tk u1.1 S u1.2.1 u1.2.2.1 u1.2.2.2.1 u1.2.2.2.2.1 u1.2.2.2.2.2.1 u1.2.2.2.2.2.2 rs de pc pg sg ln u2.1 u2.2.1 u2.2.2 sn kp pd l2 so := E.2
  refine lv_icmp_eq (tgt := 830) hx hb dL_law_195 (by decide) (fun _ => ?_) (fun c9 => absurd E1 c9)
  exact go tk u1.1 S u1.2.1 u1.2.2.1 u1.2.2.2.1 u1.2.2.2.2.1 u1.2.2.2.2.2.1 u1.2.2.2.2.2.2 rs de pc pg sg ln po dd lt pl f1s s2s tms u2.1 u2.2.1 u2.2.2 sn kp pd l2 so p2 wr l5 fr sc tm hd st _ _ _ (E2) hP hD hS hl
set_option maxHeartbeats 40000000 in
set_option maxRecDepth 100000 in
theorem law_2 {p : Program} {l : Launch} {e : Env} {s : State} {m : MethodId} {below : List Frame} {meth : Method} {c : Code} {b L : Nat} {xs : Nat → Int32} {D : va_G} {cI cC cQ : ClassId} {d0 n0 : Nat} {na : Nat → Nat} {s0 : Nat} {sa : Nat → Nat} {h1 h2 : Nat} {mm : Nat → Nat} {ma : Nat → Nat → Nat} {t0 p0 : Nat} {pA : Nat → Nat} {z0 : Nat} {za : Nat → Nat} {B : Int} {i : Int32} (F : FxL p s m meth c b L xs D cI cC cQ) (hi : vp_in (i + 1) L ∧ vp_in (i + 2) L ∧ vp_in (i + 3) L ∧ vp_in (i + 4) L) (hB : B ≤ 400000000) (go : GoL p l e s m below meth c b D cI cC cQ d0 n0 na s0 sa h1 h2 mm ma t0 p0 pA z0 za 830 (B + 10000) i) : GoL p l e s m below meth c b D cI cC cQ d0 n0 na s0 sa h1 h2 mm ma t0 p0 pA z0 za 200 B i := by
  intro tk N S oo zz M0 M1 M2 M3 rs de pc pg sg ln po dd lt pl f1s s2s tms sv pa pn sn kp pd l2 so p2 wr l5 fr sc tm hd st H locs ls hrel hP hD hS hl
  obtain ⟨hx, hb, hr, hlocks, hml, hown, hts, hX, hbl, hN, hK, hZ⟩ := F
  have hA : ∀ q : Nat, s.heap.size ≤ q → (fun q : Nat => s.heap.size ≤ q) q := fun _ h => h
  have hbA : ¬ (fun q : Nat => s.heap.size ≤ q) b := Nat.not_le.mpr hbl
  refine lv_aload_n hx hb dL_law_200 rfl (lv_at hl 2 rfl) ?_
  refine lv_aload_n hx hb dL_law_201 rfl (lv_at hl 3 rfl) ?_
  refine lv_iload_n hx hb dL_law_202 rfl (lv_at hl 0 rfl) ?_
  refine lv_iconst (v := 1) hx hb dL_law_203 (by decide) ?_
  refine lv_iadd hx hb dL_law_204 ?_
  refine va_sld hx hb hX hbl hbA hS hi.1 dL_law_205 ?_
  refine lv_aload_n hx hb dL_law_206 rfl (lv_at hl 3 rfl) ?_
  refine lv_iload_n hx hb dL_law_207 rfl (lv_at hl 0 rfl) ?_
  refine lv_iconst (v := 2) hx hb dL_law_208 (by decide) ?_
  refine lv_iadd hx hb dL_law_209 ?_
  refine va_sld hx hb hX hbl hbA hS hi.2.1 dL_law_210 ?_
  have hPs : va_P D vwCl (([] : va_W) ++ ((DW cI cC cQ d0 n0 na s0 sa h1 h2 mm ma t0 p0 pA tk N S oo zz M0 M1 M2 M3 rs de pc pg sg ln po dd lt pl f1s s2s tms) ++ (MO cI z0 za sv pa pn sn kp pd l2 so p2 wr l5 fr sc tm hd st))) H := hP
  have hDs : va_D (fun q : Nat => s.heap.size ≤ q) (([] : va_W) ++ ((DW cI cC cQ d0 n0 na s0 sa h1 h2 mm ma t0 p0 pA tk N S oo zz M0 M1 M2 M3 rs de pc pg sg ln po dd lt pl f1s s2s tms) ++ (MO cI z0 za sv pa pn sn kp pd l2 so p2 wr l5 fr sc tm hd st))) := hD
  refine k_behi (X := ([] : va_W)) (Y := (MO cI z0 za sv pa pn sn kp pd l2 so p2 wr l5 fr sc tm hd st)) (va_runV (As := [.int (xs (i + 1).toNatClampNeg), .int (xs (i + 2).toNatClampNeg)]) (rest := []) ⟨hx, hb, hml, hown, hts⟩ (c_X4_move l D cI cC cQ H.size d0 n0 na s0 sa h1 h2 mm ma t0 p0 pA tk N S oo zz M0 M1 M2 M3 rs de pc pg sg ln po dd lt pl f1s s2s tms (xs (i + 1).toNatClampNeg) (xs (i + 2).toNatClampNeg) (hrel.2.1.1) (hrel.2.1.2.1)) (kcwV hts wd_ml_RL_23 wd_im_yX4_move wd_sel_yX4_move wd_ini_RX4 wd_code_yX4_move rfl rfl rfl hd_X4_move ⟨Nat.le_of_ble_eq_true rfl, Nat.le_of_ble_eq_true rfl⟩) ⟨in_blind, va_recv hK (pa_l (pa_r hPs)) (ci := 4) (q0 := 0) rfl rfl, k_pre hK (pa_l (pa_r hPs)) (da_l (da_r hDs)) hN⟩ rfl rfl hl.1 rfl (lv_room (Nat.le_of_ble_eq_true rfl)) dL_law_211 ⟨Nat.le_of_ble_eq_true rfl, Nat.le_of_ble_eq_true rfl⟩) hPs hDs hS hA (fun r1 u1 H locs hw1 hP hD hS => ?_)
  have hw1 : (r1, u1) = sh_X4_move N oo zz M0 M1 M2 M3 (xs (i + 1).toNatClampNeg) (xs (i + 2).toNatClampNeg) := hw1
  have hP : va_P D vwCl ((DW cI cC cQ d0 n0 na s0 sa h1 h2 mm ma t0 p0 pA tk u1.1 S u1.2.1 u1.2.2.1 u1.2.2.2.1 u1.2.2.2.2.1 u1.2.2.2.2.2.1 u1.2.2.2.2.2.2 rs de pc pg sg ln po dd lt pl f1s s2s tms) ++ (MO cI z0 za sv pa pn sn kp pd l2 so p2 wr l5 fr sc tm hd st)) H := hP
  have hD : va_D (fun q : Nat => s.heap.size ≤ q) ((DW cI cC cQ d0 n0 na s0 sa h1 h2 mm ma t0 p0 pA tk u1.1 S u1.2.1 u1.2.2.1 u1.2.2.2.1 u1.2.2.2.2.1 u1.2.2.2.2.2.1 u1.2.2.2.2.2.2 rs de pc pg sg ln po dd lt pl f1s s2s tms) ++ (MO cI z0 za sv pa pn sn kp pd l2 so p2 wr l5 fr sc tm hd st)) := hD
  refine lv_aload_n hx hb dL_law_214 rfl (lv_at hl 1 rfl) ?_
  refine lv_aload_n hx hb dL_law_215 rfl (lv_at hl 3 rfl) ?_
  refine lv_iload_n hx hb dL_law_216 rfl (lv_at hl 0 rfl) ?_
  refine lv_iconst (v := 1) hx hb dL_law_217 (by decide) ?_
  refine lv_iadd hx hb dL_law_218 ?_
  refine va_sld hx hb hX hbl hbA hS hi.1 dL_law_219 ?_
  refine lv_aload_n hx hb dL_law_220 rfl (lv_at hl 3 rfl) ?_
  refine lv_iload_n hx hb dL_law_221 rfl (lv_at hl 0 rfl) ?_
  refine lv_iconst (v := 2) hx hb dL_law_222 (by decide) ?_
  refine lv_iadd hx hb dL_law_223 ?_
  refine va_sld hx hb hX hbl hbA hS hi.2.1 dL_law_224 ?_
  have hPs : va_P D vwCl ((DW cI cC cQ d0 n0 na s0 sa h1 h2 mm ma t0 p0 pA tk u1.1 S u1.2.1 u1.2.2.1 u1.2.2.2.1 u1.2.2.2.2.1 u1.2.2.2.2.2.1 u1.2.2.2.2.2.2 rs de pc pg sg ln po dd lt pl f1s s2s tms) ++ ((MO cI z0 za sv pa pn sn kp pd l2 so p2 wr l5 fr sc tm hd st) ++ ([] : va_W))) H := hP
  have hDs : va_D (fun q : Nat => s.heap.size ≤ q) ((DW cI cC cQ d0 n0 na s0 sa h1 h2 mm ma t0 p0 pA tk u1.1 S u1.2.1 u1.2.2.1 u1.2.2.2.1 u1.2.2.2.2.1 u1.2.2.2.2.2.1 u1.2.2.2.2.2.2 rs de pc pg sg ln po dd lt pl f1s s2s tms) ++ ((MO cI z0 za sv pa pn sn kp pd l2 so p2 wr l5 fr sc tm hd st) ++ ([] : va_W))) := hD
  refine k_behi (X := (DW cI cC cQ d0 n0 na s0 sa h1 h2 mm ma t0 p0 pA tk u1.1 S u1.2.1 u1.2.2.1 u1.2.2.2.1 u1.2.2.2.2.1 u1.2.2.2.2.2.1 u1.2.2.2.2.2.2 rs de pc pg sg ln po dd lt pl f1s s2s tms)) (Y := ([] : va_W)) (va_runV (As := [.int (xs (i + 1).toNatClampNeg), .int (xs (i + 2).toNatClampNeg)]) (rest := [.int r1]) ⟨hx, hb, hml, hown, hts⟩ (c_X5_move l D cI cC cQ H.size z0 za sv pa pn sn kp pd l2 so p2 wr l5 fr sc tm hd st (xs (i + 1).toNatClampNeg) (xs (i + 2).toNatClampNeg) ((hrel.2.1.2.2.1 ▸ hrel.2.1.2.1)) (hrel.1.2.1)) (kcwV hts wd_ml_RL_26 wd_im_yX5_move wd_sel_yX5_move wd_ini_RX5 wd_code_yX5_move rfl rfl rfl hd_X5_move ⟨Nat.le_of_ble_eq_true rfl, Nat.le_of_ble_eq_true rfl⟩) ⟨in_blind, va_recv hK (pa_l (pa_r hPs)) (ci := 5) (q0 := 0) rfl rfl, k_pre hK (pa_l (pa_r hPs)) (da_l (da_r hDs)) hN⟩ rfl rfl hl.1 rfl (lv_room (Nat.le_of_ble_eq_true rfl)) dL_law_225 ⟨Nat.le_of_ble_eq_true rfl, Nat.le_of_ble_eq_true rfl⟩) hPs hDs hS hA (fun r2 u2 H locs hw2 hP hD hS => ?_)
  have hw2 : (r2, u2) = sh_X5_move sv pa pn (xs (i + 1).toNatClampNeg) (xs (i + 2).toNatClampNeg) := hw2
  have hP : va_P D vwCl ((DW cI cC cQ d0 n0 na s0 sa h1 h2 mm ma t0 p0 pA tk u1.1 S u1.2.1 u1.2.2.1 u1.2.2.2.1 u1.2.2.2.2.1 u1.2.2.2.2.2.1 u1.2.2.2.2.2.2 rs de pc pg sg ln po dd lt pl f1s s2s tms) ++ (MO cI z0 za u2.1 u2.2.1 u2.2.2 sn kp pd l2 so p2 wr l5 fr sc tm hd st)) H := hP
  have hD : va_D (fun q : Nat => s.heap.size ≤ q) ((DW cI cC cQ d0 n0 na s0 sa h1 h2 mm ma t0 p0 pA tk u1.1 S u1.2.1 u1.2.2.1 u1.2.2.2.1 u1.2.2.2.2.1 u1.2.2.2.2.2.1 u1.2.2.2.2.2.2 rs de pc pg sg ln po dd lt pl f1s s2s tms) ++ (MO cI z0 za u2.1 u2.2.1 u2.2.2 sn kp pd l2 so p2 wr l5 fr sc tm hd st)) := hD
  have E := e_move hrel (R := (r1, u1)) hw1 (T := (r2, u2)) hw2
  have E1 : r1 = r2 := E.1
  have E2 : Rel (B + 10000) tk u1.1 S u1.2.1 u1.2.2.1 u1.2.2.2.1 u1.2.2.2.2.1 u1.2.2.2.2.2.1 u1.2.2.2.2.2.2 rs de pc pg sg ln u2.1 u2.2.1 u2.2.2 sn kp pd l2 so := E.2
  refine lv_icmp_eq (tgt := 830) hx hb dL_law_228 (by decide) (fun _ => ?_) (fun c9 => absurd E1 c9)
  exact go tk u1.1 S u1.2.1 u1.2.2.1 u1.2.2.2.1 u1.2.2.2.2.1 u1.2.2.2.2.2.1 u1.2.2.2.2.2.2 rs de pc pg sg ln po dd lt pl f1s s2s tms u2.1 u2.2.1 u2.2.2 sn kp pd l2 so p2 wr l5 fr sc tm hd st _ _ _ (E2) hP hD hS hl
set_option maxHeartbeats 40000000 in
set_option maxRecDepth 100000 in
theorem law_3 {p : Program} {l : Launch} {e : Env} {s : State} {m : MethodId} {below : List Frame} {meth : Method} {c : Code} {b L : Nat} {xs : Nat → Int32} {D : va_G} {cI cC cQ : ClassId} {d0 n0 : Nat} {na : Nat → Nat} {s0 : Nat} {sa : Nat → Nat} {h1 h2 : Nat} {mm : Nat → Nat} {ma : Nat → Nat → Nat} {t0 p0 : Nat} {pA : Nat → Nat} {z0 : Nat} {za : Nat → Nat} {B : Int} {i : Int32} (F : FxL p s m meth c b L xs D cI cC cQ) (hi : vp_in (i + 1) L ∧ vp_in (i + 2) L ∧ vp_in (i + 3) L ∧ vp_in (i + 4) L) (hB : B ≤ 400000000) (go : GoL p l e s m below meth c b D cI cC cQ d0 n0 na s0 sa h1 h2 mm ma t0 p0 pA z0 za 830 (B + 10000) i) : GoL p l e s m below meth c b D cI cC cQ d0 n0 na s0 sa h1 h2 mm ma t0 p0 pA z0 za 233 B i := by
  intro tk N S oo zz M0 M1 M2 M3 rs de pc pg sg ln po dd lt pl f1s s2s tms sv pa pn sn kp pd l2 so p2 wr l5 fr sc tm hd st H locs ls hrel hP hD hS hl
  obtain ⟨hx, hb, hr, hlocks, hml, hown, hts, hX, hbl, hN, hK, hZ⟩ := F
  have hA : ∀ q : Nat, s.heap.size ≤ q → (fun q : Nat => s.heap.size ≤ q) q := fun _ h => h
  have hbA : ¬ (fun q : Nat => s.heap.size ≤ q) b := Nat.not_le.mpr hbl
  refine lv_aload_n hx hb dL_law_233 rfl (lv_at hl 2 rfl) ?_
  refine lv_aload_n hx hb dL_law_234 rfl (lv_at hl 3 rfl) ?_
  refine lv_iload_n hx hb dL_law_235 rfl (lv_at hl 0 rfl) ?_
  refine lv_iconst (v := 1) hx hb dL_law_236 (by decide) ?_
  refine lv_iadd hx hb dL_law_237 ?_
  refine va_sld hx hb hX hbl hbA hS hi.1 dL_law_238 ?_
  have hPs : va_P D vwCl (([] : va_W) ++ ((DW cI cC cQ d0 n0 na s0 sa h1 h2 mm ma t0 p0 pA tk N S oo zz M0 M1 M2 M3 rs de pc pg sg ln po dd lt pl f1s s2s tms) ++ (MO cI z0 za sv pa pn sn kp pd l2 so p2 wr l5 fr sc tm hd st))) H := hP
  have hDs : va_D (fun q : Nat => s.heap.size ≤ q) (([] : va_W) ++ ((DW cI cC cQ d0 n0 na s0 sa h1 h2 mm ma t0 p0 pA tk N S oo zz M0 M1 M2 M3 rs de pc pg sg ln po dd lt pl f1s s2s tms) ++ (MO cI z0 za sv pa pn sn kp pd l2 so p2 wr l5 fr sc tm hd st))) := hD
  refine k_behi (X := ([] : va_W)) (Y := (MO cI z0 za sv pa pn sn kp pd l2 so p2 wr l5 fr sc tm hd st)) (va_runV (As := [.int (xs (i + 1).toNatClampNeg)]) (rest := []) ⟨hx, hb, hml, hown, hts⟩ (c_X4_takeOut l D cI cC cQ H.size d0 n0 na s0 sa h1 h2 mm ma t0 p0 pA tk N S oo zz M0 M1 M2 M3 rs de pc pg sg ln po dd lt pl f1s s2s tms (xs (i + 1).toNatClampNeg) (hrel.2.1.1) (hrel.2.1.2.1)) (kcwV hts wd_ml_RL_27 wd_im_yX4_takeOut wd_sel_yX4_takeOut wd_ini_RX4 wd_code_yX4_takeOut rfl rfl rfl hd_X4_takeOut ⟨Nat.le_of_ble_eq_true rfl, Nat.le_of_ble_eq_true rfl⟩) ⟨in_blind, va_recv hK (pa_l (pa_r hPs)) (ci := 4) (q0 := 0) rfl rfl, k_pre hK (pa_l (pa_r hPs)) (da_l (da_r hDs)) hN⟩ rfl rfl hl.1 rfl (lv_room (Nat.le_of_ble_eq_true rfl)) dL_law_239 ⟨Nat.le_of_ble_eq_true rfl, Nat.le_of_ble_eq_true rfl⟩) hPs hDs hS hA (fun r1 u1 H locs hw1 hP hD hS => ?_)
  have hw1 : (r1, u1) = sh_X4_takeOut N oo zz M0 M1 M2 M3 (xs (i + 1).toNatClampNeg) := hw1
  have hP : va_P D vwCl ((DW cI cC cQ d0 n0 na s0 sa h1 h2 mm ma t0 p0 pA tk u1.1 S u1.2.1 u1.2.2.1 u1.2.2.2.1 u1.2.2.2.2.1 u1.2.2.2.2.2.1 u1.2.2.2.2.2.2 rs de pc pg sg ln po dd lt pl f1s s2s tms) ++ (MO cI z0 za sv pa pn sn kp pd l2 so p2 wr l5 fr sc tm hd st)) H := hP
  have hD : va_D (fun q : Nat => s.heap.size ≤ q) ((DW cI cC cQ d0 n0 na s0 sa h1 h2 mm ma t0 p0 pA tk u1.1 S u1.2.1 u1.2.2.1 u1.2.2.2.1 u1.2.2.2.2.1 u1.2.2.2.2.2.1 u1.2.2.2.2.2.2 rs de pc pg sg ln po dd lt pl f1s s2s tms) ++ (MO cI z0 za sv pa pn sn kp pd l2 so p2 wr l5 fr sc tm hd st)) := hD
  refine lv_aload_n hx hb dL_law_242 rfl (lv_at hl 1 rfl) ?_
  refine lv_aload_n hx hb dL_law_243 rfl (lv_at hl 3 rfl) ?_
  refine lv_iload_n hx hb dL_law_244 rfl (lv_at hl 0 rfl) ?_
  refine lv_iconst (v := 1) hx hb dL_law_245 (by decide) ?_
  refine lv_iadd hx hb dL_law_246 ?_
  refine va_sld hx hb hX hbl hbA hS hi.1 dL_law_247 ?_
  have hPs : va_P D vwCl ((DW cI cC cQ d0 n0 na s0 sa h1 h2 mm ma t0 p0 pA tk u1.1 S u1.2.1 u1.2.2.1 u1.2.2.2.1 u1.2.2.2.2.1 u1.2.2.2.2.2.1 u1.2.2.2.2.2.2 rs de pc pg sg ln po dd lt pl f1s s2s tms) ++ ((MO cI z0 za sv pa pn sn kp pd l2 so p2 wr l5 fr sc tm hd st) ++ ([] : va_W))) H := hP
  have hDs : va_D (fun q : Nat => s.heap.size ≤ q) ((DW cI cC cQ d0 n0 na s0 sa h1 h2 mm ma t0 p0 pA tk u1.1 S u1.2.1 u1.2.2.1 u1.2.2.2.1 u1.2.2.2.2.1 u1.2.2.2.2.2.1 u1.2.2.2.2.2.2 rs de pc pg sg ln po dd lt pl f1s s2s tms) ++ ((MO cI z0 za sv pa pn sn kp pd l2 so p2 wr l5 fr sc tm hd st) ++ ([] : va_W))) := hD
  refine k_behi (X := (DW cI cC cQ d0 n0 na s0 sa h1 h2 mm ma t0 p0 pA tk u1.1 S u1.2.1 u1.2.2.1 u1.2.2.2.1 u1.2.2.2.2.1 u1.2.2.2.2.2.1 u1.2.2.2.2.2.2 rs de pc pg sg ln po dd lt pl f1s s2s tms)) (Y := ([] : va_W)) (va_runV (As := [.int (xs (i + 1).toNatClampNeg)]) (rest := [.int r1]) ⟨hx, hb, hml, hown, hts⟩ (c_X5_takeOut l D cI cC cQ H.size z0 za sv pa pn sn kp pd l2 so p2 wr l5 fr sc tm hd st (xs (i + 1).toNatClampNeg) ((hrel.2.1.2.2.1 ▸ hrel.2.1.2.1)) (hrel.1.2.1)) (kcwV hts wd_ml_RL_30 wd_im_yX5_takeOut wd_sel_yX5_takeOut wd_ini_RX5 wd_code_yX5_takeOut rfl rfl rfl hd_X5_takeOut ⟨Nat.le_of_ble_eq_true rfl, Nat.le_of_ble_eq_true rfl⟩) ⟨in_blind, va_recv hK (pa_l (pa_r hPs)) (ci := 5) (q0 := 0) rfl rfl, k_pre hK (pa_l (pa_r hPs)) (da_l (da_r hDs)) hN⟩ rfl rfl hl.1 rfl (lv_room (Nat.le_of_ble_eq_true rfl)) dL_law_248 ⟨Nat.le_of_ble_eq_true rfl, Nat.le_of_ble_eq_true rfl⟩) hPs hDs hS hA (fun r2 u2 H locs hw2 hP hD hS => ?_)
  have hw2 : (r2, u2) = sh_X5_takeOut sv pa pn (xs (i + 1).toNatClampNeg) := hw2
  have hP : va_P D vwCl ((DW cI cC cQ d0 n0 na s0 sa h1 h2 mm ma t0 p0 pA tk u1.1 S u1.2.1 u1.2.2.1 u1.2.2.2.1 u1.2.2.2.2.1 u1.2.2.2.2.2.1 u1.2.2.2.2.2.2 rs de pc pg sg ln po dd lt pl f1s s2s tms) ++ (MO cI z0 za u2.1 u2.2.1 u2.2.2 sn kp pd l2 so p2 wr l5 fr sc tm hd st)) H := hP
  have hD : va_D (fun q : Nat => s.heap.size ≤ q) ((DW cI cC cQ d0 n0 na s0 sa h1 h2 mm ma t0 p0 pA tk u1.1 S u1.2.1 u1.2.2.1 u1.2.2.2.1 u1.2.2.2.2.1 u1.2.2.2.2.2.1 u1.2.2.2.2.2.2 rs de pc pg sg ln po dd lt pl f1s s2s tms) ++ (MO cI z0 za u2.1 u2.2.1 u2.2.2 sn kp pd l2 so p2 wr l5 fr sc tm hd st)) := hD
  have E := e_takeOut hrel (R := (r1, u1)) hw1 (T := (r2, u2)) hw2
  have E1 : r1 = r2 := E.1
  have E2 : Rel (B + 10000) tk u1.1 S u1.2.1 u1.2.2.1 u1.2.2.2.1 u1.2.2.2.2.1 u1.2.2.2.2.2.1 u1.2.2.2.2.2.2 rs de pc pg sg ln u2.1 u2.2.1 u2.2.2 sn kp pd l2 so := E.2
  refine lv_icmp_eq (tgt := 830) hx hb dL_law_251 (by decide) (fun _ => ?_) (fun c9 => absurd E1 c9)
  exact go tk u1.1 S u1.2.1 u1.2.2.1 u1.2.2.2.1 u1.2.2.2.2.1 u1.2.2.2.2.2.1 u1.2.2.2.2.2.2 rs de pc pg sg ln po dd lt pl f1s s2s tms u2.1 u2.2.1 u2.2.2 sn kp pd l2 so p2 wr l5 fr sc tm hd st _ _ _ (E2) hP hD hS hl
set_option maxHeartbeats 40000000 in
set_option maxRecDepth 100000 in
theorem law_4 {p : Program} {l : Launch} {e : Env} {s : State} {m : MethodId} {below : List Frame} {meth : Method} {c : Code} {b L : Nat} {xs : Nat → Int32} {D : va_G} {cI cC cQ : ClassId} {d0 n0 : Nat} {na : Nat → Nat} {s0 : Nat} {sa : Nat → Nat} {h1 h2 : Nat} {mm : Nat → Nat} {ma : Nat → Nat → Nat} {t0 p0 : Nat} {pA : Nat → Nat} {z0 : Nat} {za : Nat → Nat} {B : Int} {i : Int32} (F : FxL p s m meth c b L xs D cI cC cQ) (hi : vp_in (i + 1) L ∧ vp_in (i + 2) L ∧ vp_in (i + 3) L ∧ vp_in (i + 4) L) (hB : B ≤ 400000000) (go : GoL p l e s m below meth c b D cI cC cQ d0 n0 na s0 sa h1 h2 mm ma t0 p0 pA z0 za 830 (B + 10000) i) : GoL p l e s m below meth c b D cI cC cQ d0 n0 na s0 sa h1 h2 mm ma t0 p0 pA z0 za 256 B i := by
  intro tk N S oo zz M0 M1 M2 M3 rs de pc pg sg ln po dd lt pl f1s s2s tms sv pa pn sn kp pd l2 so p2 wr l5 fr sc tm hd st H locs ls hrel hP hD hS hl
  obtain ⟨hx, hb, hr, hlocks, hml, hown, hts, hX, hbl, hN, hK, hZ⟩ := F
  have hA : ∀ q : Nat, s.heap.size ≤ q → (fun q : Nat => s.heap.size ≤ q) q := fun _ h => h
  have hbA : ¬ (fun q : Nat => s.heap.size ≤ q) b := Nat.not_le.mpr hbl
  refine lv_aload_n hx hb dL_law_256 rfl (lv_at hl 2 rfl) ?_
  refine lv_aload_n hx hb dL_law_257 rfl (lv_at hl 3 rfl) ?_
  refine lv_iload_n hx hb dL_law_258 rfl (lv_at hl 0 rfl) ?_
  refine lv_iconst (v := 1) hx hb dL_law_259 (by decide) ?_
  refine lv_iadd hx hb dL_law_260 ?_
  refine va_sld hx hb hX hbl hbA hS hi.1 dL_law_261 ?_
  refine lv_aload_n hx hb dL_law_262 rfl (lv_at hl 3 rfl) ?_
  refine lv_iload_n hx hb dL_law_263 rfl (lv_at hl 0 rfl) ?_
  refine lv_iconst (v := 2) hx hb dL_law_264 (by decide) ?_
  refine lv_iadd hx hb dL_law_265 ?_
  refine va_sld hx hb hX hbl hbA hS hi.2.1 dL_law_266 ?_
  have hPs : va_P D vwCl (([] : va_W) ++ ((DW cI cC cQ d0 n0 na s0 sa h1 h2 mm ma t0 p0 pA tk N S oo zz M0 M1 M2 M3 rs de pc pg sg ln po dd lt pl f1s s2s tms) ++ (MO cI z0 za sv pa pn sn kp pd l2 so p2 wr l5 fr sc tm hd st))) H := hP
  have hDs : va_D (fun q : Nat => s.heap.size ≤ q) (([] : va_W) ++ ((DW cI cC cQ d0 n0 na s0 sa h1 h2 mm ma t0 p0 pA tk N S oo zz M0 M1 M2 M3 rs de pc pg sg ln po dd lt pl f1s s2s tms) ++ (MO cI z0 za sv pa pn sn kp pd l2 so p2 wr l5 fr sc tm hd st))) := hD
  refine k_behi (X := ([] : va_W)) (Y := (MO cI z0 za sv pa pn sn kp pd l2 so p2 wr l5 fr sc tm hd st)) (va_runV (As := [.int (xs (i + 1).toNatClampNeg), .int (xs (i + 2).toNatClampNeg)]) (rest := []) ⟨hx, hb, hml, hown, hts⟩ (c_X4_refill l D cI cC cQ H.size d0 n0 na s0 sa h1 h2 mm ma t0 p0 pA tk N S oo zz M0 M1 M2 M3 rs de pc pg sg ln po dd lt pl f1s s2s tms (xs (i + 1).toNatClampNeg) (xs (i + 2).toNatClampNeg) (hrel.2.1.1) (hrel.2.1.2.1)) (kcwV hts wd_ml_RL_31 wd_im_yX4_refill wd_sel_yX4_refill wd_ini_RX4 wd_code_yX4_refill rfl rfl rfl hd_X4_refill ⟨Nat.le_of_ble_eq_true rfl, Nat.le_of_ble_eq_true rfl⟩) ⟨in_blind, va_recv hK (pa_l (pa_r hPs)) (ci := 4) (q0 := 0) rfl rfl, k_pre hK (pa_l (pa_r hPs)) (da_l (da_r hDs)) hN⟩ rfl rfl hl.1 rfl (lv_room (Nat.le_of_ble_eq_true rfl)) dL_law_267 ⟨Nat.le_of_ble_eq_true rfl, Nat.le_of_ble_eq_true rfl⟩) hPs hDs hS hA (fun r1 u1 H locs hw1 hP hD hS => ?_)
  have hw1 : (r1, u1) = sh_X4_refill N oo zz M0 M1 M2 M3 (xs (i + 1).toNatClampNeg) (xs (i + 2).toNatClampNeg) := hw1
  have hP : va_P D vwCl ((DW cI cC cQ d0 n0 na s0 sa h1 h2 mm ma t0 p0 pA tk u1.1 S u1.2.1 u1.2.2.1 u1.2.2.2.1 u1.2.2.2.2.1 u1.2.2.2.2.2.1 u1.2.2.2.2.2.2 rs de pc pg sg ln po dd lt pl f1s s2s tms) ++ (MO cI z0 za sv pa pn sn kp pd l2 so p2 wr l5 fr sc tm hd st)) H := hP
  have hD : va_D (fun q : Nat => s.heap.size ≤ q) ((DW cI cC cQ d0 n0 na s0 sa h1 h2 mm ma t0 p0 pA tk u1.1 S u1.2.1 u1.2.2.1 u1.2.2.2.1 u1.2.2.2.2.1 u1.2.2.2.2.2.1 u1.2.2.2.2.2.2 rs de pc pg sg ln po dd lt pl f1s s2s tms) ++ (MO cI z0 za sv pa pn sn kp pd l2 so p2 wr l5 fr sc tm hd st)) := hD
  refine lv_aload_n hx hb dL_law_270 rfl (lv_at hl 1 rfl) ?_
  refine lv_aload_n hx hb dL_law_271 rfl (lv_at hl 3 rfl) ?_
  refine lv_iload_n hx hb dL_law_272 rfl (lv_at hl 0 rfl) ?_
  refine lv_iconst (v := 1) hx hb dL_law_273 (by decide) ?_
  refine lv_iadd hx hb dL_law_274 ?_
  refine va_sld hx hb hX hbl hbA hS hi.1 dL_law_275 ?_
  refine lv_aload_n hx hb dL_law_276 rfl (lv_at hl 3 rfl) ?_
  refine lv_iload_n hx hb dL_law_277 rfl (lv_at hl 0 rfl) ?_
  refine lv_iconst (v := 2) hx hb dL_law_278 (by decide) ?_
  refine lv_iadd hx hb dL_law_279 ?_
  refine va_sld hx hb hX hbl hbA hS hi.2.1 dL_law_280 ?_
  have hPs : va_P D vwCl ((DW cI cC cQ d0 n0 na s0 sa h1 h2 mm ma t0 p0 pA tk u1.1 S u1.2.1 u1.2.2.1 u1.2.2.2.1 u1.2.2.2.2.1 u1.2.2.2.2.2.1 u1.2.2.2.2.2.2 rs de pc pg sg ln po dd lt pl f1s s2s tms) ++ ((MO cI z0 za sv pa pn sn kp pd l2 so p2 wr l5 fr sc tm hd st) ++ ([] : va_W))) H := hP
  have hDs : va_D (fun q : Nat => s.heap.size ≤ q) ((DW cI cC cQ d0 n0 na s0 sa h1 h2 mm ma t0 p0 pA tk u1.1 S u1.2.1 u1.2.2.1 u1.2.2.2.1 u1.2.2.2.2.1 u1.2.2.2.2.2.1 u1.2.2.2.2.2.2 rs de pc pg sg ln po dd lt pl f1s s2s tms) ++ ((MO cI z0 za sv pa pn sn kp pd l2 so p2 wr l5 fr sc tm hd st) ++ ([] : va_W))) := hD
  refine k_behi (X := (DW cI cC cQ d0 n0 na s0 sa h1 h2 mm ma t0 p0 pA tk u1.1 S u1.2.1 u1.2.2.1 u1.2.2.2.1 u1.2.2.2.2.1 u1.2.2.2.2.2.1 u1.2.2.2.2.2.2 rs de pc pg sg ln po dd lt pl f1s s2s tms)) (Y := ([] : va_W)) (va_runV (As := [.int (xs (i + 1).toNatClampNeg), .int (xs (i + 2).toNatClampNeg)]) (rest := [.int r1]) ⟨hx, hb, hml, hown, hts⟩ (c_X5_refill l D cI cC cQ H.size z0 za sv pa pn sn kp pd l2 so p2 wr l5 fr sc tm hd st (xs (i + 1).toNatClampNeg) (xs (i + 2).toNatClampNeg) ((hrel.2.1.2.2.1 ▸ hrel.2.1.2.1))) (kcwV hts wd_ml_RL_34 wd_im_yX5_refill wd_sel_yX5_refill wd_ini_RX5 wd_code_yX5_refill rfl rfl rfl hd_X5_refill ⟨Nat.le_of_ble_eq_true rfl, Nat.le_of_ble_eq_true rfl⟩) ⟨in_blind, va_recv hK (pa_l (pa_r hPs)) (ci := 5) (q0 := 0) rfl rfl, k_pre hK (pa_l (pa_r hPs)) (da_l (da_r hDs)) hN⟩ rfl rfl hl.1 rfl (lv_room (Nat.le_of_ble_eq_true rfl)) dL_law_281 ⟨Nat.le_of_ble_eq_true rfl, Nat.le_of_ble_eq_true rfl⟩) hPs hDs hS hA (fun r2 u2 H locs hw2 hP hD hS => ?_)
  have hw2 : (r2, u2) = sh_X5_refill sv pa pn (xs (i + 1).toNatClampNeg) (xs (i + 2).toNatClampNeg) := hw2
  have hP : va_P D vwCl ((DW cI cC cQ d0 n0 na s0 sa h1 h2 mm ma t0 p0 pA tk u1.1 S u1.2.1 u1.2.2.1 u1.2.2.2.1 u1.2.2.2.2.1 u1.2.2.2.2.2.1 u1.2.2.2.2.2.2 rs de pc pg sg ln po dd lt pl f1s s2s tms) ++ (MO cI z0 za u2.1 u2.2.1 u2.2.2 sn kp pd l2 so p2 wr l5 fr sc tm hd st)) H := hP
  have hD : va_D (fun q : Nat => s.heap.size ≤ q) ((DW cI cC cQ d0 n0 na s0 sa h1 h2 mm ma t0 p0 pA tk u1.1 S u1.2.1 u1.2.2.1 u1.2.2.2.1 u1.2.2.2.2.1 u1.2.2.2.2.2.1 u1.2.2.2.2.2.2 rs de pc pg sg ln po dd lt pl f1s s2s tms) ++ (MO cI z0 za u2.1 u2.2.1 u2.2.2 sn kp pd l2 so p2 wr l5 fr sc tm hd st)) := hD
  have E := e_refill hrel (R := (r1, u1)) hw1 (T := (r2, u2)) hw2
  have E1 : r1 = r2 := E.1
  have E2 : Rel (B + 10000) tk u1.1 S u1.2.1 u1.2.2.1 u1.2.2.2.1 u1.2.2.2.2.1 u1.2.2.2.2.2.1 u1.2.2.2.2.2.2 rs de pc pg sg ln u2.1 u2.2.1 u2.2.2 sn kp pd l2 so := E.2
  refine lv_icmp_eq (tgt := 830) hx hb dL_law_284 (by decide) (fun _ => ?_) (fun c9 => absurd E1 c9)
  exact go tk u1.1 S u1.2.1 u1.2.2.1 u1.2.2.2.1 u1.2.2.2.2.1 u1.2.2.2.2.2.1 u1.2.2.2.2.2.2 rs de pc pg sg ln po dd lt pl f1s s2s tms u2.1 u2.2.1 u2.2.2 sn kp pd l2 so p2 wr l5 fr sc tm hd st _ _ _ (E2) hP hD hS hl
set_option maxHeartbeats 40000000 in
set_option maxRecDepth 100000 in
theorem law_5 {p : Program} {l : Launch} {e : Env} {s : State} {m : MethodId} {below : List Frame} {meth : Method} {c : Code} {b L : Nat} {xs : Nat → Int32} {D : va_G} {cI cC cQ : ClassId} {d0 n0 : Nat} {na : Nat → Nat} {s0 : Nat} {sa : Nat → Nat} {h1 h2 : Nat} {mm : Nat → Nat} {ma : Nat → Nat → Nat} {t0 p0 : Nat} {pA : Nat → Nat} {z0 : Nat} {za : Nat → Nat} {B : Int} {i : Int32} (F : FxL p s m meth c b L xs D cI cC cQ) (hi : vp_in (i + 1) L ∧ vp_in (i + 2) L ∧ vp_in (i + 3) L ∧ vp_in (i + 4) L) (hB : B ≤ 400000000) (go : GoL p l e s m below meth c b D cI cC cQ d0 n0 na s0 sa h1 h2 mm ma t0 p0 pA z0 za 830 (B + 10000) i) : GoL p l e s m below meth c b D cI cC cQ d0 n0 na s0 sa h1 h2 mm ma t0 p0 pA z0 za 289 B i := by
  intro tk N S oo zz M0 M1 M2 M3 rs de pc pg sg ln po dd lt pl f1s s2s tms sv pa pn sn kp pd l2 so p2 wr l5 fr sc tm hd st H locs ls hrel hP hD hS hl
  obtain ⟨hx, hb, hr, hlocks, hml, hown, hts, hX, hbl, hN, hK, hZ⟩ := F
  have hA : ∀ q : Nat, s.heap.size ≤ q → (fun q : Nat => s.heap.size ≤ q) q := fun _ h => h
  have hbA : ¬ (fun q : Nat => s.heap.size ≤ q) b := Nat.not_le.mpr hbl
  refine lv_aload_n hx hb dL_law_289 rfl (lv_at hl 2 rfl) ?_
  refine lv_aload_n hx hb dL_law_290 rfl (lv_at hl 3 rfl) ?_
  refine lv_iload_n hx hb dL_law_291 rfl (lv_at hl 0 rfl) ?_
  refine lv_iconst (v := 1) hx hb dL_law_292 (by decide) ?_
  refine lv_iadd hx hb dL_law_293 ?_
  refine va_sld hx hb hX hbl hbA hS hi.1 dL_law_294 ?_
  refine lv_aload_n hx hb dL_law_295 rfl (lv_at hl 3 rfl) ?_
  refine lv_iload_n hx hb dL_law_296 rfl (lv_at hl 0 rfl) ?_
  refine lv_iconst (v := 2) hx hb dL_law_297 (by decide) ?_
  refine lv_iadd hx hb dL_law_298 ?_
  refine va_sld hx hb hX hbl hbA hS hi.2.1 dL_law_299 ?_
  have hPs : va_P D vwCl (([] : va_W) ++ ((DW cI cC cQ d0 n0 na s0 sa h1 h2 mm ma t0 p0 pA tk N S oo zz M0 M1 M2 M3 rs de pc pg sg ln po dd lt pl f1s s2s tms) ++ (MO cI z0 za sv pa pn sn kp pd l2 so p2 wr l5 fr sc tm hd st))) H := hP
  have hDs : va_D (fun q : Nat => s.heap.size ≤ q) (([] : va_W) ++ ((DW cI cC cQ d0 n0 na s0 sa h1 h2 mm ma t0 p0 pA tk N S oo zz M0 M1 M2 M3 rs de pc pg sg ln po dd lt pl f1s s2s tms) ++ (MO cI z0 za sv pa pn sn kp pd l2 so p2 wr l5 fr sc tm hd st))) := hD
  refine k_behi (X := ([] : va_W)) (Y := (MO cI z0 za sv pa pn sn kp pd l2 so p2 wr l5 fr sc tm hd st)) (va_runV (As := [.int (xs (i + 1).toNatClampNeg), .int (xs (i + 2).toNatClampNeg)]) (rest := []) ⟨hx, hb, hml, hown, hts⟩ (c_X4_set l D cI cC cQ H.size d0 n0 na s0 sa h1 h2 mm ma t0 p0 pA tk N S oo zz M0 M1 M2 M3 rs de pc pg sg ln po dd lt pl f1s s2s tms (xs (i + 1).toNatClampNeg) (xs (i + 2).toNatClampNeg) (hrel.2.1.1) (hrel.2.1.2.1)) (kcwV hts wd_ml_RL_35 wd_im_yX4_set wd_sel_yX4_set wd_ini_RX4 wd_code_yX4_set rfl rfl rfl hd_X4_set ⟨Nat.le_of_ble_eq_true rfl, Nat.le_of_ble_eq_true rfl⟩) ⟨in_blindZ, va_recv hK (pa_l (pa_r hPs)) (ci := 4) (q0 := 0) rfl rfl, k_preZ (p := p) hK hPs hDs hN hS hA hZ⟩ rfl rfl hl.1 rfl (lv_room (Nat.le_of_ble_eq_true rfl)) dL_law_300 ⟨Nat.le_of_ble_eq_true rfl, Nat.le_of_ble_eq_true rfl⟩) hPs hDs hS hA (fun r1 u1 H locs hw1 hP hD hS => ?_)
  have hw1 : (r1, u1) = sh_X4_set N oo zz M0 M1 M2 M3 (xs (i + 1).toNatClampNeg) (xs (i + 2).toNatClampNeg) := hw1
  have hP : va_P D vwCl ((DW cI cC cQ d0 n0 na s0 sa h1 h2 mm ma t0 p0 pA tk u1.1 S u1.2.1 u1.2.2.1 u1.2.2.2.1 u1.2.2.2.2.1 u1.2.2.2.2.2.1 u1.2.2.2.2.2.2 rs de pc pg sg ln po dd lt pl f1s s2s tms) ++ (MO cI z0 za sv pa pn sn kp pd l2 so p2 wr l5 fr sc tm hd st)) H := hP
  have hD : va_D (fun q : Nat => s.heap.size ≤ q) ((DW cI cC cQ d0 n0 na s0 sa h1 h2 mm ma t0 p0 pA tk u1.1 S u1.2.1 u1.2.2.1 u1.2.2.2.1 u1.2.2.2.2.1 u1.2.2.2.2.2.1 u1.2.2.2.2.2.2 rs de pc pg sg ln po dd lt pl f1s s2s tms) ++ (MO cI z0 za sv pa pn sn kp pd l2 so p2 wr l5 fr sc tm hd st)) := hD
  refine lv_aload_n hx hb dL_law_303 rfl (lv_at hl 1 rfl) ?_
  refine lv_aload_n hx hb dL_law_304 rfl (lv_at hl 3 rfl) ?_
  refine lv_iload_n hx hb dL_law_305 rfl (lv_at hl 0 rfl) ?_
  refine lv_iconst (v := 1) hx hb dL_law_306 (by decide) ?_
  refine lv_iadd hx hb dL_law_307 ?_
  refine va_sld hx hb hX hbl hbA hS hi.1 dL_law_308 ?_
  refine lv_aload_n hx hb dL_law_309 rfl (lv_at hl 3 rfl) ?_
  refine lv_iload_n hx hb dL_law_310 rfl (lv_at hl 0 rfl) ?_
  refine lv_iconst (v := 2) hx hb dL_law_311 (by decide) ?_
  refine lv_iadd hx hb dL_law_312 ?_
  refine va_sld hx hb hX hbl hbA hS hi.2.1 dL_law_313 ?_
  have hPs : va_P D vwCl ((DW cI cC cQ d0 n0 na s0 sa h1 h2 mm ma t0 p0 pA tk u1.1 S u1.2.1 u1.2.2.1 u1.2.2.2.1 u1.2.2.2.2.1 u1.2.2.2.2.2.1 u1.2.2.2.2.2.2 rs de pc pg sg ln po dd lt pl f1s s2s tms) ++ ((MO cI z0 za sv pa pn sn kp pd l2 so p2 wr l5 fr sc tm hd st) ++ ([] : va_W))) H := hP
  have hDs : va_D (fun q : Nat => s.heap.size ≤ q) ((DW cI cC cQ d0 n0 na s0 sa h1 h2 mm ma t0 p0 pA tk u1.1 S u1.2.1 u1.2.2.1 u1.2.2.2.1 u1.2.2.2.2.1 u1.2.2.2.2.2.1 u1.2.2.2.2.2.2 rs de pc pg sg ln po dd lt pl f1s s2s tms) ++ ((MO cI z0 za sv pa pn sn kp pd l2 so p2 wr l5 fr sc tm hd st) ++ ([] : va_W))) := hD
  refine k_behi (X := (DW cI cC cQ d0 n0 na s0 sa h1 h2 mm ma t0 p0 pA tk u1.1 S u1.2.1 u1.2.2.1 u1.2.2.2.1 u1.2.2.2.2.1 u1.2.2.2.2.2.1 u1.2.2.2.2.2.2 rs de pc pg sg ln po dd lt pl f1s s2s tms)) (Y := ([] : va_W)) (va_runV (As := [.int (xs (i + 1).toNatClampNeg), .int (xs (i + 2).toNatClampNeg)]) (rest := [.int r1]) ⟨hx, hb, hml, hown, hts⟩ (c_X5_set l D cI cC cQ H.size z0 za sv pa pn sn kp pd l2 so p2 wr l5 fr sc tm hd st (xs (i + 1).toNatClampNeg) (xs (i + 2).toNatClampNeg) ((hrel.2.1.2.2.1 ▸ hrel.2.1.2.1))) (kcwV hts wd_ml_RL_38 wd_im_yX5_set wd_sel_yX5_set wd_ini_RX5 wd_code_yX5_set rfl rfl rfl hd_X5_set ⟨Nat.le_of_ble_eq_true rfl, Nat.le_of_ble_eq_true rfl⟩) ⟨in_blind, va_recv hK (pa_l (pa_r hPs)) (ci := 5) (q0 := 0) rfl rfl, k_pre hK (pa_l (pa_r hPs)) (da_l (da_r hDs)) hN⟩ rfl rfl hl.1 rfl (lv_room (Nat.le_of_ble_eq_true rfl)) dL_law_314 ⟨Nat.le_of_ble_eq_true rfl, Nat.le_of_ble_eq_true rfl⟩) hPs hDs hS hA (fun r2 u2 H locs hw2 hP hD hS => ?_)
  have hw2 : (r2, u2) = sh_X5_set sv pa pn (xs (i + 1).toNatClampNeg) (xs (i + 2).toNatClampNeg) := hw2
  have hP : va_P D vwCl ((DW cI cC cQ d0 n0 na s0 sa h1 h2 mm ma t0 p0 pA tk u1.1 S u1.2.1 u1.2.2.1 u1.2.2.2.1 u1.2.2.2.2.1 u1.2.2.2.2.2.1 u1.2.2.2.2.2.2 rs de pc pg sg ln po dd lt pl f1s s2s tms) ++ (MO cI z0 za u2.1 u2.2.1 u2.2.2 sn kp pd l2 so p2 wr l5 fr sc tm hd st)) H := hP
  have hD : va_D (fun q : Nat => s.heap.size ≤ q) ((DW cI cC cQ d0 n0 na s0 sa h1 h2 mm ma t0 p0 pA tk u1.1 S u1.2.1 u1.2.2.1 u1.2.2.2.1 u1.2.2.2.2.1 u1.2.2.2.2.2.1 u1.2.2.2.2.2.2 rs de pc pg sg ln po dd lt pl f1s s2s tms) ++ (MO cI z0 za u2.1 u2.2.1 u2.2.2 sn kp pd l2 so p2 wr l5 fr sc tm hd st)) := hD
  have E := e_set hrel (R := (r1, u1)) hw1 (T := (r2, u2)) hw2
  have E1 : r1 = r2 := E.1
  have E2 : Rel (B + 10000) tk u1.1 S u1.2.1 u1.2.2.1 u1.2.2.2.1 u1.2.2.2.2.1 u1.2.2.2.2.2.1 u1.2.2.2.2.2.2 rs de pc pg sg ln u2.1 u2.2.1 u2.2.2 sn kp pd l2 so := E.2
  refine lv_icmp_eq (tgt := 830) hx hb dL_law_317 (by decide) (fun _ => ?_) (fun c9 => absurd E1 c9)
  exact go tk u1.1 S u1.2.1 u1.2.2.1 u1.2.2.2.1 u1.2.2.2.2.1 u1.2.2.2.2.2.1 u1.2.2.2.2.2.2 rs de pc pg sg ln po dd lt pl f1s s2s tms u2.1 u2.2.1 u2.2.2 sn kp pd l2 so p2 wr l5 fr sc tm hd st _ _ _ (E2) hP hD hS hl
