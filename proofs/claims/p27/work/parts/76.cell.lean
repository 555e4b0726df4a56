/-- a start that sees the script -/
def inX (b L : Nat) (xs : Nat → Int32) (D : va_G) (tys : List (ClassId × FieldType)) (sz : Nat) (U : State) : Prop := U.heap.size = sz ∧ va_X b L xs U U.heap ∧ b < sz ∧ va_K D vwCl tys U
theorem in_blindX {b L : Nat} {xs : Nat → Int32} {av : List Value} {D : va_G} {tys : List (ClassId × FieldType)} {sz : Nat} : FrameBlind (va_Pc av (inX b L xs D tys sz)) := fun a U g mk q => by
  obtain ⟨q0, q1, qX, qb, qK⟩ := q
  exact ⟨q0, q1, va_X.moved (u := U) (U := U.calling g mk a) (Vm.Alike.refl U.vm) qX, qb, va_K.moved (u := U) (U := U.calling g mk a) (Vm.Alike.refl U.vm) qK⟩
theorem k_preX {s : State} {H : Heap} {locs : List Loc} {A : Nat → Prop} {D : va_G} {tys : List (ClassId × FieldType)} {b L : Nat} {xs : Nat → Int32} (hK : va_K D vwCl tys s) (hX : va_X b L xs s s.heap) (hbl : b < s.heap.size) (hbA : ¬ A b) (hS : va_S A s.heap H locs) {av : List Value} : ∀ U : State, U.heap = H → s.WarmedH U.vm → va_Pc av (inX b L xs D tys H.size) av.toArray U := fun U hU hW =>
  ⟨rfl, by rw [hU], by rw [hU]; exact (hX.kept (hS.2.1 b hbl hbA)).moved hW.alike, Nat.lt_of_lt_of_le hbl hS.1, va_K.moved hW.alike hK⟩
theorem and_nn (x : Int32) : ¬ x &&& 2147483647 < 0 := by
  obtain ⟨j, hj, e⟩ := pk_andE x (m := 2147483647) 31 (by decide)
  rw [e, Int32.lt_iff_toInt_lt, nI_toInt (by omega)]
  have z : (0 : Int32).toInt = 0 := rfl
  omega
abbrev rm_L_cell : Room := { frames := 0, cells := 0, slots := 0, locals := 0 }
theorem hd_L_cell : hdT yL_cell 2 := by decide +kernel
set_option maxHeartbeats 4000000 in
theorem c_L_cell (l : Launch) (D : va_G) (cI cC cQ : ClassId) (sz b L : Nat) (xs : Nat → Int32) (k : Int32) (hL : L ≤ 260) (hk : vp_in k 33) : Met l yL_cell (wsO yL_cell cL_cell 2 (some .int)) rm_L_cell (va_Pc [.ref b, .int k] (inX b L xs D (TYS cI cC cQ) sz)) (va_Qi (fun (r : Int32) (_ : Unit) => ¬ r < 0) (fun (u : Unit) => atW D (TYS cI cC cQ) (va_A [] sz) []) (va_A [] sz)) 0 0 (va_A [] sz) := by
  refine Met.ofW (cc := cL_cell) (maxL := 2) (ret := some .int) (by decide) rfl ?_
  intro p e s m args below meth c s₁ B hml hv
  obtain ⟨rfl, hsz, hX, hbl, hK⟩ := hv
  have hts := atoms_spec (ws := wsO yL_cell cL_cell 2 (some .int)) B.pre
  have hl := lv_entry ([.ref b, .int k] : List Value) (n := 2) (Nat.le_of_ble_eq_true rfl)
  rw [lg_entry_eq]
  generalize (lg_sl ([.ref b, .int k] : List Value) ++ List.replicate (2 - (lg_sl ([.ref b, .int k] : List Value)).length) Slot.unset).toArray = ls at hl ⊢
  have hl : lv_has ls 2 [(0, .ref b), (1, .int k)] := hl
  subst hsz
  have hx := B.exec
  have hb := B.bytes
  have hown := findClass_of_methodNamed B.named
  have hbA : ¬ va_A [] s.heap.size b := fun h => by
    rcases h with ⟨q, e, h⟩ | h
    · simp at h
    · omega
  have hS : va_S (va_A [] s.heap.size) s.heap s.heap [] := va_S.rf
  have hts2 : ∀ w ∈ lwA, w.before ([.ref b, .int k] : List Value).toArray s = true := fun w h => hts w (List.mem_cons_of_mem _ h)
  have fin : ∀ (x : Int32) (ls : Array Slot), W p l e rm_L_cell s m ([.ref b, .int k] : List Value).toArray below meth c s.heap [] 0 0 (MQ below (va_Qi (fun (r : Int32) (_ : Unit) => ¬ r < 0) (fun (u : Unit) => atW D (TYS cI cC cQ) (va_A [] s.heap.size) []) (va_A [] s.heap.size)) ([.ref b, .int k] : List Value).toArray s 0 0 (va_A [] s.heap.size)) (F0 m 22 ls [.int x]) := by
    intro x ls
    refine lv_ldc hx hb hown (hts2 _ wd_con_RL_8) dL_cell_22 ?_
    refine lv_iand hx hb dL_cell_24 ?_
    have hlocks := B.notSynchronized
    refine W.zret (v := x &&& 2147483647) hx hb (by rw [B.returns]) rfl (fun t ht hW => ⟨⟨_, (), rfl, and_nn x, fun q r h => by simp at h, va_K.moved hW.alike hK, ⟨fun i j p q h => by simp at h, fun q r h => by simp at h⟩⟩, hS.F ht⟩) hS.2.2 dL_cell_25
  refine lv_iload_n hx hb dL_cell_0 rfl (lv_at hl 1 rfl) ?_
  refine lv_aload_n hx hb dL_cell_1 rfl (lv_at hl 0 rfl) ?_
  refine va_slen hx hb hX hbl hbA hS dL_cell_2 ?_
  refine lv_icmp_ge (tgt := 12) hx hb dL_cell_3 (by decide) (fun _ => ?_) (fun c1 => ?_)
  · refine lv_ldc hx hb hown (hts2 _ wd_con_RL_7) dL_cell_12 ?_
    refine lv_iload_n hx hb dL_cell_14 rfl (lv_at hl 1 rfl) ?_
    refine lv_bipush (v := 29) hx hb dL_cell_15 (by decide) ?_
    refine lv_iadd hx hb dL_cell_17 ?_
    refine lv_imul hx hb dL_cell_18 ?_
    refine lv_bipush (v := 61) hx hb dL_cell_19 (by decide) ?_
    refine lv_iadd hx hb dL_cell_21 ?_
    exact fin _ ls
  · have hin : vp_in k L := by
      have c1 : ¬ nI L ≤ k := c1
      rw [Int32.le_iff_toInt_le, nI_toInt (by omega)] at c1
      rw [vp_in_iff] at hk ⊢
      omega
    refine lv_aload_n hx hb dL_cell_6 rfl (lv_at hl 0 rfl) ?_
    refine lv_iload_n hx hb dL_cell_7 rfl (lv_at hl 1 rfl) ?_
    refine va_sld hx hb hX hbl hbA hS hin dL_cell_8 ?_
    refine lv_goto (tgt := 22) hx hb dL_cell_9 (by decide) ?_
    exact fin _ ls
