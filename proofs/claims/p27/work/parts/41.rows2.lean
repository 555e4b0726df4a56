section KMET2
variable {l : Launch} {y : MethodName} {rm : Room} {cc : ByteArray} {maxL : Nat} {ret : Option FieldType} {av : List Value} {D : va_G} {tys : List (ClassId × FieldType)} {C : va_W} {sz : Nat} {mc ms : Nat}
theorem k_metd {S : Type} {post : UInt64 → S → Prop} {C' : S → va_W} (hret : ret = some .double) (hy : plainName y.cls = true) (hn : (lg_sl av).length ≤ maxL)
    (body : ∀ (p : Program) (e : Env) (s : State) (m : MethodId) (args : Array Value) (below : List Frame) (meth : Method) (c : Code) (A : Nat → Prop) (ls : Array Slot) (Q : State → Prop) (H : Heap) (locs : List Loc), args = av.toArray →
      (∀ (pc : Nat) (ls : Array Slot) (H : Heap) (locs : List Loc) (v : UInt64) (u : S), decode cc pc = .ok (.dreturn, 1) → post v u → va_P D vwCl (C' u) H → va_D A (C' u) → va_S A s.heap H locs → W p l e rm s m args below meth c H locs mc ms Q (F0 m pc ls [.double v])) →
      p.tables.exec = Jvm.exec → c.code = cc → (∀ w ∈ lwA, w.before args s = true) → s.vm.findClass y.cls = some m.cls → c.maxLocals = maxL → meth.name = y.name → nbW s →
      (∀ q : Nat, s.heap.size ≤ q → A q) → va_S A s.heap H locs → va_P D vwCl C H → va_K D vwCl tys s → va_D A C → lv_has ls maxL (lv_args 0 av) →
      W p l e rm s m args below meth c H locs 0 0 Q (F0 m 0 ls [])) :
    Met l y (wsO y cc maxL ret) rm (va_Pc av (inW D tys C sz)) (va_Qd post (fun u => atW D tys (va_A C sz) (C' u)) (va_A C sz)) mc ms (va_A C sz) := by
  refine k_met (Qc := fun A => va_Qd post (fun u => atW D tys A (C' u)) A) hy hn ?_
  intro p e s m below meth c A ls hx hb hr hts hown hlocks hml hname hN hA hS hP hK hD hl
  refine body p e s m _ below meth c A ls _ _ _ rfl ?_ hx hb hts hown hml hname hN hA hS hP hK hD hl
  intro pc ls H locs v u hdg hpost hP hD hS
  exact W.dret (v := v) hx hb (by rw [hr, hret]) (fun t ht hW => ⟨⟨v, u, rfl, hpost, by rw [ht]; exact hP, va_K.moved hW.alike hK, hD⟩, hS.F ht⟩) hS.2.2 hdg
end KMET2
section KCALL2
variable {p : Program} {l : Launch} {e : Env} {R : Room} {s : State} {m : MethodId} {args : Array Value} {below : List Frame} {meth : Method} {c : Code} {H : Heap} {locs : List Loc} {cells slots : Nat} {Q : State → Prop} {ls : Array Slot} {pc : Nat} {st0 rest : List Value} {cc : ByteArray} {D : va_G} {tys : List (ClassId × FieldType)} {A : Nat → Prop} {X Y C : va_W}
theorem k_behd {S : Type} {post : UInt64 → S → Prop} {C' : S → va_W} {a : Array Value} (hr : va_Run p l e R s m args below meth c H locs cells slots 0 0 (F0 m pc ls st0) rest (va_Qd post (fun u => atW D tys (va_A C H.size) (C' u)) (va_A C H.size) a) (va_A C H.size))
    (hP : va_P D vwCl (X ++ (C ++ Y)) H) (hD : va_D A (X ++ (C ++ Y))) (hS : va_S A s.heap H locs) (hA : ∀ q : Nat, s.heap.size ≤ q → A q)
    (kk : ∀ (r : UInt64) (u : S) (H : Heap) (locs : List Loc), post r u → va_P D vwCl (X ++ (C' u ++ Y)) H → va_D A (X ++ (C' u ++ Y)) → va_S A s.heap H locs → W p l e R s m args below meth c H locs cells slots Q (F0 m (pc + 3) ls (.double r :: rest))) : W p l e R s m args below meth c H locs cells slots Q (F0 m pc ls st0) := by
  have hF := k_freeC hD hS.1 hA
  refine va_calld hr hS (fun q _ h => hF q h) hF (fun r u t H1 locs1 ht hvm hw hB hz1 hk1 hS => ?_)
  obtain ⟨hP1, hK1, hD1⟩ := hB
  rw [ht] at hP1
  obtain ⟨hP, hD⟩ := k_mid hP hD hk1 hF hP1 hD1
  exact kk r u H1 locs1 hw hP hD hS
end KCALL2
/-- the static rows: what set allows -/
def lowF (j : Nat) : Int32 := if j = 0 then 1 else if j = 1 then 2 else if j = 2 then 0 else 1
def highF (j : Nat) : Int32 := if j = 0 then 5 else if j = 1 then 50 else if j = 2 then 1 else 500
def stZ (A : Nat → Prop) (U : State) (H : Heap) : Prop :=
  (∃ t : Nat, va_Z RX4 "LOWEST" "[I" (.ref t) A U H ∧ va_T .int t 4 (fun j => .int (lowF j)) A U H) ∧ (∃ t : Nat, va_Z RX4 "HIGHEST" "[I" (.ref t) A U H ∧ va_T .int t 4 (fun j => .int (highF j)) A U H)
theorem stZ.moved {A : Nat → Prop} {u U : State} {H : Heap} (hvm : u.vm.Alike U.vm) (h : stZ A u H) : stZ A U H := by
  obtain ⟨⟨t, a, b⟩, t2, a2, b2⟩ := h
  exact ⟨⟨t, a.moved hvm, b.moved hvm⟩, t2, a2.moved hvm, b2.moved hvm⟩
theorem stZ.kept {A : Nat → Prop} {U : State} {H H1 : Heap} (h : stZ A U H) (hq : ∀ a : Nat, a < H.size → ¬ A a → H1[a]? = H[a]?) : stZ A U H1 := by
  obtain ⟨⟨t, a, b⟩, t2, a2, b2⟩ := h
  exact ⟨⟨t, a.kept hq, b.kept hq⟩, t2, a2.kept hq, b2.kept hq⟩
theorem stZ.narrow {A B : Nat → Prop} {U : State} {H : Heap} (h : stZ A U H) (hAB : ∀ q, B q → A q) : stZ B U H := by
  obtain ⟨⟨t, a, b⟩, t2, a2, b2⟩ := h
  exact ⟨⟨t, a.narrow hAB, b.narrow hAB⟩, t2, a2.narrow hAB, b2.narrow hAB⟩
/-- a start with the static rows -/
def inZ (D : va_G) (tys : List (ClassId × FieldType)) (ws : va_W) (sz : Nat) (U : State) : Prop := inW D tys ws sz U ∧ stZ (va_A ws sz) U U.heap
theorem in_blindZ {av : List Value} {D : va_G} {tys : List (ClassId × FieldType)} {ws : va_W} {sz : Nat} : FrameBlind (va_Pc av (inZ D tys ws sz)) := fun a U g mk q => by
  obtain ⟨q0, ⟨q1, qP, qK, qD, qN⟩, qZ⟩ := q
  exact ⟨q0, ⟨q1, qP, va_K.moved (u := U) (U := U.calling g mk a) (Vm.Alike.refl U.vm) qK, qD, nbW.same (u := U) (U := U.calling g mk a) rfl qN⟩, stZ.moved (u := U) (U := U.calling g mk a) (Vm.Alike.refl U.vm) qZ⟩
theorem k_preZ {p : Program} {s : State} {H : Heap} {locs : List Loc} {A : Nat → Prop} {D : va_G} {tys : List (ClassId × FieldType)} {X C Y : va_W} (hK : va_K D vwCl tys s) (hP : va_P D vwCl (X ++ (C ++ Y)) H) (hD : va_D A (X ++ (C ++ Y))) (hN : nbW s) (hS : va_S A s.heap H locs) (hA : ∀ q : Nat, s.heap.size ≤ q → A q) (hZ : stZ A s s.heap) {av : List Value} : ∀ U : State, U.heap = H → s.WarmedH U.vm → va_Pc av (inZ D tys C H.size) av.toArray U := fun U hU hW =>
  ⟨rfl, (k_pre hK (pa_l (pa_r hP)) (da_l (da_r hD)) hN (av := av) U hU hW).2, by
    rw [hU]
    exact ((hZ.kept hS.2.1).moved hW.alike).narrow (k_freeC hD hS.1 hA)⟩
section KMET3
variable {l : Launch} {y : MethodName} {rm : Room} {cc : ByteArray} {maxL : Nat} {ret : Option FieldType} {av : List Value} {D : va_G} {tys : List (ClassId × FieldType)} {C : va_W} {sz : Nat} {mc ms : Nat}
theorem k_metZ {S : Type} {post : Int32 → S → Prop} {C' : S → va_W} (ty : FieldType) (hret : ret = some ty) (hy : plainName y.cls = true) (hn : (lg_sl av).length ≤ maxL)
    (body : ∀ (p : Program) (e : Env) (s : State) (m : MethodId) (args : Array Value) (below : List Frame) (meth : Method) (c : Code) (A : Nat → Prop) (ls : Array Slot) (Q : State → Prop) (H : Heap) (locs : List Loc), args = av.toArray → stZ A s s.heap →
      (∀ (pc : Nat) (ls : Array Slot) (H : Heap) (locs : List Loc) (v : Int32) (u : S), decode cc pc = .ok (.ireturn, 1) → narrow ty (.int v) = .int v → post v u → va_P D vwCl (C' u) H → va_D A (C' u) → va_S A s.heap H locs → W p l e rm s m args below meth c H locs mc ms Q (F0 m pc ls [.int v])) →
      p.tables.exec = Jvm.exec → c.code = cc → (∀ w ∈ lwA, w.before args s = true) → s.vm.findClass y.cls = some m.cls → c.maxLocals = maxL → meth.name = y.name → nbW s →
      (∀ q : Nat, s.heap.size ≤ q → A q) → va_S A s.heap H locs → va_P D vwCl C H → va_K D vwCl tys s → va_D A C → lv_has ls maxL (lv_args 0 av) →
      W p l e rm s m args below meth c H locs 0 0 Q (F0 m 0 ls [])) :
    Met l y (wsO y cc maxL ret) rm (va_Pc av (inZ D tys C sz)) (va_Qi post (fun u => atW D tys (va_A C sz) (C' u)) (va_A C sz)) mc ms (va_A C sz) := by
  refine Met.ofW (cc := cc) (maxL := maxL) (ret := ret) hy rfl ?_
  intro p e s m args below meth c s₁ B hml hv
  obtain ⟨rfl, ⟨hsz, hP, hK, hD0, hN⟩, hZ⟩ := hv
  have hts := atoms_spec (ws := wsO y cc maxL ret) B.pre
  have hl := lv_entry av (n := maxL) hn
  rw [lg_entry_eq]
  subst hsz
  refine body p e s m _ below meth c _ _ _ _ _ rfl hZ ?_ B.exec B.bytes (fun w h => hts w (List.mem_cons_of_mem _ h)) (findClass_of_methodNamed B.named) hml (name_of_methodNamed B.named B.method).1 hN (fun q h => Or.inr h) va_S.rf hP hK hD0.self hl
  intro pc ls H locs v u hdg hnar hpost hP hD hS
  have hlocks := B.notSynchronized
  exact W.zret (v := v) B.exec B.bytes (by rw [B.returns, hret]) hnar (fun t ht hW => ⟨⟨v, u, rfl, hpost, by rw [ht]; exact hP, va_K.moved hW.alike hK, hD⟩, hS.F ht⟩) hS.2.2 hdg
end KMET3
