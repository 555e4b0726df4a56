section KR0
variable {D : va_G} {cl : List vw_C} {H H0 H1 : Heap} {A A0 : Nat → Prop} {X Y C C1 : va_W}
theorem kg_l {i : Nat} {q : Nat × va_E} (h : X[i]? = some q) : (X ++ Y)[i]? = some q := by
  rw [List.getElem?_append_left (List.getElem?_eq_some_iff.mp h).1]; exact h
theorem kg_r {i : Nat} {q : Nat × va_E} (h : Y[i]? = some q) : (X ++ Y)[X.length + i]? = some q := by
  rw [List.getElem?_append_right (Nat.le_add_right _ _), Nat.add_sub_cancel_left]; exact h
theorem kg_lt {i : Nat} {q : Nat × va_E} (h : X[i]? = some q) : i < X.length := (List.getElem?_eq_some_iff.mp h).1
theorem pa_l (h : va_P D cl (X ++ Y) H) : va_P D cl X H := fun k q hk => h k q (kg_l hk)
theorem pa_r (h : va_P D cl (X ++ Y) H) : va_P D cl Y H := fun k q hk => h (X.length + k) q (kg_r hk)
theorem da_l (h : va_D A (X ++ Y)) : va_D A X := ⟨fun i j p q hi hj e => h.1 i j p q (kg_l hi) (kg_l hj) e, fun k q hk => h.2 k q (kg_l hk)⟩
theorem da_r (h : va_D A (X ++ Y)) : va_D A Y := ⟨fun i j p q hi hj e => by
  have := h.1 _ _ p q (kg_r (X := X) hi) (kg_r (X := X) hj) e
  omega, fun k q hk => h.2 _ q (kg_r hk)⟩
theorem da_x (h : va_D A (X ++ Y)) {i j : Nat} {p q : Nat × va_E} (hi : X[i]? = some p) (hj : Y[j]? = some q) : p.1 ≠ q.1 := fun e => by
  have h1 := h.1 _ _ p q (kg_l hi) (kg_r (X := X) hj) e
  have h2 := kg_lt hi
  omega
/-- behind a call: what lies before and behind the callee's cells stays -/
theorem k_mid (hP : va_P D cl (X ++ (C ++ Y)) H) (hD : va_D A0 (X ++ (C ++ Y))) (hk : ∀ q : Nat, q < H.size → ¬ va_A C H.size q → H1[q]? = H[q]?) (hF : ∀ q, va_A C H.size q → A0 q) (hP1 : va_P D cl C1 H1) (hD1 : va_D (va_A C H.size) C1) : va_P D cl (X ++ (C1 ++ Y)) H1 ∧ va_D A0 (X ++ (C1 ++ Y)) := by
  have aX : ∀ (k : Nat) (q : Nat × va_E), X[k]? = some q → q.1 < H.size ∧ ¬ va_A C H.size q.1 := fun k q hq => by
    have hl := (pa_l hP k q hq).lt
    refine ⟨hl, fun h => ?_⟩
    rcases h with ⟨k2, e, h⟩ | h
    · exact da_x hD hq (kg_l h) rfl
    · omega
  have aY : ∀ (k : Nat) (q : Nat × va_E), Y[k]? = some q → q.1 < H.size ∧ ¬ va_A C H.size q.1 := fun k q hq => by
    have hl := (pa_r (pa_r hP) k q hq).lt
    refine ⟨hl, fun h => ?_⟩
    rcases h with ⟨k2, e, h⟩ | h
    · exact da_x (da_r hD) h hq rfl
    · omega
  have dC1 : va_D A0 C1 := hD1.weaken (fun k q _ h => hF q.1 h)
  refine ⟨va_P.app (fun k q hq => ?_) (va_P.app hP1 (fun k q hq => ?_)), va_D.app (da_l hD) (va_D.app dC1 (da_r (da_r hD)) (fun i j p q hp hq e => ?_)) (fun i j p q hp hq e => ?_)⟩
  · exact (pa_l hP k q hq).kept (hk q.1 (aX k q hq).1 (aX k q hq).2)
  · exact (pa_r (pa_r hP) k q hq).kept (hk q.1 (aY k q hq).1 (aY k q hq).2)
  · exact (aY j q hq).2 (by rw [← e]; exact hD1.2 i p hp)
  · rcases Nat.lt_or_ge j C1.length with hj | hj
    · rw [List.getElem?_append_left hj] at hq
      exact (aX i p hp).2 (by rw [e]; exact hD1.2 j q hq)
    · rw [List.getElem?_append_right hj] at hq
      exact da_x hD hp (kg_r (X := C) hq) e
theorem k_self (h : va_P D cl C H) : va_P D cl ([] ++ (C ++ [])) H := by rw [List.append_nil]; exact h
theorem k_selfD (h : va_D A C) : va_D A ([] ++ (C ++ [])) := by rw [List.append_nil]; exact h
theorem k_unP (h : va_P D cl ([] ++ (C ++ [])) H) : va_P D cl C H := by rw [List.append_nil] at h; exact h
theorem k_unD (h : va_D A ([] ++ (C ++ []))) : va_D A C := by rw [List.append_nil] at h; exact h
theorem k_freeC (hD : va_D A0 (X ++ (C ++ Y))) (hz : H0.size ≤ H.size) (hA : ∀ q, H0.size ≤ q → A0 q) : ∀ q, va_A C H.size q → A0 q := fun q h => by
  rcases h with ⟨k, e, h⟩ | h
  · exact (da_l (da_r hD)).2 k (q, e) h
  · exact hA q (Nat.le_trans hz h)
end KR0
/-- what the links to nest mates' private members and the array class over Machine say: kept by calls -/
def nbW (U : State) : Prop := (∀ w ∈ lwN, va_Nw w U) ∧ va_AO RX1 U
theorem lwN_form : ∀ w ∈ lwN, ∃ a i x h, w = Cond.methodLinkNest a i x h := by
  intro w hw
  simp only [lwN, List.mem_cons, List.not_mem_nil, or_false] at hw
  rcases hw with rfl | rfl | rfl | rfl | rfl | rfl | rfl | rfl <;> exact ⟨_, _, _, _, rfl⟩
theorem nbW.warm {s U : State} (hW : s.WarmedH U.vm) (h : nbW s) : nbW U := ⟨fun w hw => by
  obtain ⟨a, i, x, y, rfl⟩ := lwN_form w hw
  exact va_Nw.warmM hW (h.1 _ hw), h.2.moved hW.alike⟩
theorem nbW.same {u U : State} (hv : u.vm = U.vm) (h : nbW u) : nbW U := ⟨fun w hw => by
  obtain ⟨a, i, x, y, rfl⟩ := lwN_form w hw
  exact va_Nw.same rfl hv (h.1 _ hw), h.2.moved (by rw [hv]; exact Vm.Alike.refl U.vm)⟩
/-- a method's start: its cells, apart, at a heap of sz cells -/
def inW (D : va_G) (tys : List (ClassId × FieldType)) (ws : va_W) (sz : Nat) (U : State) : Prop := U.heap.size = sz ∧ va_P D vwCl ws U.heap ∧ va_K D vwCl tys U ∧ va_D (fun _ => True) ws ∧ nbW U
/-- its end -/
def atW (D : va_G) (tys : List (ClassId × FieldType)) (A : Nat → Prop) (ws : va_W) (t : State) : Prop := va_P D vwCl ws t.heap ∧ va_K D vwCl tys t ∧ va_D A ws
abbrev TYS (cI cC cQ : ClassId) : List (ClassId × FieldType) := [(cI, .int), (cC, .char), (cQ, .object RX1)]
theorem in_blind {av : List Value} {D : va_G} {tys : List (ClassId × FieldType)} {ws : va_W} {sz : Nat} : FrameBlind (va_Pc av (inW D tys ws sz)) := fun a U g mk q => by
  obtain ⟨q0, q1, qP, qK, qD, qN⟩ := q
  exact ⟨q0, q1, qP, va_K.moved (u := U) (U := U.calling g mk a) (Vm.Alike.refl U.vm) qK, qD, nbW.same (u := U) (U := U.calling g mk a) rfl qN⟩
/-- the words of a method: its own code, and all that stand -/
abbrev wsO (y : MethodName) (cc : ByteArray) (n : Nat) (ret : Option FieldType) : List Cond := .code y cc n ret :: lwA
section KMET
variable {l : Launch} {y : MethodName} {rm : Room} {cc : ByteArray} {maxL : Nat} {ret : Option FieldType} {av : List Value} {D : va_G} {tys : List (ClassId × FieldType)} {C : va_W} {sz : Nat} {mc ms : Nat}
theorem k_met {Qc : (Nat → Prop) → Array Value → State → Outcome → State → Prop} (hy : plainName y.cls = true) (hn : (lg_sl av).length ≤ maxL)
    (body : ∀ (p : Program) (e : Env) (s : State) (m : MethodId) (below : List Frame) (meth : Method) (c : Code) (A : Nat → Prop) (ls : Array Slot),
      p.tables.exec = Jvm.exec → c.code = cc → meth.sig.returnType = ret → (∀ w ∈ lwA, w.before av.toArray s = true) → s.vm.findClass y.cls = some m.cls → meth.locks = false → c.maxLocals = maxL → meth.name = y.name → nbW s →
      (∀ q : Nat, s.heap.size ≤ q → A q) → va_S A s.heap s.heap [] → va_P D vwCl C s.heap → va_K D vwCl tys s → va_D A C → lv_has ls maxL (lv_args 0 av) →
      W p l e rm s m av.toArray below meth c s.heap [] 0 0 (MQ below (Qc A) av.toArray s mc ms A) (F0 m 0 ls [])) :
    Met l y (wsO y cc maxL ret) rm (va_Pc av (inW D tys C sz)) (Qc (va_A C sz)) mc ms (va_A C sz) := by
  refine Met.ofW (cc := cc) (maxL := maxL) (ret := ret) hy rfl ?_
  intro p e s m args below meth c s₁ B hml hv
  obtain ⟨rfl, hsz, hP, hK, hD0, hN⟩ := hv
  have hts := atoms_spec (ws := wsO y cc maxL ret) B.pre
  have hl := lv_entry av (n := maxL) hn
  rw [lg_entry_eq]
  subst hsz
  exact body p e s m below meth c _ _ B.exec B.bytes B.returns (fun w h => hts w (List.mem_cons_of_mem _ h)) (findClass_of_methodNamed B.named) B.notSynchronized hml (name_of_methodNamed B.named B.method).1 hN (fun q h => Or.inr h) va_S.rf hP hK hD0.self hl
/-- a method that answers an int (or a boolean, a char): its start, and its end as one hypothesis -/
theorem k_meti {S : Type} {post : Int32 → S → Prop} {C' : S → va_W} (ty : FieldType) (hret : ret = some ty) (hy : plainName y.cls = true) (hn : (lg_sl av).length ≤ maxL)
    (body : ∀ (p : Program) (e : Env) (s : State) (m : MethodId) (args : Array Value) (below : List Frame) (meth : Method) (c : Code) (A : Nat → Prop) (ls : Array Slot) (Q : State → Prop) (H : Heap) (locs : List Loc), args = av.toArray →
      (∀ (pc : Nat) (ls : Array Slot) (H : Heap) (locs : List Loc) (v : Int32) (u : S), decode cc pc = .ok (.ireturn, 1) → narrow ty (.int v) = .int v → post v u → va_P D vwCl (C' u) H → va_D A (C' u) → va_S A s.heap H locs → W p l e rm s m args below meth c H locs mc ms Q (F0 m pc ls [.int v])) →
      p.tables.exec = Jvm.exec → c.code = cc → (∀ w ∈ lwA, w.before args s = true) → s.vm.findClass y.cls = some m.cls → c.maxLocals = maxL → meth.name = y.name → nbW s →
      (∀ q : Nat, s.heap.size ≤ q → A q) → va_S A s.heap H locs → va_P D vwCl C H → va_K D vwCl tys s → va_D A C → lv_has ls maxL (lv_args 0 av) →
      W p l e rm s m args below meth c H locs 0 0 Q (F0 m 0 ls [])) :
    Met l y (wsO y cc maxL ret) rm (va_Pc av (inW D tys C sz)) (va_Qi post (fun u => atW D tys (va_A C sz) (C' u)) (va_A C sz)) mc ms (va_A C sz) := by
  refine k_met (Qc := fun A => va_Qi post (fun u => atW D tys A (C' u)) A) hy hn ?_
  intro p e s m below meth c A ls hx hb hr hts hown hlocks hml hname hN hA hS hP hK hD hl
  refine body p e s m _ below meth c A ls _ _ _ rfl ?_ hx hb hts hown hml hname hN hA hS hP hK hD hl
  intro pc ls H locs v u hdg hnar hpost hP hD hS
  exact W.zret (v := v) hx hb (by rw [hr, hret]) hnar (fun t ht hW => ⟨⟨v, u, rfl, hpost, by rw [ht]; exact hP, va_K.moved hW.alike hK, hD⟩, hS.F ht⟩) hS.2.2 hdg
theorem k_metv {S : Type} {post : S → Prop} {C' : S → va_W} (hret : ret = none) (hy : plainName y.cls = true) (hn : (lg_sl av).length ≤ maxL)
    (body : ∀ (p : Program) (e : Env) (s : State) (m : MethodId) (args : Array Value) (below : List Frame) (meth : Method) (c : Code) (A : Nat → Prop) (ls : Array Slot) (Q : State → Prop) (H : Heap) (locs : List Loc), args = av.toArray →
      (∀ (pc : Nat) (ls : Array Slot) (H : Heap) (locs : List Loc) (u : S), decode cc pc = .ok (.return_, 1) → post u → va_P D vwCl (C' u) H → va_D A (C' u) → va_S A s.heap H locs → W p l e rm s m args below meth c H locs mc ms Q (F0 m pc ls [])) →
      p.tables.exec = Jvm.exec → c.code = cc → (∀ w ∈ lwA, w.before args s = true) → s.vm.findClass y.cls = some m.cls → c.maxLocals = maxL → meth.name = y.name → nbW s →
      (∀ q : Nat, s.heap.size ≤ q → A q) → va_S A s.heap H locs → va_P D vwCl C H → va_K D vwCl tys s → va_D A C → lv_has ls maxL (lv_args 0 av) →
      W p l e rm s m args below meth c H locs 0 0 Q (F0 m 0 ls [])) :
    Met l y (wsO y cc maxL ret) rm (va_Pc av (inW D tys C sz)) (va_Qv post (fun u => atW D tys (va_A C sz) (C' u)) (va_A C sz)) mc ms (va_A C sz) := by
  refine k_met (Qc := fun A => va_Qv post (fun u => atW D tys A (C' u)) A) hy hn ?_
  intro p e s m below meth c A ls hx hb hr hts hown hlocks hml hname hN hA hS hP hK hD hl
  refine body p e s m _ below meth c A ls _ _ _ rfl ?_ hx hb hts hown hml hname hN hA hS hP hK hD hl
  intro pc ls H locs u hdg hpost hP hD hS
  exact W.vret hx hb (by rw [hr, hret]) (fun t ht hW => ⟨⟨u, rfl, hpost, by rw [ht]; exact hP, va_K.moved hW.alike hK, hD⟩, hS.F ht⟩) hS.2.2 hdg
end KMET
section KCW
variable {R : Room} {s : State} {args : Array Value} {own Cn host : String} {index : Nat} {y : MethodName} {bytes : ByteArray} {maxL mc ms : Nat} {ret : Option FieldType} {rm : Room}
abbrev hdT (y : MethodName) (n : Nat) : Prop := y.cls ≠ "java/lang/invoke/MethodHandle" ∧ y.cls ≠ "java/lang/invoke/VarHandle" ∧ (parseMethodDescriptor y.desc).map (fun d => d.parameters.length) = some n
theorem gA_ws {pre : List Cond} {w : Cond} (hp : ∀ x ∈ pre, x ∈ lwA) (h : w ∈ lwA) : GoodIn lwA (pre ++ (w :: lwA)) := fun x hx => by
  rcases List.mem_append.mp hx with h1 | h1
  · exact ⟨hp x h1, good_of_word (lwA_good x (hp x h1))⟩
  · exact gA h x h1
theorem kcwV {n : Nat} (hts : ∀ w ∈ lwA, w.before args s = true) (h1 : Cond.methodLink own index y ∈ lwA) (h2 : Cond.instanceMethod y ∈ lwA) (h3 : Cond.selects Cn y y ∈ lwA) (h4 : Cond.initialized Cn ∈ lwA) (h5 : Cond.code y bytes maxL ret ∈ lwA) (hrc : rm.cells = mc) (hrs : rm.slots = ms) (hc : y.cls = Cn) (hd : hdT y n) (hR : rm.frames + 1 ≤ R.frames ∧ 8 + (maxL + 11) + rm.locals ≤ R.locals) : CallW R s args own Cn index y bytes maxL ret (wsO y bytes maxL ret) rm mc ms n :=
  cwV n hts (gA_ws (fun x hx => by
    simp only [List.mem_cons, List.not_mem_nil, or_false] at hx
    rcases hx with rfl | rfl | rfl | rfl <;> assumption) h5) rfl hrc hrs ⟨hc, hd⟩ hR
theorem kcwS {n : Nat} (hts : ∀ w ∈ lwA, w.before args s = true) (h1 : Cond.methodLink own index y ∈ lwA) (h2 : Cond.static y ∈ lwA) (h4 : Cond.initialized y.cls ∈ lwA) (h5 : Cond.code y bytes maxL ret ∈ lwA) (hrc : rm.cells = mc) (hrs : rm.slots = ms) (hd : hdT y n) (hR : rm.frames + 1 ≤ R.frames ∧ 8 + (maxL + 11) + rm.locals ≤ R.locals) : CallB R s args own index y bytes maxL ret (wsO y bytes maxL ret) rm mc ms n ∧ (Cond.static y).before args s = true :=
  va_cwS n hts (gA_ws (fun x hx => by
    simp only [List.mem_cons, List.not_mem_nil, or_false] at hx
    rcases hx with rfl | rfl | rfl <;> assumption) h5) rfl hrc hrs hd hR
theorem kcwI {n : Nat} (hts : ∀ w ∈ lwA, w.before args s = true) (h1 : Cond.methodLink own index y ∈ lwA) (h2 : Cond.instanceMethod y ∈ lwA) (h4 : Cond.initialized y.cls ∈ lwA) (h5 : Cond.code y bytes maxL none ∈ lwA) (hrc : rm.cells = mc) (hrs : rm.slots = ms) (hy : y.name = "<init>") (hd : hdT y n) (hR : rm.frames + 1 ≤ R.frames ∧ 8 + (maxL + 11) + rm.locals ≤ R.locals) : CallB R s args own index y bytes maxL none (wsO y bytes maxL none) rm mc ms n ∧ y.name = "<init>" ∧ (Cond.instanceMethod y).before args s = true :=
  cwI n hts (gA h5) rfl hrc hrs (hts _ h4) (hts _ h1) (hts _ h2) hy hd hR
theorem kcnB {n : Nat} (hts : ∀ w ∈ lwA, w.before args s = true) (hN : nbW s) (h1 : Cond.methodLinkNest own index y host ∈ lwN) (h4 : Cond.initialized y.cls ∈ lwA) (h5 : Cond.code y bytes maxL ret ∈ lwA) (hrc : rm.cells = mc) (hrs : rm.slots = ms) (hd : hdT y n) (hR : rm.frames + 1 ≤ R.frames ∧ 8 + (maxL + 11) + rm.locals ≤ R.locals) : va_CN R s args own index y host bytes maxL ret (wsO y bytes maxL ret) rm mc ms n :=
  va_cnB n hts (gA h5) rfl hrc hrs (hN.1 _ h1) (hts _ h4) hd hR
end KCW
section KCALL
variable {p : Program} {l : Launch} {e : Env} {R : Room} {s : State} {m : MethodId} {args : Array Value} {below : List Frame} {meth : Method} {c : Code} {H : Heap} {locs : List Loc} {cells slots : Nat} {Q : State → Prop} {ls : Array Slot} {pc : Nat} {st0 rest : List Value} {cc : ByteArray} {D : va_G} {tys : List (ClassId × FieldType)} {A : Nat → Prop} {X Y C : va_W}
variable {y : MethodName} {bytes : ByteArray} {maxL nL n index : Nat} {ret : Option FieldType} {rm : Room} {own Cn host : String} {b : Addr} {As : List Value}
theorem k_pre (hK : va_K D vwCl tys s) (hP : va_P D vwCl C H) (hD : va_D A C) (hN : nbW s) {av : List Value} : ∀ U : State, U.heap = H → s.WarmedH U.vm → va_Pc av (inW D tys C H.size) av.toArray U := fun U hU hW => ⟨rfl, by rw [hU], by rw [hU]; exact hP, va_K.moved hW.alike hK, hD.weaken (fun _ _ _ _ => trivial), hN.warm hW⟩
/-- behind a call of an int method -/
theorem k_behi {S : Type} {post : Int32 → S → Prop} {C' : S → va_W} {a : Array Value} (hr : va_Run p l e R s m args below meth c H locs cells slots 0 0 (F0 m pc ls st0) rest (va_Qi post (fun u => atW D tys (va_A C H.size) (C' u)) (va_A C H.size) a) (va_A C H.size))
    (hP : va_P D vwCl (X ++ (C ++ Y)) H) (hD : va_D A (X ++ (C ++ Y))) (hS : va_S A s.heap H locs) (hA : ∀ q : Nat, s.heap.size ≤ q → A q)
    (kk : ∀ (r : Int32) (u : S) (H : Heap) (locs : List Loc), post r u → va_P D vwCl (X ++ (C' u ++ Y)) H → va_D A (X ++ (C' u ++ Y)) → va_S A s.heap H locs → W p l e R s m args below meth c H locs cells slots Q (F0 m (pc + 3) ls (.int r :: rest))) : W p l e R s m args below meth c H locs cells slots Q (F0 m pc ls st0) := by
  have hF := k_freeC hD hS.1 hA
  refine va_calli hr hS (fun q _ h => hF q h) hF (fun r u t H1 locs1 ht hvm hw hB hz1 hk1 hS => ?_)
  obtain ⟨hP1, hK1, hD1⟩ := hB
  rw [ht] at hP1
  obtain ⟨hP, hD⟩ := k_mid hP hD hk1 hF hP1 hD1
  exact kk r u H1 locs1 hw hP hD hS
theorem k_behv {S : Type} {post : S → Prop} {C' : S → va_W} {a : Array Value} (hr : va_Run p l e R s m args below meth c H locs cells slots 0 0 (F0 m pc ls st0) rest (va_Qv post (fun u => atW D tys (va_A C H.size) (C' u)) (va_A C H.size) a) (va_A C H.size))
    (hP : va_P D vwCl (X ++ (C ++ Y)) H) (hD : va_D A (X ++ (C ++ Y))) (hS : va_S A s.heap H locs) (hA : ∀ q : Nat, s.heap.size ≤ q → A q)
    (kk : ∀ (u : S) (H : Heap) (locs : List Loc), post u → va_P D vwCl (X ++ (C' u ++ Y)) H → va_D A (X ++ (C' u ++ Y)) → va_S A s.heap H locs → W p l e R s m args below meth c H locs cells slots Q (F0 m (pc + 3) ls rest)) : W p l e R s m args below meth c H locs cells slots Q (F0 m pc ls st0) := by
  have hF := k_freeC hD hS.1 hA
  refine va_callv hr hS (fun q _ h => hF q h) hF (fun u t H1 locs1 ht hvm hw hB hz1 hk1 hS => ?_)
  obtain ⟨hP1, hK1, hD1⟩ := hB
  rw [ht] at hP1
  obtain ⟨hP, hD⟩ := k_mid hP hD hk1 hF hP1 hD1
  exact kk u H1 locs1 hw hP hD hS
end KCALL
