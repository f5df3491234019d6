/-! ===== base: what every contract here is said in ===== -/
/-- a truth as an int -/
def bI (b : Bool) : Int32 := if b then 1 else 0
theorem bI_nar (b : Bool) : narrow .boolean (.int (bI b)) = .int (bI b) := by cases b <;> rfl
/-- the array types, one class id each -/
abbrev tyA (cI cJ cZ : ClassId) : List (ClassId × FieldType) := [(cI, .int), (cJ, .long), (cZ, .boolean)]
section Base
variable {p : Program} {l : Launch} {e : Env} {R : Room} {s : State} {m : MethodId} {args : Array Value} {below : List Frame} {meth : Method} {c : Code} {H : Heap} {locs : List Loc} {cells slots : Nat} {Q : State → Prop}
/-- a state that holds the world ws -/
def wB (D : va_G) (tys : List (ClassId × FieldType)) (ws : va_W) : State → Prop := fun U => va_P D vwCl ws U.heap ∧ va_K D vwCl tys U
theorem wB_blind {D : va_G} {tys : List (ClassId × FieldType)} {ws : va_W} {av : List Value} : FrameBlind (va_Pc av (wB D tys ws)) :=
  fun a U g mk h => ⟨h.1, h.2.1, va_K.moved (u := U) (U := U.calling g mk a) (Vm.Alike.refl U.vm) h.2.2⟩
theorem wB_at {D : va_G} {tys : List (ClassId × FieldType)} {ws : va_W} (hP : va_P D vwCl ws H) (hK : va_K D vwCl tys s) : ∀ U : State, U.heap = H → s.WarmedH U.vm → wB D tys ws U :=
  fun U hU hW => ⟨by rw [hU]; exact hP, va_K.moved hW.alike hK⟩
/-- no condition on the state -/
def wT : State → Prop := fun _ => True
theorem wT_blind {av : List Value} : FrameBlind (va_Pc av wT) := fun _ _ _ _ h => ⟨h.1, trivial⟩
/-- a method that changes nothing, and answers r -/
def Pm (l : Launch) (y : MethodName) (cc : ByteArray) (maxL : Nat) (ret : Option FieldType) (f n : Nat) (av : List Value) (B : State → Prop) (r : Value) : Prop :=
  Met l y (Cond.code y cc maxL ret :: W0) (k2_rm f n) (va_Pc av B) (k2_QcV r) 0 0 (fun _ => False)
theorem cb_of {y : MethodName} {bytes : ByteArray} {maxL f n k index : Nat} {ret : Option FieldType} {own : String} (hts : ∀ w ∈ W0, w.before args s = true) (hk : Cond.code y bytes maxL ret ∈ W0) (ho : Cond.initialized y.cls ∈ W0) (hl : Cond.methodLink own index y ∈ W0)
    (hd : y.cls ≠ "java/lang/invoke/MethodHandle" ∧ y.cls ≠ "java/lang/invoke/VarHandle" ∧ (parseMethodDescriptor y.desc).map (fun d => d.parameters.length) = some k) (hRf : f + 1 ≤ R.frames) (hRl : 8 + (maxL + 11) + n ≤ R.locals) :
    CallB R s args own index y bytes maxL ret (Cond.code y bytes maxL ret :: W0) (k2_rm f n) 0 0 k :=
  callB_of k hts (W0_cons hk) rfl rfl rfl (hts _ ho) (hts _ hl) hd ⟨hRf, hRl⟩
/-- a call of such a method, on an object -/
theorem pc_V {y : MethodName} {bytes cc : ByteArray} {maxL nL f n index pc : Nat} {ret : Option FieldType} {own : String} {b : Addr} {As rest st0 : List Value} {r : Value} {ls : Array Slot} {B : State → Prop}
    (S : CallFix p m c cc nL s args W0 own) (hM : Pm l y bytes maxL ret f n (.ref b :: As) B r) (hbl : FrameBlind (va_Pc (.ref b :: As) B))
    (hk : Cond.code y bytes maxL ret ∈ W0) (hi : Cond.instanceMethod y ∈ W0) (he : Cond.selects y.cls y y ∈ W0) (ho : Cond.initialized y.cls ∈ W0) (hl : Cond.methodLink own index y ∈ W0)
    (hd : y.cls ≠ "java/lang/invoke/MethodHandle" ∧ y.cls ≠ "java/lang/invoke/VarHandle" ∧ (parseMethodDescriptor y.desc).map (fun d => d.parameters.length) = some As.length)
    (hRf : f + 1 ≤ R.frames) (hRl : 8 + (maxL + 11) + n ≤ R.locals) (hRc : cells ≤ R.cells ∧ slots ≤ R.slots)
    (recv : ∃ cellB : Cell, H[b]? = some cellB ∧ cellB.vm.isStatics = false ∧ s.vm.findClass y.cls = some cellB.cls) (hB : ∀ U : State, U.heap = H → s.WarmedH U.vm → B U)
    (hsize : ls.size = nL) (hst : st0 = As.reverse ++ .ref b :: rest) (hW : (rest.map fun v => v.category).sum ≤ 8) (hdg : decode cc pc = .ok (.invokevirtual index, 3))
    (kk : W p l e R s m args below meth c H locs cells slots Q (F0 m (pc + 3) ls (r :: rest))) : W p l e R s m args below meth c H locs cells slots Q (F0 m pc ls st0) := by
  subst hst
  have hts := S.2.2.2.2
  exact W.callV (a := (Value.ref b :: As).toArray) (W.runV S hM ⟨cb_of hts hk ho hl hd hRf hRl, hts _ hi, hts _ he⟩ ⟨hbl, recv, fun U hU hW => ⟨rfl, hB U hU hW⟩⟩ rfl rfl hsize rfl (lv_room hW) hdg hRc) kk
/-- .. and of a static one -/
theorem pc_S {y : MethodName} {bytes cc : ByteArray} {maxL nL f n index pc : Nat} {ret : Option FieldType} {own : String} {As rest st0 : List Value} {r : Value} {ls : Array Slot} {B : State → Prop}
    (S : CallFix p m c cc nL s args W0 own) (hM : Pm l y bytes maxL ret f n As B r) (hbl : FrameBlind (va_Pc As B))
    (hk : Cond.code y bytes maxL ret ∈ W0) (hi : Cond.static y ∈ W0) (ho : Cond.initialized y.cls ∈ W0) (hl : Cond.methodLink own index y ∈ W0)
    (hd : y.cls ≠ "java/lang/invoke/MethodHandle" ∧ y.cls ≠ "java/lang/invoke/VarHandle" ∧ (parseMethodDescriptor y.desc).map (fun d => d.parameters.length) = some As.length)
    (hRf : f + 1 ≤ R.frames) (hRl : 8 + (maxL + 11) + n ≤ R.locals) (hRc : cells ≤ R.cells ∧ slots ≤ R.slots)
    (hB : ∀ U : State, U.heap = H → s.WarmedH U.vm → B U)
    (hsize : ls.size = nL) (hst : st0 = As.reverse ++ rest) (hW : (rest.map fun v => v.category).sum ≤ 8) (hdg : decode cc pc = .ok (.invokestatic index, 3))
    (kk : W p l e R s m args below meth c H locs cells slots Q (F0 m (pc + 3) ls (r :: rest))) : W p l e R s m args below meth c H locs cells slots Q (F0 m pc ls st0) := by
  subst hst
  have hts := S.2.2.2.2
  exact W.callV (a := As.toArray) (W.runS S hM ⟨cb_of hts hk ho hl hd hRf hRl, hts _ hi⟩ ⟨hbl, fun U hU hW => ⟨rfl, hB U hU hW⟩⟩ rfl rfl hsize rfl (lv_room hW) hdg hRc) kk
end Base
/-- the contract of a method that changes nothing and answers an int, out of its body's walk -/
theorem pm_i {l : Launch} {y : MethodName} {cc : ByteArray} {maxL f n : Nat} {ty : FieldType} {av : List Value} {B : State → Prop} {r : Int32} (hy : plainName y.cls = true) (hr : narrow ty (.int r) = .int r) (ha : (lg_sl av).length ≤ maxL)
    (body : ∀ (p : Program) (e : Env) (s : State) (m : MethodId) (below : List Frame) (meth : Method) (c : Code) (ls : Array Slot) (Q : State → Prop), CallFix p m c cc maxL s av.toArray W0 y.cls → B s → lv_has ls maxL (lv_args 0 av) →
      (∀ (v : Int32) (ls : Array Slot) (pc : Nat), decode cc pc = .ok (.ireturn, 1) → v = r → W p l e (k2_rm f n) s m av.toArray below meth c s.heap [] 0 0 Q (F0 m pc ls [.int v])) →
      W p l e (k2_rm f n) s m av.toArray below meth c s.heap [] 0 0 Q (F0 m 0 ls [])) : Pm l y cc maxL (some ty) f n av B (.int r) := by
  refine Met.ofW (cc := cc) (maxL := maxL) (ret := some ty) hy rfl ?_
  intro p e s m args below meth c s₁ B0 hml hv
  obtain ⟨rfl, hB⟩ := hv
  have hts : ∀ w ∈ W0, w.before av.toArray s = true := fun w h => atoms_spec (ws := Cond.code y cc maxL (some ty) :: W0) B0.pre w (List.mem_cons_of_mem _ h)
  have hown : s.vm.findClass y.cls = some m.cls := findClass_of_methodNamed B0.named
  have hl := lv_entry av (n := maxL) ha
  rw [lg_entry_eq]
  generalize (lg_sl av ++ List.replicate (maxL - (lg_sl av).length) Slot.unset).toArray = ls at hl ⊢
  refine body p e s m below meth c ls _ ⟨B0.exec, B0.bytes, hml, hown, hts⟩ hB hl ?_
  intro v ls pc hd hv
  subst hv
  exact W.zret B0.exec B0.bytes B0.returns hr (fun t ht _ => ⟨rfl, ht⟩) (fun q h => by cases h) hd B0.notSynchronized
theorem pm_l {l : Launch} {y : MethodName} {cc : ByteArray} {maxL f n : Nat} {av : List Value} {B : State → Prop} {r : Int64} (hy : plainName y.cls = true) (ha : (lg_sl av).length ≤ maxL)
    (body : ∀ (p : Program) (e : Env) (s : State) (m : MethodId) (below : List Frame) (meth : Method) (c : Code) (ls : Array Slot) (Q : State → Prop), CallFix p m c cc maxL s av.toArray W0 y.cls → B s → lv_has ls maxL (lv_args 0 av) →
      (∀ (v : Int64) (ls : Array Slot) (pc : Nat), decode cc pc = .ok (.lreturn, 1) → v = r → W p l e (k2_rm f n) s m av.toArray below meth c s.heap [] 0 0 Q (F0 m pc ls [.long v])) →
      W p l e (k2_rm f n) s m av.toArray below meth c s.heap [] 0 0 Q (F0 m 0 ls [])) : Pm l y cc maxL (some .long) f n av B (.long r) := by
  refine Met.ofW (cc := cc) (maxL := maxL) (ret := some .long) hy rfl ?_
  intro p e s m args below meth c s₁ B0 hml hv
  obtain ⟨rfl, hB⟩ := hv
  have hts : ∀ w ∈ W0, w.before av.toArray s = true := fun w h => atoms_spec (ws := Cond.code y cc maxL (some .long) :: W0) B0.pre w (List.mem_cons_of_mem _ h)
  have hown : s.vm.findClass y.cls = some m.cls := findClass_of_methodNamed B0.named
  have hl := lv_entry av (n := maxL) ha
  rw [lg_entry_eq]
  generalize (lg_sl av ++ List.replicate (maxL - (lg_sl av).length) Slot.unset).toArray = ls at hl ⊢
  refine body p e s m below meth c ls _ ⟨B0.exec, B0.bytes, hml, hown, hts⟩ hB hl ?_
  intro v ls pc hd hv
  subst hv
  exact W.lret B0.exec B0.bytes B0.returns (fun t ht _ => ⟨rfl, ht⟩) (fun q h => by cases h) hd B0.notSynchronized
/-! ===== methods that change their world ===== -/
section Writes
variable {p : Program} {l : Launch} {e : Env} {R : Room} {s : State} {m : MethodId} {args : Array Value} {below : List Frame} {meth : Method} {c : Code} {H : Heap} {locs : List Loc} {cells slots : Nat} {Q : State → Prop}
/-- a state that holds the world ws, of so many cells -/
def wC (D : va_G) (tys : List (ClassId × FieldType)) (ws : va_W) (sz : Nat) : State → Prop := fun U => U.heap.size = sz ∧ va_P D vwCl ws U.heap ∧ va_K D vwCl tys U ∧ va_D (fun _ => True) ws
theorem wC_blind {D : va_G} {tys : List (ClassId × FieldType)} {ws : va_W} {sz : Nat} {av : List Value} : FrameBlind (va_Pc av (wC D tys ws sz)) :=
  fun a U g mk h => ⟨h.1, h.2.1, h.2.2.1, va_K.moved (u := U) (U := U.calling g mk a) (Vm.Alike.refl U.vm) h.2.2.2.1, h.2.2.2.2⟩
theorem wC_at {D : va_G} {tys : List (ClassId × FieldType)} {ws : va_W} {A : Nat → Prop} (hP : va_P D vwCl ws H) (hK : va_K D vwCl tys s) (hD : va_D A ws) : ∀ U : State, U.heap = H → s.WarmedH U.vm → wC D tys ws H.size U :=
  fun U hU hW => ⟨by rw [hU], by rw [hU]; exact hP, va_K.moved hW.alike hK, hD.weaken (fun _ _ _ _ => trivial)⟩
/-- what such a method leaves: an answer r u, the world wf u, with post u; nothing else changed -/
def wQ {S : Type} (post : S → Prop) (r : S → Option Value) (wf : S → va_W) (D : va_G) (tys : List (ClassId × FieldType)) (A : Nat → Prop) : Array Value → State → Outcome → State → Prop := fun _ st oc t =>
  (∃ u : S, oc = .returned (r u) ∧ post u ∧ va_P D vwCl (wf u) t.heap ∧ va_K D vwCl tys t ∧ va_D A (wf u)) ∧ va_F A st t
def Wm {S : Type} (l : Launch) (y : MethodName) (cc : ByteArray) (maxL : Nat) (ret : Option FieldType) (f n : Nat) (av : List Value) (D : va_G) (tys : List (ClassId × FieldType)) (ws : va_W) (post : S → Prop) (r : S → Option Value) (wf : S → va_W) : Prop :=
  ∀ sz, Met l y (Cond.code y cc maxL ret :: W0) (k2_rm f n) (va_Pc av (wC D tys ws sz)) (wQ post r wf D tys (va_A ws sz)) 0 0 (va_A ws sz)
theorem wq_call {S : Type} {post : S → Prop} {r : S → Option Value} {wf : S → va_W} {D : va_G} {tys : List (ClassId × FieldType)} {ws wc wr : va_W} {A : Nat → Prop} {pc : Nat} {ls : Array Slot} {st0 rest : List Value} {a : Array Value}
    (hr : va_Run p l e R s m args below meth c H locs cells slots 0 0 (F0 m pc ls st0) rest (wQ post r wf D tys (va_A wc H.size) a) (va_A wc H.size)) (hS : va_S A s.heap H locs) (hP : va_P D vwCl ws H) (hD : va_D A ws) (hA : ∀ q, s.heap.size ≤ q → A q)
    (isC isR : List Nat) (hC : isC.map (fun i => ws[i]?) = wc.map some) (hR : isR.map (fun i => ws[i]?) = wr.map some) (hn : va_nd isR = true) (hdis : ∀ i ∈ isR, i ∉ isC)
    (kk : ∀ (u : S) (H1 : Heap) (locs1 : List Loc), post u → va_P D vwCl (wr ++ wf u) H1 → va_D A (wr ++ wf u) → va_S A s.heap H1 locs1 → W p l e R s m args below meth c H1 locs1 cells slots Q (F0 m (pc + 3) ls ((r u).toList ++ rest))) :
    W p l e R s m args below meth c H locs cells slots Q (F0 m pc ls st0) := by
  have hF := va_free (wc := wc) hD hS hA isC hC
  intro T hT X
  obtain ⟨v, st₀, t, T', L, h0, X', hL, e1, e2, ⟨⟨u, hv, hp, hP1, hK1, hD1⟩, hz, hk⟩, st⟩ := hr T hT X
  cases hv
  rw [h0] at hz hk
  have hk1 : ∀ q : Nat, q < H.size → ¬ va_A wc H.size q → T'.heap[q]? = H[q]? := fun q h1 h2 => by rw [e1]; exact hk q h1 h2
  obtain ⟨hPn, hDn⟩ := va_join (wr := wr) (w1 := wf u) hP hD isC isR hC hR hn hdis hk1 hF (by rw [e1]; exact hP1) hD1
  obtain ⟨t2, a1, b1⟩ := kk u T'.heap (locs ++ L) hp hPn hDn ⟨Nat.le_trans hS.1 (by rw [e1]; exact hz), fun q h1 h2 => by
      rw [hk1 q (Nat.lt_of_lt_of_le h1 hS.1) (fun z => h2 (hF q z))]
      exact hS.2.1 q h1 h2, fun q hq => by
      rcases List.mem_append.mp hq with h | h
      · exact hS.2.2 q h
      · exact hF _ (hL q h)⟩ T' rfl X'
  exact ⟨t2, st t2 a1, b1⟩
theorem wc_V {S' : Type} {post : S' → Prop} {r : S' → Option Value} {wf : S' → va_W} {D : va_G} {tys : List (ClassId × FieldType)} {ws wc wr : va_W} {A : Nat → Prop} {y : MethodName} {bytes cc : ByteArray} {maxL nL f n index pc : Nat} {ret : Option FieldType} {own : String} {b : Addr} {As rest st0 : List Value} {ls : Array Slot}
    (S : CallFix p m c cc nL s args W0 own) (hM : Wm l y bytes maxL ret f n (.ref b :: As) D tys wc post r wf)
    (hk : Cond.code y bytes maxL ret ∈ W0) (hi : Cond.instanceMethod y ∈ W0) (he : Cond.selects y.cls y y ∈ W0) (ho : Cond.initialized y.cls ∈ W0) (hl : Cond.methodLink own index y ∈ W0)
    (hd : y.cls ≠ "java/lang/invoke/MethodHandle" ∧ y.cls ≠ "java/lang/invoke/VarHandle" ∧ (parseMethodDescriptor y.desc).map (fun d => d.parameters.length) = some As.length)
    (hRf : f + 1 ≤ R.frames) (hRl : 8 + (maxL + 11) + n ≤ R.locals) (hRc : cells ≤ R.cells ∧ slots ≤ R.slots)
    (recv : ∃ cellB : Cell, H[b]? = some cellB ∧ cellB.vm.isStatics = false ∧ s.vm.findClass y.cls = some cellB.cls)
    (hK : va_K D vwCl tys s) (hP : va_P D vwCl ws H) (hD : va_D A ws) (hS : va_S A s.heap H locs) (hA : ∀ q, s.heap.size ≤ q → A q)
    (isC isR : List Nat) (hC : isC.map (fun i => ws[i]?) = wc.map some) (hC2 : isC.filterMap (fun i => ws[i]?) = wc) (hR : isR.map (fun i => ws[i]?) = wr.map some) (hnC : va_nd isC = true) (hn : va_nd isR = true) (hdis : ∀ i ∈ isR, i ∉ isC)
    (hsize : ls.size = nL) (hst : st0 = As.reverse ++ .ref b :: rest) (hW : (rest.map fun v => v.category).sum ≤ 8) (hdg : decode cc pc = .ok (.invokevirtual index, 3))
    (kk : ∀ (u : S') (H1 : Heap) (locs1 : List Loc), post u → va_P D vwCl (wr ++ wf u) H1 → va_D A (wr ++ wf u) → va_S A s.heap H1 locs1 → W p l e R s m args below meth c H1 locs1 cells slots Q (F0 m (pc + 3) ls ((r u).toList ++ rest))) :
    W p l e R s m args below meth c H locs cells slots Q (F0 m pc ls st0) := by
  subst hst
  have hts := S.2.2.2.2
  exact wq_call (a := (Value.ref b :: As).toArray) (va_runV S (hM H.size) ⟨cb_of hts hk ho hl hd hRf hRl, hts _ hi, hts _ he⟩ ⟨wC_blind, recv, fun U hU hW => ⟨rfl, wC_at (hP.sub isC hC2) hK (hD.sub isC hnC hC) U hU hW⟩⟩ rfl rfl hsize rfl (lv_room hW) hdg hRc) hS hP hD hA isC isR hC hR hn hdis kk
end Writes
/-- the contract of a method that changes its world, out of its body's walk: void, int -/
theorem wm_v {S' : Type} {post : S' → Prop} {wf : S' → va_W} {D : va_G} {tys : List (ClassId × FieldType)} {ws : va_W} {l : Launch} {y : MethodName} {cc : ByteArray} {maxL f n : Nat} {av : List Value} (hy : plainName y.cls = true) (ha : (lg_sl av).length ≤ maxL)
    (body : ∀ (p : Program) (e : Env) (s : State) (m : MethodId) (below : List Frame) (meth : Method) (c : Code) (ls : Array Slot) (Q : State → Prop) (A : Nat → Prop), CallFix p m c cc maxL s av.toArray W0 y.cls → va_K D vwCl tys s → va_P D vwCl ws s.heap → va_D A ws → (∀ q, s.heap.size ≤ q → A q) → va_S A s.heap s.heap [] → lv_has ls maxL (lv_args 0 av) →
      (∀ (u : S') (ls : Array Slot) (pc : Nat) (H : Heap) (locs : List Loc), decode cc pc = .ok (.return_, 1) → post u → va_P D vwCl (wf u) H → va_D A (wf u) → va_S A s.heap H locs → W p l e (k2_rm f n) s m av.toArray below meth c H locs 0 0 Q (F0 m pc ls [])) →
      W p l e (k2_rm f n) s m av.toArray below meth c s.heap [] 0 0 Q (F0 m 0 ls [])) : Wm l y cc maxL none f n av D tys ws post (fun _ => none) wf := by
  intro sz
  refine Met.ofW (cc := cc) (maxL := maxL) (ret := none) hy rfl ?_
  intro p e s m args below meth c s₁ B0 hml hv
  obtain ⟨rfl, hsz, hP, hK, hD0⟩ := hv
  subst hsz
  have hts : ∀ w ∈ W0, w.before av.toArray s = true := fun w h => atoms_spec (ws := Cond.code y cc maxL none :: W0) B0.pre w (List.mem_cons_of_mem _ h)
  have hown : s.vm.findClass y.cls = some m.cls := findClass_of_methodNamed B0.named
  have hl := lv_entry av (n := maxL) ha
  rw [lg_entry_eq]
  generalize (lg_sl av ++ List.replicate (maxL - (lg_sl av).length) Slot.unset).toArray = ls at hl ⊢
  refine body p e s m below meth c ls _ (va_A ws s.heap.size) ⟨B0.exec, B0.bytes, hml, hown, hts⟩ hK hP (hD0.self (sz := s.heap.size)) (fun q h => Or.inr h) va_S.rf hl ?_
  intro u ls pc H locs hd hp hP1 hD1 hS1
  exact W.vret B0.exec B0.bytes B0.returns (fun t ht hW => ⟨⟨u, rfl, hp, by rw [ht]; exact hP1, va_K.moved hW.alike hK, hD1⟩, hS1.F ht⟩) hS1.2.2 hd B0.notSynchronized
theorem wm_i {S' : Type} {post : S' → Prop} {wf : S' → va_W} {r : S' → Int32} {ty : FieldType} {D : va_G} {tys : List (ClassId × FieldType)} {ws : va_W} {l : Launch} {y : MethodName} {cc : ByteArray} {maxL f n : Nat} {av : List Value} (hy : plainName y.cls = true) (hr : ∀ u, post u → narrow ty (.int (r u)) = .int (r u)) (ha : (lg_sl av).length ≤ maxL)
    (body : ∀ (p : Program) (e : Env) (s : State) (m : MethodId) (below : List Frame) (meth : Method) (c : Code) (ls : Array Slot) (Q : State → Prop) (A : Nat → Prop), CallFix p m c cc maxL s av.toArray W0 y.cls → va_K D vwCl tys s → va_P D vwCl ws s.heap → va_D A ws → (∀ q, s.heap.size ≤ q → A q) → va_S A s.heap s.heap [] → lv_has ls maxL (lv_args 0 av) →
      (∀ (u : S') (v : Int32) (ls : Array Slot) (pc : Nat) (H : Heap) (locs : List Loc), decode cc pc = .ok (.ireturn, 1) → post u → v = r u → va_P D vwCl (wf u) H → va_D A (wf u) → va_S A s.heap H locs → W p l e (k2_rm f n) s m av.toArray below meth c H locs 0 0 Q (F0 m pc ls [.int v])) →
      W p l e (k2_rm f n) s m av.toArray below meth c s.heap [] 0 0 Q (F0 m 0 ls [])) : Wm l y cc maxL (some ty) f n av D tys ws post (fun u => some (.int (r u))) wf := by
  intro sz
  refine Met.ofW (cc := cc) (maxL := maxL) (ret := some ty) hy rfl ?_
  intro p e s m args below meth c s₁ B0 hml hv
  obtain ⟨rfl, hsz, hP, hK, hD0⟩ := hv
  subst hsz
  have hts : ∀ w ∈ W0, w.before av.toArray s = true := fun w h => atoms_spec (ws := Cond.code y cc maxL (some ty) :: W0) B0.pre w (List.mem_cons_of_mem _ h)
  have hown : s.vm.findClass y.cls = some m.cls := findClass_of_methodNamed B0.named
  have hl := lv_entry av (n := maxL) ha
  rw [lg_entry_eq]
  generalize (lg_sl av ++ List.replicate (maxL - (lg_sl av).length) Slot.unset).toArray = ls at hl ⊢
  refine body p e s m below meth c ls _ (va_A ws s.heap.size) ⟨B0.exec, B0.bytes, hml, hown, hts⟩ hK hP (hD0.self (sz := s.heap.size)) (fun q h => Or.inr h) va_S.rf hl ?_
  intro u v ls pc H locs hd hp hv hP1 hD1 hS1
  subst hv
  exact W.zret B0.exec B0.bytes B0.returns (hr u hp) (fun t ht hW => ⟨⟨u, rfl, hp, by rw [ht]; exact hP1, va_K.moved hW.alike hK, hD1⟩, hS1.F ht⟩) hS1.2.2 hd B0.notSynchronized
