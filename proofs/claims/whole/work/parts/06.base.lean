/-! ===== base: what every contract here is said in ===== -/
/-- a truth as an int -/
def bI (b : Bool) : Int32 := if b then 1 else 0
theorem bI_nar (b : Bool) : narrow .boolean (.int (bI b)) = .int (bI b) := by cases b <;> rfl
/-- the array types, one class id each -/
abbrev tyA (cI cJ cZ : ClassId) : List (ClassId × FieldType) := [(cI, .int), (cJ, .long), (cZ, .boolean)]
section Base
variable {p : Program} {l : Launch} {e : Env} {R : Room} {s : State} {m : MethodId} {args : Array Value} {below : List Frame} {meth : Method} {c : Code} {H : Heap} {locs : List Loc} {cells slots : Nat} {Q : State → Prop}
/-- a state that holds the world ws -/
def wB (D : va_G) (tys : List (ClassId × FieldType)) (ws : va_W) : State → Prop := fun U => va_P D vwCl ws U.heap ∧ va_K D vwCl tys U
theorem wB_blind {D : va_G} {tys : List (ClassId × FieldType)} {ws : va_W} {av : List Value} : FrameBlind (va_Pc av (wB D tys ws)) :=
  fun a U g mk h => ⟨h.1, h.2.1, va_K.moved (u := U) (U := U.calling g mk a) (Vm.Alike.refl U.vm) h.2.2⟩
theorem wB_at {D : va_G} {tys : List (ClassId × FieldType)} {ws : va_W} (hP : va_P D vwCl ws H) (hK : va_K D vwCl tys s) : ∀ U : State, U.heap = H → s.WarmedH U.vm → wB D tys ws U :=
  fun U hU hW => ⟨by rw [hU]; exact hP, va_K.moved hW.alike hK⟩
/-- no condition on the state -/
def wT : State → Prop := fun _ => True
theorem wT_blind {av : List Value} : FrameBlind (va_Pc av wT) := fun _ _ _ _ h => ⟨h.1, trivial⟩
/-- a method that changes nothing, and answers r -/
def Pm (l : Launch) (y : MethodName) (cc : ByteArray) (maxL : Nat) (ret : Option FieldType) (f n : Nat) (av : List Value) (B : State → Prop) (r : Value) : Prop :=
  Met l y (Cond.code y cc maxL ret :: W0) (k2_rm f n) (va_Pc av B) (k2_QcV r) 0 0 (fun _ => False)
theorem cb_of {y : MethodName} {bytes : ByteArray} {maxL f n k index : Nat} {ret : Option FieldType} {own : String} (hts : ∀ w ∈ W0, w.before args s = true) (hk : Cond.code y bytes maxL ret ∈ W0) (ho : Cond.initialized y.cls ∈ W0) (hl : Cond.methodLink own index y ∈ W0)
    (hd : y.cls ≠ "java/lang/invoke/MethodHandle" ∧ y.cls ≠ "java/lang/invoke/VarHandle" ∧ (parseMethodDescriptor y.desc).map (fun d => d.parameters.length) = some k) (hRf : f + 1 ≤ R.frames) (hRl : 8 + (maxL + 11) + n ≤ R.locals) :
    CallB R s args own index y bytes maxL ret (Cond.code y bytes maxL ret :: W0) (k2_rm f n) 0 0 k :=
  callB_of k hts (W0_cons hk) rfl rfl rfl (hts _ ho) (hts _ hl) hd ⟨hRf, hRl⟩
/-- a call of such a method, on an object -/
theorem pc_V {y : MethodName} {bytes cc : ByteArray} {maxL nL f n index pc : Nat} {ret : Option FieldType} {own : String} {b : Addr} {As rest st0 : List Value} {r : Value} {ls : Array Slot} {B : State → Prop}
    (S : CallFix p m c cc nL s args W0 own) (hM : Pm l y bytes maxL ret f n (.ref b :: As) B r) (hbl : FrameBlind (va_Pc (.ref b :: As) B))
    (hk : Cond.code y bytes maxL ret ∈ W0) (hi : Cond.instanceMethod y ∈ W0) (he : Cond.selects y.cls y y ∈ W0) (ho : Cond.initialized y.cls ∈ W0) (hl : Cond.methodLink own index y ∈ W0)
    (hd : y.cls ≠ "java/lang/invoke/MethodHandle" ∧ y.cls ≠ "java/lang/invoke/VarHandle" ∧ (parseMethodDescriptor y.desc).map (fun d => d.parameters.length) = some As.length)
    (hRf : f + 1 ≤ R.frames) (hRl : 8 + (maxL + 11) + n ≤ R.locals) (hRc : cells ≤ R.cells ∧ slots ≤ R.slots)
    (recv : ∃ cellB : Cell, H[b]? = some cellB ∧ cellB.vm.isStatics = false ∧ s.vm.findClass y.cls = some cellB.cls) (hB : ∀ U : State, U.heap = H → s.WarmedH U.vm → B U)
    (hsize : ls.size = nL) (hst : st0 = As.reverse ++ .ref b :: rest) (hW : (rest.map fun v => v.category).sum ≤ 8) (hdg : decode cc pc = .ok (.invokevirtual index, 3))
    (kk : W p l e R s m args below meth c H locs cells slots Q (F0 m (pc + 3) ls (r :: rest))) : W p l e R s m args below meth c H locs cells slots Q (F0 m pc ls st0) := by
  subst hst
  have hts := S.2.2.2.2
  exact W.callV (a := (Value.ref b :: As).toArray) (W.runV S hM ⟨cb_of hts hk ho hl hd hRf hRl, hts _ hi, hts _ he⟩ ⟨hbl, recv, fun U hU hW => ⟨rfl, hB U hU hW⟩⟩ rfl rfl hsize rfl (lv_room hW) hdg hRc) kk
/-- .. and of a static one -/
theorem pc_S {y : MethodName} {bytes cc : ByteArray} {maxL nL f n index pc : Nat} {ret : Option FieldType} {own : String} {As rest st0 : List Value} {r : Value} {ls : Array Slot} {B : State → Prop}
    (S : CallFix p m c cc nL s args W0 own) (hM : Pm l y bytes maxL ret f n As B r) (hbl : FrameBlind (va_Pc As B))
    (hk : Cond.code y bytes maxL ret ∈ W0) (hi : Cond.static y ∈ W0) (ho : Cond.initialized y.cls ∈ W0) (hl : Cond.methodLink own index y ∈ W0)
    (hd : y.cls ≠ "java/lang/invoke/MethodHandle" ∧ y.cls ≠ "java/lang/invoke/VarHandle" ∧ (parseMethodDescriptor y.desc).map (fun d => d.parameters.length) = some As.length)
    (hRf : f + 1 ≤ R.frames) (hRl : 8 + (maxL + 11) + n ≤ R.locals) (hRc : cells ≤ R.cells ∧ slots ≤ R.slots)
    (hB : ∀ U : State, U.heap = H → s.WarmedH U.vm → B U)
    (hsize : ls.size = nL) (hst : st0 = As.reverse ++ rest) (hW : (rest.map fun v => v.category).sum ≤ 8) (hdg : decode cc pc = .ok (.invokestatic index, 3))
    (kk : W p l e R s m args below meth c H locs cells slots Q (F0 m (pc + 3) ls (r :: rest))) : W p l e R s m args below meth c H locs cells slots Q (F0 m pc ls st0) := by
  subst hst
  have hts := S.2.2.2.2
  exact W.callV (a := As.toArray) (W.runS S hM ⟨cb_of hts hk ho hl hd hRf hRl, hts _ hi⟩ ⟨hbl, fun U hU hW => ⟨rfl, hB U hU hW⟩⟩ rfl rfl hsize rfl (lv_room hW) hdg hRc) kk
end Base
/-- the contract of a method that changes nothing and answers an int, out of its body's walk -/
theorem pm_i {l : Launch} {y : MethodName} {cc : ByteArray} {maxL f n : Nat} {ty : FieldType} {av : List Value} {B : State → Prop} {r : Int32} (hy : plainName y.cls = true) (hr : narrow ty (.int r) = .int r) (ha : (lg_sl av).length ≤ maxL)
    (body : ∀ (p : Program) (e : Env) (s : State) (m : MethodId) (below : List Frame) (meth : Method) (c : Code) (ls : Array Slot) (Q : State → Prop), CallFix p m c cc maxL s av.toArray W0 y.cls → B s → lv_has ls maxL (lv_args 0 av) →
      (∀ (v : Int32) (ls : Array Slot) (pc : Nat), decode cc pc = .ok (.ireturn, 1) → v = r → W p l e (k2_rm f n) s m av.toArray below meth c s.heap [] 0 0 Q (F0 m pc ls [.int v])) →
      W p l e (k2_rm f n) s m av.toArray below meth c s.heap [] 0 0 Q (F0 m 0 ls [])) : Pm l y cc maxL (some ty) f n av B (.int r) := by
  refine Met.ofW (cc := cc) (maxL := maxL) (ret := some ty) hy rfl ?_
  intro p e s m args below meth c s₁ B0 hml hv
  obtain ⟨rfl, hB⟩ := hv
  have hts : ∀ w ∈ W0, w.before av.toArray s = true := fun w h => atoms_spec (ws := Cond.code y cc maxL (some ty) :: W0) B0.pre w (List.mem_cons_of_mem _ h)
  have hown : s.vm.findClass y.cls = some m.cls := findClass_of_methodNamed B0.named
  have hl := lv_entry av (n := maxL) ha
  rw [lg_entry_eq]
  generalize (lg_sl av ++ List.replicate (maxL - (lg_sl av).length) Slot.unset).toArray = ls at hl ⊢
  refine body p e s m below meth c ls _ ⟨B0.exec, B0.bytes, hml, hown, hts⟩ hB hl ?_
  intro v ls pc hd hv
  subst hv
  exact W.zret B0.exec B0.bytes B0.returns hr (fun t ht _ => ⟨rfl, ht⟩) (fun q h => by cases h) hd B0.notSynchronized
theorem pm_l {l : Launch} {y : MethodName} {cc : ByteArray} {maxL f n : Nat} {av : List Value} {B : State → Prop} {r : Int64} (hy : plainName y.cls = true) (ha : (lg_sl av).length ≤ maxL)
    (body : ∀ (p : Program) (e : Env) (s : State) (m : MethodId) (below : List Frame) (meth : Method) (c : Code) (ls : Array Slot) (Q : State → Prop), CallFix p m c cc maxL s av.toArray W0 y.cls → B s → lv_has ls maxL (lv_args 0 av) →
      (∀ (v : Int64) (ls : Array Slot) (pc : Nat), decode cc pc = .ok (.lreturn, 1) → v = r → W p l e (k2_rm f n) s m av.toArray below meth c s.heap [] 0 0 Q (F0 m pc ls [.long v])) →
      W p l e (k2_rm f n) s m av.toArray below meth c s.heap [] 0 0 Q (F0 m 0 ls [])) : Pm l y cc maxL (some .long) f n av B (.long r) := by
  refine Met.ofW (cc := cc) (maxL := maxL) (ret := some .long) hy rfl ?_
  intro p e s m args below meth c s₁ B0 hml hv
  obtain ⟨rfl, hB⟩ := hv
  have hts : ∀ w ∈ W0, w.before av.toArray s = true := fun w h => atoms_spec (ws := Cond.code y cc maxL (some .long) :: W0) B0.pre w (List.mem_cons_of_mem _ h)
  have hown : s.vm.findClass y.cls = some m.cls := findClass_of_methodNamed B0.named
  have hl := lv_entry av (n := maxL) ha
  rw [lg_entry_eq]
  generalize (lg_sl av ++ List.replicate (maxL - (lg_sl av).length) Slot.unset).toArray = ls at hl ⊢
  refine body p e s m below meth c ls _ ⟨B0.exec, B0.bytes, hml, hown, hts⟩ hB hl ?_
  intro v ls pc hd hv
  subst hv
  exact W.lret B0.exec B0.bytes B0.returns (fun t ht _ => ⟨rfl, ht⟩) (fun q h => by cases h) hd B0.notSynchronized
