/-! ===== constructors: methods that make cells ===== -/
def rmC (f n mc ms : Nat) : Room := { frames := f, cells := mc, slots := ms, locals := n }
theorem arr_eq {s : State} {c1 c2 : ClassId} {ty : FieldType} (hty : ty = .int ∨ ty = .long ∨ ty = .boolean) (h1 : va_RA s c1 ty) (h2 : va_RA s c2 ty) : c1 = c2 := by
  rcases hty with rfl | rfl | rfl <;> exact Option.some.inj (h1.symm.trans h2)
section Ctors
variable {p : Program} {l : Launch} {e : Env} {R : Room} {s : State} {m : MethodId} {args : Array Value} {below : List Frame} {meth : Method} {c : Code} {H : Heap} {locs : List Loc} {cells slots : Nat} {Q : State → Prop}
def Cm {S : Type} (l : Launch) (y : MethodName) (cc : ByteArray) (maxL f n mc ms : Nat) (av : List Value) (D : va_G) (tys : List (ClassId × FieldType)) (ws : va_W) (post : S → Prop) (wf : S → va_W) : Prop :=
  ∀ sz, Met l y (Cond.code y cc maxL none :: W0) (rmC f n mc ms) (va_Pc av (wC D tys ws sz)) (wQ post (fun _ => none) wf D tys (va_A ws sz)) mc ms (va_A ws sz)
theorem cq_call {S : Type} {mc ms : Nat} {post : S → Prop} {r : S → Option Value} {wf : S → va_W} {D : va_G} {tys : List (ClassId × FieldType)} {ws wc wr : va_W} {A : Nat → Prop} {pc : Nat} {ls : Array Slot} {st0 rest : List Value} {a : Array Value}
    (hr : va_Run p l e R s m args below meth c H locs cells slots mc ms (F0 m pc ls st0) rest (wQ post r wf D tys (va_A wc H.size) a) (va_A wc H.size)) (hS : va_S A s.heap H locs) (hP : va_P D vwCl ws H) (hD : va_D A ws) (hA : ∀ q, s.heap.size ≤ q → A q)
    (isC isR : List Nat) (hC : isC.map (fun i => ws[i]?) = wc.map some) (hR : isR.map (fun i => ws[i]?) = wr.map some) (hn : va_nd isR = true) (hdis : ∀ i ∈ isR, i ∉ isC)
    (kk : ∀ (u : S) (H1 : Heap) (locs1 : List Loc), post u → va_P D vwCl (wr ++ wf u) H1 → va_D A (wr ++ wf u) → va_S A s.heap H1 locs1 → W p l e R s m args below meth c H1 locs1 (cells + mc) (slots + ms) Q (F0 m (pc + 3) ls ((r u).toList ++ rest))) :
    W p l e R s m args below meth c H locs cells slots Q (F0 m pc ls st0) := by
  have hF := va_free (wc := wc) hD hS hA isC hC
  intro T hT X
  obtain ⟨v, st₀, t, T', L, h0, X', hL, e1, e2, ⟨⟨u, hv, hp, hP1, hK1, hD1⟩, hz, hk⟩, st⟩ := hr T hT X
  cases hv
  rw [h0] at hz hk
  have hk1 : ∀ q : Nat, q < H.size → ¬ va_A wc H.size q → T'.heap[q]? = H[q]? := fun q h1 h2 => by rw [e1]; exact hk q h1 h2
  obtain ⟨hPn, hDn⟩ := va_join (wr := wr) (w1 := wf u) hP hD isC isR hC hR hn hdis hk1 hF (by rw [e1]; exact hP1) hD1
  obtain ⟨t2, a1, b1⟩ := kk u T'.heap (locs ++ L) hp hPn hDn ⟨Nat.le_trans hS.1 (by rw [e1]; exact hz), fun q h1 h2 => by
      rw [hk1 q (Nat.lt_of_lt_of_le h1 hS.1) (fun z => h2 (hF q z))]
      exact hS.2.1 q h1 h2, fun q hq => by
      rcases List.mem_append.mp hq with h | h
      · exact hS.2.2 q h
      · exact hF _ (hL q h)⟩ T' rfl X'
  exact ⟨t2, st t2 a1, b1⟩
theorem cc_I {S' : Type} {post : S' → Prop} {wf : S' → va_W} {D : va_G} {tys : List (ClassId × FieldType)} {ws wc wr : va_W} {A : Nat → Prop} {y : MethodName} {bytes cc : ByteArray} {maxL nL f n mc ms index pc : Nat} {own : String} {b : Addr} {As rest st0 : List Value} {ls : Array Slot}
    (S : CallFix p m c cc nL s args W0 own) (hM : Cm l y bytes maxL f n mc ms (.ref b :: As) D tys wc post wf)
    (hk : Cond.code y bytes maxL none ∈ W0) (hi : Cond.instanceMethod y ∈ W0) (ho : Cond.initialized y.cls ∈ W0) (hl : Cond.methodLink own index y ∈ W0) (hy1 : y.name = "<init>")
    (hd : y.cls ≠ "java/lang/invoke/MethodHandle" ∧ y.cls ≠ "java/lang/invoke/VarHandle" ∧ (parseMethodDescriptor y.desc).map (fun d => d.parameters.length) = some As.length)
    (hRf : f + 1 ≤ R.frames) (hRl : 8 + (maxL + 11) + n ≤ R.locals) (hRc : cells + mc ≤ R.cells ∧ slots + ms ≤ R.slots)
    (hK : va_K D vwCl tys s) (hP : va_P D vwCl ws H) (hD : va_D A ws) (hS : va_S A s.heap H locs) (hA : ∀ q, s.heap.size ≤ q → A q)
    (isC isR : List Nat) (hC : isC.map (fun i => ws[i]?) = wc.map some) (hC2 : isC.filterMap (fun i => ws[i]?) = wc) (hR : isR.map (fun i => ws[i]?) = wr.map some) (hnC : va_nd isC = true) (hn : va_nd isR = true) (hdis : ∀ i ∈ isR, i ∉ isC)
    (hsize : ls.size = nL) (hst : st0 = As.reverse ++ .ref b :: rest) (hW : (rest.map fun v => v.category).sum ≤ 8) (hdg : decode cc pc = .ok (.invokespecial index, 3))
    (kk : ∀ (u : S') (H1 : Heap) (locs1 : List Loc), post u → va_P D vwCl (wr ++ wf u) H1 → va_D A (wr ++ wf u) → va_S A s.heap H1 locs1 → W p l e R s m args below meth c H1 locs1 (cells + mc) (slots + ms) Q (F0 m (pc + 3) ls rest)) :
    W p l e R s m args below meth c H locs cells slots Q (F0 m pc ls st0) := by
  subst hst
  have hts := S.2.2.2.2
  exact cq_call (a := (Value.ref b :: As).toArray) (va_runI S (hM H.size) ⟨callB_of As.length hts (W0_cons hk) rfl rfl rfl (hts _ ho) (hts _ hl) hd ⟨hRf, hRl⟩, hy1, hts _ hi⟩ ⟨wC_blind, fun U hU hW => ⟨rfl, wC_at (hP.sub isC hC2) hK (hD.sub isC hnC hC) U hU hW⟩⟩ rfl rfl hsize rfl (lv_room hW) hdg hRc) hS hP hD hA isC isR hC hR hn hdis kk
/-- a call of a static method that changes its world and makes nothing -/
theorem wc_S {S' : Type} {post : S' → Prop} {r : S' → Option Value} {wf : S' → va_W} {D : va_G} {tys : List (ClassId × FieldType)} {ws wc wr : va_W} {A : Nat → Prop} {y : MethodName} {bytes cc : ByteArray} {maxL nL f n index pc : Nat} {ret : Option FieldType} {own : String} {As rest st0 : List Value} {ls : Array Slot}
    (S : CallFix p m c cc nL s args W0 own) (hM : Wm l y bytes maxL ret f n As D tys wc post r wf)
    (hk : Cond.code y bytes maxL ret ∈ W0) (hi : Cond.static y ∈ W0) (ho : Cond.initialized y.cls ∈ W0) (hl : Cond.methodLink own index y ∈ W0)
    (hd : y.cls ≠ "java/lang/invoke/MethodHandle" ∧ y.cls ≠ "java/lang/invoke/VarHandle" ∧ (parseMethodDescriptor y.desc).map (fun d => d.parameters.length) = some As.length)
    (hRf : f + 1 ≤ R.frames) (hRl : 8 + (maxL + 11) + n ≤ R.locals) (hRc : cells ≤ R.cells ∧ slots ≤ R.slots)
    (hK : va_K D vwCl tys s) (hP : va_P D vwCl ws H) (hD : va_D A ws) (hS : va_S A s.heap H locs) (hA : ∀ q, s.heap.size ≤ q → A q)
    (isC isR : List Nat) (hC : isC.map (fun i => ws[i]?) = wc.map some) (hC2 : isC.filterMap (fun i => ws[i]?) = wc) (hR : isR.map (fun i => ws[i]?) = wr.map some) (hnC : va_nd isC = true) (hn : va_nd isR = true) (hdis : ∀ i ∈ isR, i ∉ isC)
    (hsize : ls.size = nL) (hst : st0 = As.reverse ++ rest) (hW : (rest.map fun v => v.category).sum ≤ 8) (hdg : decode cc pc = .ok (.invokestatic index, 3))
    (kk : ∀ (u : S') (H1 : Heap) (locs1 : List Loc), post u → va_P D vwCl (wr ++ wf u) H1 → va_D A (wr ++ wf u) → va_S A s.heap H1 locs1 → W p l e R s m args below meth c H1 locs1 cells slots Q (F0 m (pc + 3) ls ((r u).toList ++ rest))) :
    W p l e R s m args below meth c H locs cells slots Q (F0 m pc ls st0) := by
  subst hst
  have hts := S.2.2.2.2
  exact wq_call (a := As.toArray) (va_runS S (hM H.size) ⟨cb_of hts hk ho hl hd hRf hRl, hts _ hi⟩ ⟨wC_blind, fun U hU hW => ⟨rfl, wC_at (hP.sub isC hC2) hK (hD.sub isC hnC hC) U hU hW⟩⟩ rfl rfl hsize rfl (lv_room hW) hdg hRc) hS hP hD hA isC isR hC hR hn hdis kk
end Ctors
theorem cm_of {S' : Type} {post : S' → Prop} {wf : S' → va_W} {D : va_G} {tys : List (ClassId × FieldType)} {ws : va_W} {l : Launch} {y : MethodName} {cc : ByteArray} {maxL f n mc ms : Nat} {av : List Value} (hy : plainName y.cls = true) (hyn : y.name = "<init>") (ha : (lg_sl av).length ≤ maxL)
    (body : ∀ (p : Program) (e : Env) (s : State) (m : MethodId) (below : List Frame) (meth : Method) (c : Code) (ls : Array Slot) (Q : State → Prop) (A : Nat → Prop), CallFix p m c cc maxL s av.toArray W0 y.cls → meth.name = "<init>" → va_K D vwCl tys s → va_P D vwCl ws s.heap → va_D A ws → (∀ q, s.heap.size ≤ q → A q) → va_S A s.heap s.heap [] → lv_has ls maxL (lv_args 0 av) →
      (∀ (u : S') (ls : Array Slot) (pc : Nat) (H : Heap) (locs : List Loc) (k j : Nat), decode cc pc = .ok (.return_, 1) → k ≤ mc → j ≤ ms → post u → va_P D vwCl (wf u) H → va_D A (wf u) → va_S A s.heap H locs → W p l e (rmC f n mc ms) s m av.toArray below meth c H locs k j Q (F0 m pc ls [])) →
      W p l e (rmC f n mc ms) s m av.toArray below meth c s.heap [] 0 0 Q (F0 m 0 ls [])) : Cm l y cc maxL f n mc ms av D tys ws post wf := by
  intro sz
  refine Met.ofW (cc := cc) (maxL := maxL) (ret := none) hy rfl ?_
  intro p e s m args below meth c s₁ B0 hml hv
  obtain ⟨rfl, hsz, hP, hK, hD0⟩ := hv
  subst hsz
  have hts : ∀ w ∈ W0, w.before av.toArray s = true := fun w h => atoms_spec (ws := Cond.code y cc maxL none :: W0) B0.pre w (List.mem_cons_of_mem _ h)
  have hown : s.vm.findClass y.cls = some m.cls := findClass_of_methodNamed B0.named
  have hin : meth.name = "<init>" := (name_of_methodNamed B0.named B0.method).1.trans hyn
  have hl := lv_entry av (n := maxL) ha
  rw [lg_entry_eq]
  generalize (lg_sl av ++ List.replicate (maxL - (lg_sl av).length) Slot.unset).toArray = ls at hl ⊢
  refine body p e s m below meth c ls _ (va_A ws s.heap.size) ⟨B0.exec, B0.bytes, hml, hown, hts⟩ hin hK hP (hD0.self (sz := s.heap.size)) (fun q h => Or.inr h) va_S.rf hl ?_
  intro u ls pc H locs k j hd hk hj hp hP1 hD1 hS1
  refine W.widen (k := mc) (n := ms) hk hj ?_
  exact W.vret B0.exec B0.bytes B0.returns (fun t ht hW => ⟨⟨u, rfl, hp, by rw [ht]; exact hP1, va_K.moved hW.alike hK, hD1⟩, hS1.F ht⟩) hS1.2.2 hd B0.notSynchronized
/-- a row filled up to k with v -/
def fillN (v : Int32) (k : Nat) (f : Nat → Int32) : Nat → Int32 := fun j => if j < k then v else f j
def fillL (v : Int64) (k : Nat) (f : Nat → Int64) : Nat → Int64 := fun j => if j < k then v else f j
theorem fillN_0 (v : Int32) (f : Nat → Int32) : fillN v 0 f = f := by funext j; simp [fillN]
theorem fillN_s (v : Int32) (k : Nat) (f : Nat → Int32) : upd (fillN v k f) k v = fillN v (k + 1) f := by
  funext j; simp only [upd, fillN]; by_cases h : j = k
  · simp [h]
  · by_cases h2 : j < k
    · simp [h, h2]; omega
    · have : ¬ j < k + 1 := by omega
      simp [h, h2, this]
theorem fillL_0 (v : Int64) (f : Nat → Int64) : fillL v 0 f = f := by funext j; simp [fillL]
theorem fillL_s (v : Int64) (k : Nat) (f : Nat → Int64) : vp_updL (fillL v k f) k v = fillL v (k + 1) f := by
  funext j; simp only [vp_updL, fillL]; by_cases h : j = k
  · simp [h]
  · by_cases h2 : j < k
    · simp [h, h2]; omega
    · have : ¬ j < k + 1 := by omega
      simp [h, h2, this]
