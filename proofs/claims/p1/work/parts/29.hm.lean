/-! ===== the law's helpers: methods with a table of handlers, that never throw ===== -/
def eN (U : State) : Prop := va_Nc ISE IAE U ∧ va_Nc UOE IAE U ∧ va_Nc UOE ISE U
theorem eN.moved {u U : State} (hvm : u.vm.Alike U.vm) (h : eN u) : eN U := ⟨h.1.moved hvm, h.2.1.moved hvm, h.2.2.moved hvm⟩
theorem cast_E {A : Nat → Prop} {s : State} {H : Heap} {args : Array Value} {E : String} (hX : eX A s H) (h : Cond.castable E E ∈ NG) : (Cond.castable E E).before args s = true := va_Nw.use rfl (hX.2.2.1 _ h)
theorem gi_S {own : String} {idx : Nat} {y : MethodName} {c : Cond} (hl : Cond.methodLink own idx y ∈ W0) (hi : Cond.static y ∈ W0) (ho : Cond.initialized y.cls ∈ W0) (hk : c ∈ W0) : GoodIn W0 (va_wsS own idx y (c :: W0)) := fun w hw => by
  unfold va_wsS at hw
  rcases List.mem_append.mp hw with h | h
  · rcases List.mem_cons.mp h with rfl | h
    · exact W0_good _ hl
    · rcases List.mem_cons.mp h with rfl | h
      · exact W0_good _ hi
      · rcases List.mem_cons.mp h with rfl | h
        · exact W0_good _ ho
        · cases h
  · exact W0_cons hk w h
section Helps
variable {p : Program} {l : Launch} {e : Env} {R : Room} {s : State} {m : MethodId} {args : Array Value} {below : List Frame} {meth : Method} {c : Code} {H : Heap} {locs : List Loc} {cells slots : Nat} {Q : State → Prop}
def wH (D : va_G) (tys : List (ClassId × FieldType)) (ws : va_W) (sz : Nat) : State → Prop := fun U => wE D tys ws sz U ∧ eN U
theorem wH_blind {D : va_G} {tys : List (ClassId × FieldType)} {ws : va_W} {sz : Nat} {av : List Value} : FrameBlind (va_Pc av (wH D tys ws sz)) :=
  fun a U g mk h => ⟨h.1, (wE_blind (av := av) a U g mk ⟨h.1, h.2.1⟩).2, eN.moved (u := U) (U := U.calling g mk a) (Vm.Alike.refl U.vm) h.2.2⟩
def noX (D : va_G) (tys : List (ClassId × FieldType)) (A : Nat → Prop) : String → State → State → Prop := wXC (SX := Unit) (fun _ _ => False) (fun _ => []) D tys A
def Hm {S : Type} (l : Launch) (y : MethodName) (cc : ByteArray) (maxL : Nat) (ret : Option FieldType) (hh : List (Nat × Nat × Nat × Nat)) (f n : Nat) (av : List Value) (D : va_G) (tys : List (ClassId × FieldType)) (ws : va_W) (post : S → Prop) (r : S → Option Value) (wf : S → va_W) : Prop :=
  ∀ sz, vx_Met l y (Cond.codeWith y cc maxL ret hh :: W0) (rmX f n) (va_Pc av (wH D tys ws sz)) (wQ post r wf D tys (va_A ws sz)) (noX D tys (va_A ws sz)) 1 6 (va_A ws sz)
/-- a call of a helper -/
theorem hc_S {S' : Type} {post : S' → Prop} {r : S' → Option Value} {wf : S' → va_W} {D : va_G} {tys : List (ClassId × FieldType)} {ws wc wr : va_W} {A : Nat → Prop} {y : MethodName} {bytes cc : ByteArray} {maxL nL f n index pc : Nat} {ret : Option FieldType} {hh : List (Nat × Nat × Nat × Nat)} {own : String} {As rest st0 : List Value} {ls : Array Slot}
    (S : CallFix p m c cc nL s args W0 own) (hM : Hm l y bytes maxL ret hh f n As D tys wc post r wf)
    (hk : Cond.codeWith y bytes maxL ret hh ∈ W0) (hi : Cond.static y ∈ W0) (ho : Cond.initialized y.cls ∈ W0) (hl : Cond.methodLink own index y ∈ W0)
    (hd : y.cls ≠ "java/lang/invoke/MethodHandle" ∧ y.cls ≠ "java/lang/invoke/VarHandle" ∧ (parseMethodDescriptor y.desc).map (fun d => d.parameters.length) = some As.length)
    (hRf : f + 1 ≤ R.frames) (hRl : 8 + (maxL + 11) + n ≤ R.locals) (hRc : cells + 1 ≤ R.cells ∧ slots + 6 ≤ R.slots)
    (hK : va_K D vwCl tys s) (hP : va_P D vwCl ws H) (hD : va_D A ws) (hS : va_S A s.heap H locs) (hA : ∀ q, s.heap.size ≤ q → A q) (hX : eX A s s.heap) (hN : eN s)
    (isC isR : List Nat) (hC : isC.map (fun i => ws[i]?) = wc.map some) (hC2 : isC.filterMap (fun i => ws[i]?) = wc) (hR : isR.map (fun i => ws[i]?) = wr.map some) (hnC : va_nd isC = true) (hn : va_nd isR = true) (hdis : ∀ i ∈ isR, i ∉ isC)
    (hsize : ls.size = nL) (hst : st0 = As.reverse ++ rest) (hW : (rest.map fun v => v.category).sum ≤ 8) (hdg : decode cc pc = .ok (.invokestatic index, 3))
    (kk : ∀ (u : S') (H1 : Heap) (locs1 : List Loc), post u → va_P D vwCl (wr ++ wf u) H1 → va_D A (wr ++ wf u) → va_S A s.heap H1 locs1 → W p l e R s m args below meth c H1 locs1 (cells + 1) (slots + 6) Q (F0 m (pc + 3) ls ((r u).toList ++ rest))) :
    W p l e R s m args below meth c H locs cells slots Q (F0 m pc ls st0) := by
  subst hst
  have hts := S.2.2.2.2
  have hF := va_free (wc := wc) hD hS hA isC hC
  exact xq_call (a := As.toArray) (vx_runSX S (hM H.size) (vx_cwSW As.length hts (gi_S hl hi ho hk) rfl rfl rfl hd ⟨hRf, hRl⟩) ⟨wH_blind, fun U hU hW => ⟨rfl, wE_at (hP.sub isC hC2) hK (hD.sub isC hnC hC) hX hS hF U hU hW, hN.moved hW.alike⟩⟩ rfl rfl hsize rfl (lv_room hW) hdg hRc) hS hP hD hA isC isR hC hR hn hdis (fun _ _ _ _ _ _ h => h.elim) kk
end Helps
/-- the contract of a helper, out of its body's walk -/
theorem hm_of {S' : Type} {post : S' → Prop} {wf : S' → va_W} {r : S' → Int32} {D : va_G} {tys : List (ClassId × FieldType)} {ws : va_W} {l : Launch} {y : MethodName} {cc : ByteArray} {hh : List (Nat × Nat × Nat × Nat)} {maxL f n : Nat} {av : List Value} (hy : plainName y.cls = true) (hyc : y.cls = "SchemaJudgeLaw") (ha : (lg_sl av).length ≤ maxL)
    (body : ∀ (p : Program) (e : Env) (s : State) (m : MethodId) (below : List Frame) (meth : Method) (c : Code) (ls : Array Slot) (Q : State → Prop) (A : Nat → Prop), CallFix p m c cc maxL s av.toArray W0 "SchemaJudgeLaw" → c.exceptionTable.toList = tableOf hh → eN s → va_K D vwCl tys s → va_P D vwCl ws s.heap → va_D A ws → (∀ q, s.heap.size ≤ q → A q) → va_S A s.heap s.heap [] → eX A s s.heap → lv_has ls maxL (lv_args 0 av) →
      (∀ (u : S') (ls : Array Slot) (pc : Nat) (H : Heap) (locs : List Loc) (k j : Nat) (v : Int32), r u = v → decode cc pc = .ok (.ireturn, 1) → k ≤ 1 → j ≤ 6 → post u → va_P D vwCl (wf u) H → va_D A (wf u) → va_S A s.heap H locs → W p l e (rmX f n) s m av.toArray below meth c H locs k j Q (F0 m pc ls [.int v])) →
      W p l e (rmX f n) s m av.toArray below meth c s.heap [] 0 0 Q (F0 m 0 ls [])) : Hm l y cc maxL (some .int) hh f n av D tys ws post (fun u => some (.int (r u))) wf := by
  intro sz
  refine vx_ofWH (cc := cc) (maxL := maxL) (ret := some .int) (hh := hh) hy rfl ?_
  intro p e s m args below meth c s₁ B0 hml hv
  obtain ⟨rfl, ⟨⟨hsz, hP, hK, hD0⟩, hX⟩, hN⟩ := hv
  subst hsz
  have hts : ∀ w ∈ W0, w.before av.toArray s = true := fun w h => atoms_spec (ws := Cond.codeWith y cc maxL (some .int) hh :: W0) B0.pre w (List.mem_cons_of_mem _ h)
  have htab := vx_table (x := y) B0 (atoms_spec (ws := Cond.codeWith y cc maxL (some .int) hh :: W0) B0.pre _ List.mem_cons_self)
  have hown : s.vm.findClass y.cls = some m.cls := findClass_of_methodNamed B0.named
  rw [hyc] at hown
  have hlocks : meth.locks = false := B0.notSynchronized
  have hl := lv_entry av (n := maxL) ha
  rw [lg_entry_eq]
  generalize (lg_sl av ++ List.replicate (maxL - (lg_sl av).length) Slot.unset).toArray = ls at hl ⊢
  refine body p e s m below meth c ls _ (va_A ws s.heap.size) ⟨B0.exec, B0.bytes, hml, hown, hts⟩ htab hN hK hP (hD0.self (sz := s.heap.size)) (fun q h => Or.inr h) va_S.rf hX hl ?_
  intro u ls pc H locs k j v hv hd hk hj hp hP1 hD1 hS1
  subst hv
  refine W.widen (k := 1) (n := 6) hk hj (vx_ret ?_)
  exact W.zret B0.exec B0.bytes B0.returns rfl (fun t ht hW => ⟨⟨u, rfl, hp, by rw [ht]; exact hP1, va_K.moved hW.alike hK, hD1⟩, hS1.F ht⟩) hS1.2.2 hd hlocks
