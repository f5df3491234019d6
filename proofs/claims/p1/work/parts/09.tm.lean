/-! ===== methods that may throw ===== -/
def rmX (f n : Nat) : Room := { frames := f, cells := 1, slots := 6, locals := n }
/-- a throw stands at pc: new; dup; ldc; invokespecial; athrow -/
def ThrOK (E : String) (ik is ic : Nat) (tx : String) (cc : ByteArray) (pc : Nat) : Prop :=
  ExcOK E ik ic ∧ (is, tx) ∈ STRS ∧ decode cc pc = .ok (.new ik, 3) ∧ decode cc (pc + 3) = .ok (.dup, 1) ∧ decode cc (pc + 4) = .ok (.ldc is, 2) ∧ decode cc (pc + 6) = .ok (.invokespecial ic, 3) ∧ decode cc (pc + 9) = .ok (.athrow, 1)
section Throws
variable {p : Program} {l : Launch} {e : Env} {R : Room} {s : State} {m : MethodId} {args : Array Value} {below : List Frame} {meth : Method} {c : Code} {H : Heap} {locs : List Loc} {cells slots : Nat} {Q : State → Prop}
def wE (D : va_G) (tys : List (ClassId × FieldType)) (ws : va_W) (sz : Nat) : State → Prop := fun U => wC D tys ws sz U ∧ eX (va_A ws sz) U U.heap
theorem wE_blind {D : va_G} {tys : List (ClassId × FieldType)} {ws : va_W} {sz : Nat} {av : List Value} : FrameBlind (va_Pc av (wE D tys ws sz)) :=
  fun a U g mk h => ⟨h.1, (wC_blind (av := av) a U g mk ⟨h.1, h.2.1⟩).2, h.2.2.calling⟩
theorem wE_at {D : va_G} {tys : List (ClassId × FieldType)} {ws : va_W} {A : Nat → Prop} (hP : va_P D vwCl ws H) (hK : va_K D vwCl tys s) (hD : va_D A ws) (hX : eX A s s.heap) (hS : va_S A s.heap H locs) (hF : ∀ q, va_A ws H.size q → A q) : ∀ U : State, U.heap = H → s.WarmedH U.vm → wE D tys ws H.size U :=
  fun U hU hW => ⟨wC_at hP hK hD U hU hW, by rw [hU]; exact ((hX.kept hS.2.1).narrow hF).warm hW⟩
def wXC {SX : Type} (px : String → SX → Prop) (wx : SX → va_W) (D : va_G) (tys : List (ClassId × FieldType)) (A : Nat → Prop) : String → State → State → Prop := fun E st t =>
  (∃ u : SX, px E u ∧ va_P D vwCl (wx u) t.heap ∧ va_K D vwCl tys t ∧ va_D A (wx u)) ∧ va_F A st t
def Tm {S SX : Type} (l : Launch) (y : MethodName) (cc : ByteArray) (maxL : Nat) (ret : Option FieldType) (f n : Nat) (av : List Value) (D : va_G) (tys : List (ClassId × FieldType)) (ws : va_W) (post : S → Prop) (r : S → Option Value) (wf : S → va_W) (px : String → SX → Prop) (wx : SX → va_W) : Prop :=
  ∀ sz, vx_Met l y (Cond.code y cc maxL ret :: W0) (rmX f n) (va_Pc av (wE D tys ws sz)) (wQ post r wf D tys (va_A ws sz)) (wXC px wx D tys (va_A ws sz)) 1 6 (va_A ws sz)
theorem xq_call {S SX : Type} {post : S → Prop} {r : S → Option Value} {wf : S → va_W} {px : String → SX → Prop} {wx : SX → va_W} {D : va_G} {tys : List (ClassId × FieldType)} {ws wc wr : va_W} {A : Nat → Prop} {pc : Nat} {ls : Array Slot} {st0 rest : List Value} {a : Array Value}
    (hr : vx_Run p l e R s m args below meth c H locs cells slots 1 6 (F0 m pc ls st0) rest (wQ post r wf D tys (va_A wc H.size) a) (wXC px wx D tys (va_A wc H.size)) (va_A wc H.size)) (hS : va_S A s.heap H locs) (hP : va_P D vwCl ws H) (hD : va_D A ws) (hA : ∀ q, s.heap.size ≤ q → A q)
    (isC isR : List Nat) (hC : isC.map (fun i => ws[i]?) = wc.map some) (hR : isR.map (fun i => ws[i]?) = wr.map some) (hn : va_nd isR = true) (hdis : ∀ i ∈ isR, i ∉ isC)
    (kx : ∀ (u : SX) (E : String) (ce : Cell) (q : Addr) (H1 : Heap) (locs1 : List Loc), px E u → H1[q]? = some ce → ce.vm = .none → s.vm.findClass E = some ce.cls → va_P D vwCl (wr ++ wx u) H1 → va_D A (wr ++ wx u) → va_S A s.heap H1 locs1 → vx_W p l e R s m args below meth c H1 locs1 (cells + 1) (slots + 6) Q (F0 m pc ls rest) q)
    (kk : ∀ (u : S) (H1 : Heap) (locs1 : List Loc), post u → va_P D vwCl (wr ++ wf u) H1 → va_D A (wr ++ wf u) → va_S A s.heap H1 locs1 → W p l e R s m args below meth c H1 locs1 (cells + 1) (slots + 6) Q (F0 m (pc + 3) ls ((r u).toList ++ rest))) :
    W p l e R s m args below meth c H locs cells slots Q (F0 m pc ls st0) := by
  have hF := va_free (wc := wc) hD hS hA isC hC
  intro T hT X
  rcases hr T hT X with ⟨v, st₀, t, T', L, h0, X', hL, e1, e2, ⟨⟨u, hv, hp, hP1, hK1, hD1⟩, hz, hk⟩, st⟩ | ⟨q, st₀, t, T', L, E, ce, h0, X', hL, e1, e2, ⟨⟨u, hp, hP1, hK1, hD1⟩, hz, hk⟩, hce, hcv, hcl, st⟩
  · cases hv
    rw [h0] at hz hk
    have hk1 : ∀ q : Nat, q < H.size → ¬ va_A wc H.size q → T'.heap[q]? = H[q]? := fun q h1 h2 => by rw [e1]; exact hk q h1 h2
    obtain ⟨hPn, hDn⟩ := va_join (wr := wr) (w1 := wf u) hP hD isC isR hC hR hn hdis hk1 hF (by rw [e1]; exact hP1) hD1
    obtain ⟨t2, a1, b1⟩ := kk u T'.heap (locs ++ L) hp hPn hDn ⟨Nat.le_trans hS.1 (by rw [e1]; exact hz), fun q h1 h2 => by
        rw [hk1 q (Nat.lt_of_lt_of_le h1 hS.1) (fun z => h2 (hF q z))]
        exact hS.2.1 q h1 h2, fun q hq => by
        rcases List.mem_append.mp hq with h | h
        · exact hS.2.2 q h
        · exact hF _ (hL q h)⟩ T' rfl X'
    exact ⟨t2, st t2 a1, b1⟩
  · rw [h0] at hz hk
    have hk1 : ∀ q : Nat, q < H.size → ¬ va_A wc H.size q → T'.heap[q]? = H[q]? := fun q h1 h2 => by rw [e1]; exact hk q h1 h2
    obtain ⟨hPn, hDn⟩ := va_join (wr := wr) (w1 := wx u) hP hD isC isR hC hR hn hdis hk1 hF (by rw [e1]; exact hP1) hD1
    obtain ⟨t2, a1, b1⟩ := kx u E ce q T'.heap (locs ++ L) hp (by rw [e1]; exact hce) hcv hcl hPn hDn ⟨Nat.le_trans hS.1 (by rw [e1]; exact hz), fun q h1 h2 => by
        rw [hk1 q (Nat.lt_of_lt_of_le h1 hS.1) (fun z => h2 (hF q z))]
        exact hS.2.1 q h1 h2, fun q hq => by
        rcases List.mem_append.mp hq with h | h
        · exact hS.2.2 q h
        · exact hF _ (hL q h)⟩ T' rfl X'
    exact ⟨t2, st.trans a1, b1⟩
theorem cb_ofX {y : MethodName} {bytes : ByteArray} {maxL f n k index : Nat} {ret : Option FieldType} {own : String} (hts : ∀ w ∈ W0, w.before args s = true) (hk : Cond.code y bytes maxL ret ∈ W0) (ho : Cond.initialized y.cls ∈ W0) (hl : Cond.methodLink own index y ∈ W0)
    (hd : y.cls ≠ "java/lang/invoke/MethodHandle" ∧ y.cls ≠ "java/lang/invoke/VarHandle" ∧ (parseMethodDescriptor y.desc).map (fun d => d.parameters.length) = some k) (hRf : f + 1 ≤ R.frames) (hRl : 8 + (maxL + 11) + n ≤ R.locals) :
    CallB R s args own index y bytes maxL ret (Cond.code y bytes maxL ret :: W0) (rmX f n) 1 6 k :=
  callB_of k hts (W0_cons hk) rfl rfl rfl (hts _ ho) (hts _ hl) hd ⟨hRf, hRl⟩
/-- a call of a method that may throw, on an object -/
theorem xc_V {S' SX : Type} {post : S' → Prop} {r : S' → Option Value} {wf : S' → va_W} {px : String → SX → Prop} {wx : SX → va_W} {D : va_G} {tys : List (ClassId × FieldType)} {ws wc wr : va_W} {A : Nat → Prop} {y : MethodName} {bytes cc : ByteArray} {maxL nL f n index pc : Nat} {ret : Option FieldType} {own : String} {b : Addr} {As rest st0 : List Value} {ls : Array Slot}
    (S : CallFix p m c cc nL s args W0 own) (hM : Tm l y bytes maxL ret f n (.ref b :: As) D tys wc post r wf px wx)
    (hk : Cond.code y bytes maxL ret ∈ W0) (hi : Cond.instanceMethod y ∈ W0) (he : Cond.selects y.cls y y ∈ W0) (ho : Cond.initialized y.cls ∈ W0) (hl : Cond.methodLink own index y ∈ W0)
    (hd : y.cls ≠ "java/lang/invoke/MethodHandle" ∧ y.cls ≠ "java/lang/invoke/VarHandle" ∧ (parseMethodDescriptor y.desc).map (fun d => d.parameters.length) = some As.length)
    (hRf : f + 1 ≤ R.frames) (hRl : 8 + (maxL + 11) + n ≤ R.locals) (hRc : cells + 1 ≤ R.cells ∧ slots + 6 ≤ R.slots)
    (recv : ∃ cellB : Cell, H[b]? = some cellB ∧ cellB.vm.isStatics = false ∧ s.vm.findClass y.cls = some cellB.cls)
    (hK : va_K D vwCl tys s) (hP : va_P D vwCl ws H) (hD : va_D A ws) (hS : va_S A s.heap H locs) (hA : ∀ q, s.heap.size ≤ q → A q) (hX : eX A s s.heap)
    (isC isR : List Nat) (hC : isC.map (fun i => ws[i]?) = wc.map some) (hC2 : isC.filterMap (fun i => ws[i]?) = wc) (hR : isR.map (fun i => ws[i]?) = wr.map some) (hnC : va_nd isC = true) (hn : va_nd isR = true) (hdis : ∀ i ∈ isR, i ∉ isC)
    (hsize : ls.size = nL) (hst : st0 = As.reverse ++ .ref b :: rest) (hW : (rest.map fun v => v.category).sum ≤ 8) (hdg : decode cc pc = .ok (.invokevirtual index, 3))
    (kx : ∀ (u : SX) (E : String) (ce : Cell) (q : Addr) (H1 : Heap) (locs1 : List Loc), px E u → H1[q]? = some ce → ce.vm = .none → s.vm.findClass E = some ce.cls → va_P D vwCl (wr ++ wx u) H1 → va_D A (wr ++ wx u) → va_S A s.heap H1 locs1 → vx_W p l e R s m args below meth c H1 locs1 (cells + 1) (slots + 6) Q (F0 m pc ls rest) q)
    (kk : ∀ (u : S') (H1 : Heap) (locs1 : List Loc), post u → va_P D vwCl (wr ++ wf u) H1 → va_D A (wr ++ wf u) → va_S A s.heap H1 locs1 → W p l e R s m args below meth c H1 locs1 (cells + 1) (slots + 6) Q (F0 m (pc + 3) ls ((r u).toList ++ rest))) :
    W p l e R s m args below meth c H locs cells slots Q (F0 m pc ls st0) := by
  subst hst
  have hts := S.2.2.2.2
  have hF := va_free (wc := wc) hD hS hA isC hC
  exact xq_call (a := (Value.ref b :: As).toArray) (vx_runV S (hM H.size) ⟨cb_ofX hts hk ho hl hd hRf hRl, hts _ hi, hts _ he⟩ ⟨wE_blind, recv, fun U hU hW => ⟨rfl, wE_at (hP.sub isC hC2) hK (hD.sub isC hnC hC) hX hS hF U hU hW⟩⟩ rfl rfl hsize rfl (lv_room hW) hdg hRc) hS hP hD hA isC isR hC hR hn hdis kx kk
theorem va_P.more {D : va_G} {cl : List vw_C} {ws : va_W} {H H1 : Heap} (h : va_P D cl ws H) (hq : ∀ q : Nat, q < H.size → H1[q]? = H[q]?) : va_P D cl ws H1 := h.kept (fun k q hk => hq q.1 (h k q hk).lt)
/-- the throw itself: the world goes out as it stands -/
theorem thr_at {SX : Type} {px : String → SX → Prop} {wx : SX → va_W} {Qc : Array Value → State → Outcome → State → Prop} {D : va_G} {tys : List (ClassId × FieldType)} {A : Nat → Prop} {cc : ByteArray} {nL pc ik is ic : Nat} {E tx : String} {ls : Array Slot} {rest : List Value} {free : Addr → Prop}
    (S : CallFix p m c cc nL s args W0 "SchemaJudge") (hls : l.stackTraces = false) (hlocks : meth.locks = false) (hnt : ∀ x ∈ c.exceptionTable.toList, False) (hX : eX A s s.heap) (hK : va_K D vwCl tys s) (hS : va_S A s.heap H locs) (hfr : ∀ q, A q → free q)
    (T : ThrOK E ik is ic tx cc pc) (hsize : ls.size = nL) (hW : (rest.map fun v => v.category).sum ≤ 8) (hRf : 6 ≤ R.frames) (hRl : 90 ≤ R.locals) (hRc : cells + 1 ≤ R.cells) (hRs : slots + 6 ≤ R.slots) (hc1 : cells + 1 ≤ 1) (hs1 : slots + 6 ≤ 6)
    (u : SX) (hp : px E u) (hP : va_P D vwCl (wx u) H) (hD : va_D A (wx u)) :
    W p l e R s m args below meth c H locs cells slots (vx_MQ below Qc (wXC px wx D tys A) args s 1 6 free) (F0 m pc ls rest) := by
  obtain ⟨hx, hb, hml, hown, hts⟩ := S
  obtain ⟨⟨hfit, hcl, hin, hg1, hg2, hot⟩, hst, d0, d3, d4, d6, d9⟩ := T
  obtain ⟨sa, hsa⟩ := hX.2.2.2.1 _ hst
  refine vx_throwS (own := "SchemaJudge") (cls := E) (text := tx) (names := rtN) (sa := sa) hx hb hls hown hfit (by decide +kernel) (hts _ hcl) (hts _ hin) hsa
    (vx_hat (fun w h => hts _ (hg1 w h)) hg2 (fun w h => va_Nw.use (show w.onTables = true by have := NG_ok w h; cases w <;> first | rfl | cases this) (hX.2.2.1 w h))) hot hX.1 hX.2.1 hS (hsize.trans hml.symm) d0 d3 d4 d6 d9
    (fun x hx => (hnt x hx).elim) (by show 2 + 3 < R.frames; omega) (by show _ + (13 * (2 + 1) + 43) ≤ R.locals; omega) hRc hRs hlocks ?_ (fun z hz => hfr _ (hS.2.2 z hz)) hc1 hs1
  intro t hvm hsz hk
  exact ⟨⟨u, hp, hP.more hk, va_K.moved hvm hK, hD⟩, Nat.le_trans hS.1 hsz, fun q h1 h2 => by rw [hk q (Nat.lt_of_lt_of_le h1 hS.1)]; exact hS.2.1 q h1 h2⟩
end Throws
/-- the contract of a method that may throw, out of its body's walk -/
theorem tm_of {S' SX : Type} {post : S' → Prop} {wf : S' → va_W} {rt : Option FieldType} {r : S' → Option Value} {px : String → SX → Prop} {wx : SX → va_W} {D : va_G} {tys : List (ClassId × FieldType)} {ws : va_W} {l : Launch} {y : MethodName} {cc : ByteArray} {maxL f n : Nat} {av : List Value} (hls : l.stackTraces = false) (hy : plainName y.cls = true) (hyc : y.cls = "SchemaJudge")
    (hrt : rt = none ∧ (∀ u, r u = none) ∨ ∃ (ty : FieldType) (r' : S' → Int32), rt = some ty ∧ (∀ u, r u = some (.int (r' u))) ∧ ∀ u, post u → narrow ty (.int (r' u)) = .int (r' u)) (ha : (lg_sl av).length ≤ maxL) (hf6 : 6 ≤ f) (hn90 : 90 ≤ n)
    (body : ∀ (p : Program) (e : Env) (s : State) (m : MethodId) (below : List Frame) (meth : Method) (c : Code) (ls : Array Slot) (Q : State → Prop) (A : Nat → Prop), CallFix p m c cc maxL s av.toArray W0 "SchemaJudge" → va_K D vwCl tys s → va_P D vwCl ws s.heap → va_D A ws → (∀ q, s.heap.size ≤ q → A q) → va_S A s.heap s.heap [] → eX A s s.heap → lv_has ls maxL (lv_args 0 av) →
      (∀ (u : S') (ls : Array Slot) (pc : Nat) (H : Heap) (locs : List Loc) (k j : Nat) (st : List Value), (rt = none ∧ st = [] ∧ decode cc pc = .ok (.return_, 1) ∨ ∃ v : Int32, st = [.int v] ∧ r u = some (.int v) ∧ decode cc pc = .ok (.ireturn, 1)) → k ≤ 1 → j ≤ 6 → post u → va_P D vwCl (wf u) H → va_D A (wf u) → va_S A s.heap H locs → W p l e (rmX f n) s m av.toArray below meth c H locs k j Q (F0 m pc ls st)) →
      (∀ (u : SX) (E : String) (ik is ic : Nat) (tx : String) (pc : Nat) (ls : Array Slot) (rest : List Value) (H : Heap) (locs : List Loc), ThrOK E ik is ic tx cc pc → ls.size = maxL → (rest.map fun v => v.category).sum ≤ 8 → px E u → va_P D vwCl (wx u) H → va_D A (wx u) → va_S A s.heap H locs → W p l e (rmX f n) s m av.toArray below meth c H locs 0 0 Q (F0 m pc ls rest)) →
      (∀ (u : SX) (E : String) (ce : Cell) (q : Addr) (pc : Nat) (ls : Array Slot) (rest : List Value) (H : Heap) (locs : List Loc) (k j : Nat), k ≤ 1 → j ≤ 6 → H[q]? = some ce → ce.vm = .none → s.vm.findClass E = some ce.cls → px E u → va_P D vwCl (wx u) H → va_D A (wx u) → va_S A s.heap H locs → vx_W p l e (rmX f n) s m av.toArray below meth c H locs k j Q (F0 m pc ls rest) q) →
      W p l e (rmX f n) s m av.toArray below meth c s.heap [] 0 0 Q (F0 m 0 ls [])) : Tm l y cc maxL rt f n av D tys ws post r wf px wx := by
  intro sz
  refine vx_ofW (cc := cc) (maxL := maxL) (ret := rt) hy rfl ?_
  intro p e s m args below meth c s₁ B0 hml hnt hv
  obtain ⟨rfl, ⟨hsz, hP, hK, hD0⟩, hX⟩ := hv
  subst hsz
  have hts : ∀ w ∈ W0, w.before av.toArray s = true := fun w h => atoms_spec (ws := Cond.code y cc maxL rt :: W0) B0.pre w (List.mem_cons_of_mem _ h)
  have hown : s.vm.findClass y.cls = some m.cls := findClass_of_methodNamed B0.named
  rw [hyc] at hown
  have hlocks : meth.locks = false := B0.notSynchronized
  have hl := lv_entry av (n := maxL) ha
  rw [lg_entry_eq]
  generalize (lg_sl av ++ List.replicate (maxL - (lg_sl av).length) Slot.unset).toArray = ls at hl ⊢
  refine body p e s m below meth c ls _ (va_A ws s.heap.size) ⟨B0.exec, B0.bytes, hml, hown, hts⟩ hK hP (hD0.self (sz := s.heap.size)) (fun q h => Or.inr h) va_S.rf hX hl ?_ ?_ ?_
  · intro u ls pc H locs k j st hst hk hj hp hP1 hD1 hS1
    refine W.widen (k := 1) (n := 6) hk hj (vx_ret ?_)
    rcases hst with ⟨h1, rfl, hd⟩ | ⟨v, rfl, hv, hd⟩
    · rcases hrt with ⟨-, h2⟩ | ⟨ty, r', h2, -⟩
      · exact W.vret B0.exec B0.bytes (by rw [B0.returns, h1]) (fun t ht hW => ⟨⟨u, by rw [h2 u], hp, by rw [ht]; exact hP1, va_K.moved hW.alike hK, hD1⟩, hS1.F ht⟩) hS1.2.2 hd hlocks
      · rw [h1] at h2; cases h2
    · rcases hrt with ⟨-, h2⟩ | ⟨ty, r', h2, h3, h4⟩
      · rw [h2 u] at hv; cases hv
      · rw [h3 u] at hv
        cases hv
        exact W.zret B0.exec B0.bytes (by rw [B0.returns, h2]) (h4 u hp) (fun t ht hW => ⟨⟨u, by rw [h3 u], hp, by rw [ht]; exact hP1, va_K.moved hW.alike hK, hD1⟩, hS1.F ht⟩) hS1.2.2 hd hlocks
  · intro u E ik is ic tx pc ls rest H locs T hsize hW hp hP1 hD1 hS1
    exact thr_at ⟨B0.exec, B0.bytes, hml, hown, hts⟩ hls hlocks hnt hX hK hS1 (fun _ h => h) T hsize hW hf6 hn90 (Nat.le_refl _) (Nat.le_refl _) (Nat.le_refl _) (Nat.le_refl _) u hp hP1 hD1
  · intro u E ce q pc ls rest H locs k j hk hj hce hcv hcl hp hP1 hD1 hS1
    exact vx_out (fun x hx => (hnt x hx).elim) hlocks hce hcv hcl (fun t ht hvm => ⟨⟨u, hp, by rw [ht]; exact hP1, va_K.moved hvm hK, hD1⟩, by rw [ht]; exact hS1.1, fun q h1 h2 => by rw [ht]; exact hS1.2.1 q h1 h2⟩) hS1.2.2 hk hj
