/-! ===== worlds in two blocks: the callee has one of them ===== -/
theorem va_P.l {D : va_G} {cl : List vw_C} {w1 w2 : va_W} {H : Heap} (h : va_P D cl (w1 ++ w2) H) : va_P D cl w1 H := fun k q hk =>
  h k q (by rw [List.getElem?_append_left (List.getElem?_eq_some_iff.mp hk).1]; exact hk)
theorem va_P.r {D : va_G} {cl : List vw_C} {w1 w2 : va_W} {H : Heap} (h : va_P D cl (w1 ++ w2) H) : va_P D cl w2 H := fun k q hk =>
  h (w1.length + k) q (by rw [List.getElem?_append_right (Nat.le_add_right _ _), Nat.add_sub_cancel_left]; exact hk)
theorem ap_l {w1 w2 : va_W} {k : Nat} {q : Nat × va_E} (hk : w1[k]? = some q) : (w1 ++ w2)[k]? = some q := by rw [List.getElem?_append_left (List.getElem?_eq_some_iff.mp hk).1]; exact hk
theorem ap_r {w1 w2 : va_W} {k : Nat} {q : Nat × va_E} (hk : w2[k]? = some q) : (w1 ++ w2)[w1.length + k]? = some q := by rw [List.getElem?_append_right (Nat.le_add_right _ _), Nat.add_sub_cancel_left]; exact hk
theorem va_D.l {A : Nat → Prop} {w1 w2 : va_W} (h : va_D A (w1 ++ w2)) : va_D A w1 := ⟨fun i j p q h1 h2 e => h.1 i j p q (ap_l h1) (ap_l h2) e, fun k q hk => h.2 k q (ap_l hk)⟩
theorem va_D.r {A : Nat → Prop} {w1 w2 : va_W} (h : va_D A (w1 ++ w2)) : va_D A w2 := ⟨fun i j p q h1 h2 e => by have := h.1 _ _ p q (ap_r h1) (ap_r h2) e; omega, fun k q hk => h.2 _ q (ap_r hk)⟩
theorem va_P.swap2 {D : va_G} {cl : List vw_C} {w1 w2 : va_W} {H : Heap} (h : va_P D cl (w1 ++ w2) H) : va_P D cl (w2 ++ w1) H := h.r.app h.l
theorem va_D.swap2 {A : Nat → Prop} {w1 w2 : va_W} (h : va_D A (w1 ++ w2)) : va_D A (w2 ++ w1) := va_D.app h.r h.l (fun i j p q h1 h2 e => by
  have := h.1 _ _ p q (ap_r h1) (ap_l h2) e
  have := (List.getElem?_eq_some_iff.mp h2).1
  omega)
theorem nd_r : ∀ (n s : Nat), va_nd (List.range' s n) = true
  | 0, _ => rfl
  | n + 1, s => by
    rw [List.range'_succ, va_nd, nd_r n (s + 1), Bool.and_true, decide_eq_true_eq, List.mem_range'_1]; omega
theorem rg_m {f : Nat → Option (Nat × va_E)} : ∀ (w : va_W) (s : Nat), (∀ i, i < w.length → f (s + i) = w[i]?) → (List.range' s w.length).map f = w.map some
  | [], _, _ => rfl
  | q :: w, s, h => by
    have h0 : f s = some q := by have := h 0 (by simp); simpa using this
    rw [List.length_cons, List.range'_succ, List.map_cons, List.map_cons, h0, rg_m w (s + 1) (fun i hi => by
      have := h (i + 1) (by simp; omega)
      rw [show s + 1 + i = s + (i + 1) by omega, this, List.getElem?_cons_succ])]
theorem rg_f {f : Nat → Option (Nat × va_E)} : ∀ (w : va_W) (s : Nat), (∀ i, i < w.length → f (s + i) = w[i]?) → (List.range' s w.length).filterMap f = w
  | [], _, _ => rfl
  | q :: w, s, h => by
    have h0 : f s = some q := by have := h 0 (by simp); simpa using this
    rw [List.length_cons, List.range'_succ, List.filterMap_cons, h0, rg_f w (s + 1) (fun i hi => by
      have := h (i + 1) (by simp; omega)
      rw [show s + 1 + i = s + (i + 1) by omega, this, List.getElem?_cons_succ])]
theorem rg_1 {w1 w2 : va_W} : ∀ i, i < w1.length → (w1 ++ w2)[0 + i]? = w1[i]? := fun i hi => by rw [Nat.zero_add, List.getElem?_append_left hi]
theorem rg_2 {w1 w2 : va_W} : ∀ i, i < w2.length → (w1 ++ w2)[w1.length + i]? = w2[i]? := fun i _ => by rw [List.getElem?_append_right (Nat.le_add_right _ _), Nat.add_sub_cancel_left]
theorem rg_d {n k : Nat} : ∀ i ∈ List.range' n k, i ∉ List.range' 0 n := fun i h1 h2 => by
  rw [List.mem_range'_1] at h1 h2; omega
theorem rg_d' {n k : Nat} : ∀ i ∈ List.range' 0 n, i ∉ List.range' n k := fun i h1 h2 => by
  rw [List.mem_range'_1] at h1 h2; omega
section Two
variable {p : Program} {l : Launch} {e : Env} {R : Room} {s : State} {m : MethodId} {args : Array Value} {below : List Frame} {meth : Method} {c : Code} {H : Heap} {locs : List Loc} {cells slots : Nat} {Q : State → Prop}
/-- a call of a helper, that has the first block -/
theorem hc_1 {S' : Type} {post : S' → Prop} {r : S' → Option Value} {wf : S' → va_W} {D : va_G} {tys : List (ClassId × FieldType)} {w1 w2 : va_W} {A : Nat → Prop} {y : MethodName} {bytes cc : ByteArray} {maxL nL f n index pc : Nat} {ret : Option FieldType} {hh : List (Nat × Nat × Nat × Nat)} {own : String} {As rest st0 : List Value} {ls : Array Slot}
    (S : CallFix p m c cc nL s args W0 own) (hM : Hm l y bytes maxL ret hh f n As D tys w1 post r wf)
    (hk : Cond.codeWith y bytes maxL ret hh ∈ W0) (hi : Cond.static y ∈ W0) (ho : Cond.initialized y.cls ∈ W0) (hl : Cond.methodLink own index y ∈ W0)
    (hd : y.cls ≠ "java/lang/invoke/MethodHandle" ∧ y.cls ≠ "java/lang/invoke/VarHandle" ∧ (parseMethodDescriptor y.desc).map (fun d => d.parameters.length) = some As.length)
    (hRf : f + 1 ≤ R.frames) (hRl : 8 + (maxL + 11) + n ≤ R.locals) (hRc : cells + 1 ≤ R.cells ∧ slots + 6 ≤ R.slots)
    (hK : va_K D vwCl tys s) (hP : va_P D vwCl (w1 ++ w2) H) (hD : va_D A (w1 ++ w2)) (hS : va_S A s.heap H locs) (hA : ∀ q, s.heap.size ≤ q → A q) (hX : eX A s s.heap) (hN : eN s)
    (hsize : ls.size = nL) (hst : st0 = As.reverse ++ rest) (hW : (rest.map fun v => v.category).sum ≤ 8) (hdg : decode cc pc = .ok (.invokestatic index, 3))
    (kk : ∀ (u : S') (H1 : Heap) (locs1 : List Loc), post u → va_P D vwCl (wf u ++ w2) H1 → va_D A (wf u ++ w2) → va_S A s.heap H1 locs1 → W p l e R s m args below meth c H1 locs1 (cells + 1) (slots + 6) Q (F0 m (pc + 3) ls ((r u).toList ++ rest))) :
    W p l e R s m args below meth c H locs cells slots Q (F0 m pc ls st0) :=
  hc_S S hM hk hi ho hl hd hRf hRl hRc hK hP hD hS hA hX hN (List.range' 0 w1.length) (List.range' w1.length w2.length) (rg_m w1 0 rg_1) (rg_f w1 0 rg_1) (rg_m w2 _ rg_2) (nd_r _ _) (nd_r _ _) rg_d hsize hst hW hdg (fun u H1 locs1 hp hP hD hS => kk u H1 locs1 hp hP.swap2 hD.swap2 hS)
/-- a call on an object, of a method that has the second block -/
theorem wc_2 {S' : Type} {post : S' → Prop} {r : S' → Option Value} {wf : S' → va_W} {D : va_G} {tys : List (ClassId × FieldType)} {w1 w2 : va_W} {A : Nat → Prop} {y : MethodName} {bytes cc : ByteArray} {maxL nL f n index pc : Nat} {ret : Option FieldType} {own : String} {b : Addr} {As rest st0 : List Value} {ls : Array Slot}
    (S : CallFix p m c cc nL s args W0 own) (hM : Wm l y bytes maxL ret f n (.ref b :: As) D tys w2 post r wf)
    (hk : Cond.code y bytes maxL ret ∈ W0) (hi : Cond.instanceMethod y ∈ W0) (he : Cond.selects y.cls y y ∈ W0) (ho : Cond.initialized y.cls ∈ W0) (hl : Cond.methodLink own index y ∈ W0)
    (hd : y.cls ≠ "java/lang/invoke/MethodHandle" ∧ y.cls ≠ "java/lang/invoke/VarHandle" ∧ (parseMethodDescriptor y.desc).map (fun d => d.parameters.length) = some As.length)
    (hRf : f + 1 ≤ R.frames) (hRl : 8 + (maxL + 11) + n ≤ R.locals) (hRc : cells ≤ R.cells ∧ slots ≤ R.slots)
    (recv : ∃ cellB : Cell, H[b]? = some cellB ∧ cellB.vm.isStatics = false ∧ s.vm.findClass y.cls = some cellB.cls)
    (hK : va_K D vwCl tys s) (hP : va_P D vwCl (w1 ++ w2) H) (hD : va_D A (w1 ++ w2)) (hS : va_S A s.heap H locs) (hA : ∀ q, s.heap.size ≤ q → A q)
    (hsize : ls.size = nL) (hst : st0 = As.reverse ++ .ref b :: rest) (hW : (rest.map fun v => v.category).sum ≤ 8) (hdg : decode cc pc = .ok (.invokevirtual index, 3))
    (kk : ∀ (u : S') (H1 : Heap) (locs1 : List Loc), post u → va_P D vwCl (w1 ++ wf u) H1 → va_D A (w1 ++ wf u) → va_S A s.heap H1 locs1 → W p l e R s m args below meth c H1 locs1 cells slots Q (F0 m (pc + 3) ls ((r u).toList ++ rest))) :
    W p l e R s m args below meth c H locs cells slots Q (F0 m pc ls st0) :=
  wc_V S hM hk hi he ho hl hd hRf hRl hRc recv hK hP hD hS hA (List.range' w1.length w2.length) (List.range' 0 w1.length) (rg_m w2 _ rg_2) (rg_f w2 _ rg_2) (rg_m w1 0 rg_1) (nd_r _ _) (nd_r _ _) rg_d' hsize hst hW hdg kk
end Two
