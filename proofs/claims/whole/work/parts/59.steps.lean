/-! ===== methods that change their world, and read what a throw or a static row asks for ===== -/
section Env
variable {p : Program} {l : Launch} {e : Env} {R : Room} {s : State} {m : MethodId} {args : Array Value} {below : List Frame} {meth : Method} {c : Code} {H : Heap} {locs : List Loc} {cells slots : Nat} {Q : State → Prop}
def Em {S : Type} (l : Launch) (y : MethodName) (cc : ByteArray) (maxL : Nat) (ret : Option FieldType) (f n : Nat) (av : List Value) (D : va_G) (tys : List (ClassId × FieldType)) (ws : va_W) (post : S → Prop) (r : S → Option Value) (wf : S → va_W) : Prop :=
  ∀ sz, Met l y (Cond.code y cc maxL ret :: W0) (k2_rm f n) (va_Pc av (wE D tys ws sz)) (wQ post r wf D tys (va_A ws sz)) 0 0 (va_A ws sz)
theorem ec_V {S' : Type} {post : S' → Prop} {r : S' → Option Value} {wf : S' → va_W} {D : va_G} {tys : List (ClassId × FieldType)} {ws wc wr : va_W} {A : Nat → Prop} {y : MethodName} {bytes cc : ByteArray} {maxL nL f n index pc : Nat} {ret : Option FieldType} {own : String} {b : Addr} {As rest st0 : List Value} {ls : Array Slot}
    (S : CallFix p m c cc nL s args W0 own) (hM : Em l y bytes maxL ret f n (.ref b :: As) D tys wc post r wf)
    (hk : Cond.code y bytes maxL ret ∈ W0) (hi : Cond.instanceMethod y ∈ W0) (he : Cond.selects y.cls y y ∈ W0) (ho : Cond.initialized y.cls ∈ W0) (hl : Cond.methodLink own index y ∈ W0)
    (hd : y.cls ≠ "java/lang/invoke/MethodHandle" ∧ y.cls ≠ "java/lang/invoke/VarHandle" ∧ (parseMethodDescriptor y.desc).map (fun d => d.parameters.length) = some As.length)
    (hRf : f + 1 ≤ R.frames) (hRl : 8 + (maxL + 11) + n ≤ R.locals) (hRc : cells ≤ R.cells ∧ slots ≤ R.slots)
    (recv : ∃ cellB : Cell, H[b]? = some cellB ∧ cellB.vm.isStatics = false ∧ s.vm.findClass y.cls = some cellB.cls)
    (hK : va_K D vwCl tys s) (hP : va_P D vwCl ws H) (hD : va_D A ws) (hS : va_S A s.heap H locs) (hA : ∀ q, s.heap.size ≤ q → A q) (hX : eX A s s.heap)
    (isC isR : List Nat) (hC : isC.map (fun i => ws[i]?) = wc.map some) (hC2 : isC.filterMap (fun i => ws[i]?) = wc) (hR : isR.map (fun i => ws[i]?) = wr.map some) (hnC : va_nd isC = true) (hn : va_nd isR = true) (hdis : ∀ i ∈ isR, i ∉ isC)
    (hsize : ls.size = nL) (hst : st0 = As.reverse ++ .ref b :: rest) (hW : (rest.map fun v => v.category).sum ≤ 8) (hdg : decode cc pc = .ok (.invokevirtual index, 3))
    (kk : ∀ (u : S') (H1 : Heap) (locs1 : List Loc), post u → va_P D vwCl (wr ++ wf u) H1 → va_D A (wr ++ wf u) → va_S A s.heap H1 locs1 → W p l e R s m args below meth c H1 locs1 cells slots Q (F0 m (pc + 3) ls ((r u).toList ++ rest))) :
    W p l e R s m args below meth c H locs cells slots Q (F0 m pc ls st0) := by
  subst hst
  have hts := S.2.2.2.2
  have hF := va_free (wc := wc) hD hS hA isC hC
  exact wq_call (a := (Value.ref b :: As).toArray) (va_runV S (hM H.size) ⟨cb_of hts hk ho hl hd hRf hRl, hts _ hi, hts _ he⟩ ⟨wE_blind, recv, fun U hU hW => ⟨rfl, wE_at (hP.sub isC hC2) hK (hD.sub isC hnC hC) hX hS hF U hU hW⟩⟩ rfl rfl hsize rfl (lv_room hW) hdg hRc) hS hP hD hA isC isR hC hR hn hdis kk
end Env
theorem em_v {S' : Type} {post : S' → Prop} {wf : S' → va_W} {D : va_G} {tys : List (ClassId × FieldType)} {ws : va_W} {l : Launch} {y : MethodName} {cc : ByteArray} {maxL f n : Nat} {av : List Value} (hy : plainName y.cls = true) (ha : (lg_sl av).length ≤ maxL)
    (body : ∀ (p : Program) (e : Env) (s : State) (m : MethodId) (below : List Frame) (meth : Method) (c : Code) (ls : Array Slot) (Q : State → Prop) (A : Nat → Prop), CallFix p m c cc maxL s av.toArray W0 y.cls → va_K D vwCl tys s → va_P D vwCl ws s.heap → va_D A ws → (∀ q, s.heap.size ≤ q → A q) → va_S A s.heap s.heap [] → eX A s s.heap → lv_has ls maxL (lv_args 0 av) →
      (∀ (u : S') (ls : Array Slot) (pc : Nat) (H : Heap) (locs : List Loc), decode cc pc = .ok (.return_, 1) → post u → va_P D vwCl (wf u) H → va_D A (wf u) → va_S A s.heap H locs → W p l e (k2_rm f n) s m av.toArray below meth c H locs 0 0 Q (F0 m pc ls [])) →
      W p l e (k2_rm f n) s m av.toArray below meth c s.heap [] 0 0 Q (F0 m 0 ls [])) : Em l y cc maxL none f n av D tys ws post (fun _ => none) wf := by
  intro sz
  refine Met.ofW (cc := cc) (maxL := maxL) (ret := none) hy rfl ?_
  intro p e s m args below meth c s₁ B0 hml hv
  obtain ⟨rfl, ⟨hsz, hP, hK, hD0⟩, hX⟩ := hv
  subst hsz
  have hts : ∀ w ∈ W0, w.before av.toArray s = true := fun w h => atoms_spec (ws := Cond.code y cc maxL none :: W0) B0.pre w (List.mem_cons_of_mem _ h)
  have hown : s.vm.findClass y.cls = some m.cls := findClass_of_methodNamed B0.named
  have hl := lv_entry av (n := maxL) ha
  rw [lg_entry_eq]
  generalize (lg_sl av ++ List.replicate (maxL - (lg_sl av).length) Slot.unset).toArray = ls at hl ⊢
  refine body p e s m below meth c ls _ (va_A ws s.heap.size) ⟨B0.exec, B0.bytes, hml, hown, hts⟩ hK hP (hD0.self (sz := s.heap.size)) (fun q h => Or.inr h) va_S.rf hX hl ?_
  intro u ls pc H locs hd hp hP1 hD1 hS1
  exact W.vret B0.exec B0.bytes B0.returns (fun t ht hW => ⟨⟨u, rfl, hp, by rw [ht]; exact hP1, va_K.moved hW.alike hK, hD1⟩, hS1.F ht⟩) hS1.2.2 hd B0.notSynchronized
theorem em_i {S' : Type} {post : S' → Prop} {wf : S' → va_W} {r : S' → Int32} {ty : FieldType} {D : va_G} {tys : List (ClassId × FieldType)} {ws : va_W} {l : Launch} {y : MethodName} {cc : ByteArray} {maxL f n : Nat} {av : List Value} (hy : plainName y.cls = true) (hr : ∀ u, post u → narrow ty (.int (r u)) = .int (r u)) (ha : (lg_sl av).length ≤ maxL)
    (body : ∀ (p : Program) (e : Env) (s : State) (m : MethodId) (below : List Frame) (meth : Method) (c : Code) (ls : Array Slot) (Q : State → Prop) (A : Nat → Prop), CallFix p m c cc maxL s av.toArray W0 y.cls → va_K D vwCl tys s → va_P D vwCl ws s.heap → va_D A ws → (∀ q, s.heap.size ≤ q → A q) → va_S A s.heap s.heap [] → eX A s s.heap → lv_has ls maxL (lv_args 0 av) →
      (∀ (u : S') (v : Int32) (ls : Array Slot) (pc : Nat) (H : Heap) (locs : List Loc), decode cc pc = .ok (.ireturn, 1) → post u → v = r u → va_P D vwCl (wf u) H → va_D A (wf u) → va_S A s.heap H locs → W p l e (k2_rm f n) s m av.toArray below meth c H locs 0 0 Q (F0 m pc ls [.int v])) →
      W p l e (k2_rm f n) s m av.toArray below meth c s.heap [] 0 0 Q (F0 m 0 ls [])) : Em l y cc maxL (some ty) f n av D tys ws post (fun u => some (.int (r u))) wf := by
  intro sz
  refine Met.ofW (cc := cc) (maxL := maxL) (ret := some ty) hy rfl ?_
  intro p e s m args below meth c s₁ B0 hml hv
  obtain ⟨rfl, ⟨hsz, hP, hK, hD0⟩, hX⟩ := hv
  subst hsz
  have hts : ∀ w ∈ W0, w.before av.toArray s = true := fun w h => atoms_spec (ws := Cond.code y cc maxL (some ty) :: W0) B0.pre w (List.mem_cons_of_mem _ h)
  have hown : s.vm.findClass y.cls = some m.cls := findClass_of_methodNamed B0.named
  have hl := lv_entry av (n := maxL) ha
  rw [lg_entry_eq]
  generalize (lg_sl av ++ List.replicate (maxL - (lg_sl av).length) Slot.unset).toArray = ls at hl ⊢
  refine body p e s m below meth c ls _ (va_A ws s.heap.size) ⟨B0.exec, B0.bytes, hml, hown, hts⟩ hK hP (hD0.self (sz := s.heap.size)) (fun q h => Or.inr h) va_S.rf hX hl ?_
  intro u v ls pc H locs hd hp hv hP1 hD1 hS1
  subst hv
  exact W.zret B0.exec B0.bytes B0.returns (hr u hp) (fun t ht hW => ⟨⟨u, rfl, hp, by rw [ht]; exact hP1, va_K.moved hW.alike hK, hD1⟩, hS1.F ht⟩) hS1.2.2 hd B0.notSynchronized
/-! ===== steps of a judging ===== -/
theorem pr_ne {s v x w : Nat} (hs : s < 24) (hx : x < 24) (h : ¬ (x = s ∧ w = v)) : w * 24 + x ≠ v * 24 + s := by
  intro e; apply h; omega
theorem JGood.keep {G : Sp} {ch ma ch' ma' : Nat → Int32} {br br' : Nat → Int64} {s v : Nat} (h : JGood G ch ma br s v) (e1 : ch' (v * 24 + s) = ch (v * 24 + s)) (e2 : ma' (v * 24 + s) = ma (v * 24 + s)) (e3 : br' (v * 24 + s) = br (v * 24 + s)) (hm : ∀ x w, Ask G s v x w → ¬ ch (w * 24 + x) = 0 → ¬ ch' (w * 24 + x) = 0) : JGood G ch' ma' br' s v := by
  obtain ⟨a1, a2, a3, a4⟩ := h
  exact ⟨by rw [e1]; exact a1, by rw [e3]; exact a2, by rw [e2]; exact a3, fun x w q => hm x w q (a4 x w q)⟩
/-- the own pair alone has changed, and is not unvisited -/
theorem Jinv.own {G : Sp} {R : Nat → Nat → Prop} {lv : Nat → Nat} {s v : Nat} {ch ma ch' ma' : Nat → Int32} {br br' : Nat → Int64} (hs : s < 24) (h : Jinv G R lv (mu lv s v) ch ma br) (e : ∀ q, q ≠ v * 24 + s → ch' q = ch q ∧ ma' q = ma q ∧ br' q = br q) (hn : ¬ ch' (v * 24 + s) = 0) : Jinv G R lv (mu lv s v) ch' ma' br' := by
  intro x w hx hw hl
  have hne : w * 24 + x ≠ v * 24 + s := pr_ne hs hx (fun q => by rw [q.1, q.2] at hl; omega)
  obtain ⟨c1, c2, c3⟩ := e _ hne
  rcases h x w hx hw hl with q | ⟨q1, q2⟩
  · exact Or.inl ⟨by rw [c1]; exact q.1, by rw [c2]; exact q.2.1, by rw [c3]; exact q.2.2⟩
  · refine Or.inr ⟨q1, q2.keep c1 c2 c3 (fun y z _ k => ?_)⟩
    by_cases e2 : z * 24 + y = v * 24 + s
    · rw [e2]; exact hn
    · rw [(e _ e2).1]; exact k
theorem nI_nz {c : Nat} (h1 : 1 ≤ c) (h2 : c < 2 ^ 31) : ¬ nI c = 0 := fun e => by rw [nI_eq0 h2] at e; omega
theorem Fr.own {lv : Nat → Nat} {s v : Nat} {ch ma ch' ma' : Nat → Int32} {br br' : Nat → Int64} (hs : s < 24) (e : ∀ q, q ≠ v * 24 + s → ch' q = ch q ∧ ma' q = ma q ∧ br' q = br q) : Fr lv s v ch ma br ch' ma' br' :=
  fun x w hx _ hn _ => e _ (pr_ne hs hx hn)
theorem Ef.fail {G : Sp} {R : Nat → Nat → Prop} {lv : Nat → Nat} {s v dp k : Nat} {ch ma : Nat → Int32} {br : Nat → Int64} {tl : Int32} (hs : s < 24) (hk : k < 64) : Ef G R lv s v dp (fun _ _ => False) (fun b => b = k) (fun _ => False) True ch ma br tl ch ma (vp_updL br (v * 24 + s) (br (v * 24 + s) ||| (1 <<< ((nI k).toInt64 &&& 63)))) tl := by
  refine ⟨id, fun ht _ A B M h => Or.inr ⟨ht, ?_, Fr.own hs (fun q hq => ⟨rfl, rfl, updL_ne hq⟩), trivial⟩⟩
  obtain ⟨h1, ⟨c, h2, h3, h4⟩, h5, h6, h7⟩ := h
  refine ⟨Jinv.own hs h1 (fun q hq => ⟨rfl, rfl, updL_ne hq⟩) (by rw [h2]; exact nI_nz h3 (by omega)), ⟨c, h2, h3, h4.1, fun j hj => ?_⟩, fun x w q => h5 x w (q.elim id False.elim), fun b hb => ?_, fun i hi => ?_⟩
  · rw [h4.2 j hj]; simp
  · rw [updL_at, bL_or, bL_shl1 hk, Bool.or_eq_true, decide_eq_true_eq, h6 b hb]
  · rw [h7 i hi]; simp
theorem Ef.mark {G : Sp} {R : Nat → Nat → Prop} {lv : Nat → Nat} {s v dp : Nat} {ch ma : Nat → Int32} {br : Nat → Int64} {tl y : Int32} {M1 : Nat → Prop} (hs : s < 24) (hy : tl = 0 → R s v → (∃ A B M, St G R lv s v dp A B M ch ma br) → ∀ i, i < 32 → (bt y i = true ↔ M1 i)) : Ef G R lv s v dp (fun _ _ => False) (fun _ => False) M1 True ch ma br tl ch (upd ma (v * 24 + s) (ma (v * 24 + s) ||| y)) br tl := by
  refine ⟨id, fun ht hR A B M h => Or.inr ⟨ht, ?_, Fr.own hs (fun q hq => ⟨rfl, upd_ne hq, rfl⟩), trivial⟩⟩
  have hy := hy ht hR ⟨A, B, M, h⟩
  obtain ⟨h1, ⟨c, h2, h3, h4⟩, h5, h6, h7⟩ := h
  refine ⟨Jinv.own hs h1 (fun q hq => ⟨rfl, upd_ne hq, rfl⟩) (by rw [h2]; exact nI_nz h3 (by omega)), ⟨c, h2, h3, h4.1, fun j hj => ?_⟩, fun x w q => h5 x w (q.elim id False.elim), fun b hb => ?_, fun i hi => ?_⟩
  · rw [h4.2 j hj]; simp
  · rw [h6 b hb]; simp
  · rw [upd_at, b_or, Bool.or_eq_true, h7 i hi, hy i hi]
/-- what judging a pair leaves -/
def Wd (G : Sp) (R : Nat → Nat → Prop) (lv : Nat → Nat) (s v dp : Nat) (ch ma : Nat → Int32) (br : Nat → Int64) (tl : Int32) (ch' ma' : Nat → Int32) (br' : Nat → Int64) (tl' : Int32) : Prop :=
  (tl = 1 → tl' = 1) ∧ (tl = 0 → R s v → Jinv G R lv (mu lv s v) ch ma br → JZero ch ma br s v → dp ≤ 30 → (tl' = 1 ∧ Path G (32 - dp) s v) ∨ (tl' = 0 ∧ JGood G ch' ma' br' s v ∧ Jinv G R lv (mu lv s v) ch' ma' br' ∧ Fr lv s v ch ma br ch' ma' br'))
/-- a chain grows by an asked pair that is done -/
theorem St.grow {G : Sp} {R : Nat → Nat → Prop} {lv : Nat → Nat} {s v dp x w c cx : Nat} {A : Nat → Nat → Prop} {B M : Nat → Prop} {ch ma : Nat → Int32} {br : Nat → Int64} (hs : s < 24) (h : St G R lv s v dp A B M ch ma br) (ha : Ask G s v x w) (hne : w * 24 + x ≠ v * 24 + s) (hc : ch (v * 24 + s) = nI c) (hc31 : c < 2 ^ 30) (hcx : ch (w * 24 + x) = nI cx) (h1 : 1 ≤ cx) (h30 : cx ≤ 30) (hd : dp + cx ≤ 30) (hp : ∀ j, 1 ≤ j → (j ≤ cx ↔ Path G j x w)) :
    St G R lv s v dp (fun x' w' => A x' w' ∨ (x' = x ∧ w' = w)) B M (upd ch (v * 24 + s) (nI (max c (cx + 1)))) ma br := by
  obtain ⟨h1', ⟨c', h2, h3, h4⟩, h5, h6, h7⟩ := h
  have hcc : c' = c := by rw [hc, nI_eq (by omega) (by omega)] at h2; exact h2.symm
  subst hcc
  have hnz : ¬ upd ch (v * 24 + s) (nI (max c' (cx + 1))) (v * 24 + s) = 0 := by rw [upd_at]; exact nI_nz (by omega) (by omega)
  refine ⟨Jinv.own hs h1' (fun q hq => ⟨upd_ne hq, rfl, rfl⟩) hnz, ⟨max c' (cx + 1), upd_at, by omega, by omega, fun j hj => ?_⟩, fun x' w' q => ?_, h6, h7⟩
  · have e1 : j ≤ max c' (cx + 1) ↔ j ≤ c' ∨ j ≤ cx + 1 := by omega
    rw [e1, h4.2 j hj]
    constructor
    · rintro ((q | ⟨x', w', q1, q2⟩) | q)
      · exact Or.inl q
      · exact Or.inr ⟨x', w', Or.inl q1, q2⟩
      · by_cases e2 : j = 1
        · exact Or.inl e2
        · exact Or.inr ⟨x, w, Or.inr ⟨rfl, rfl⟩, (hp (j - 1) (by omega)).mp (by omega)⟩
    · rintro (q | ⟨x', w', q1 | ⟨rfl, rfl⟩, q2⟩)
      · exact Or.inl (Or.inl q)
      · exact Or.inl (Or.inr ⟨x', w', q1, q2⟩)
      · by_cases e2 : j = 1
        · exact Or.inl (Or.inl e2)
        · have := (hp (j - 1) (by omega)).mpr q2
          exact Or.inr (by omega)
  · rcases q with q | ⟨rfl, rfl⟩
    · refine ⟨(h5 x' w' q).1, ?_⟩
      by_cases e2 : w' * 24 + x' = v * 24 + s
      · rw [e2]; exact hnz
      · rw [upd_ne e2]; exact (h5 x' w' q).2
    · exact ⟨ha, by rw [upd_ne hne, hcx]; exact nI_nz h1 (by omega)⟩
/-- the pair under way is kept while a lesser one is judged -/
theorem St.sub {G : Sp} {R : Nat → Nat → Prop} {lv : Nat → Nat} {s v dp x w : Nat} {A : Nat → Nat → Prop} {B M : Nat → Prop} {ch ma ch' ma' : Nat → Int32} {br br' : Nat → Int64} (hC : Ctx G R lv) (hR : R s v) (h : St G R lv s v dp A B M ch ma br) (hRx : R x w) (hl : mu lv x w < mu lv s v) (hg : JGood G ch' ma' br' x w) (hj : Jinv G R lv (mu lv x w) ch' ma' br') (hf : Fr lv x w ch ma br ch' ma' br') : St G R lv s v dp A B M ch' ma' br' ∧ (JZero ch ma br x w → Fr lv s v ch ma br ch' ma' br') := by
  obtain ⟨h1, ⟨c, h2, h3, h4⟩, h5, h6, h7⟩ := h
  obtain ⟨hs, hv⟩ := hC.2.2.1 s v hR
  obtain ⟨hx, hw⟩ := hC.2.2.1 x w hRx
  have hne : ¬ (s = x ∧ v = w) := fun q => by rw [q.1, q.2] at hl; omega
  obtain ⟨o1, o2, o3⟩ := hf s v hs hv hne (Or.inl (by omega))
  have hgz : ¬ ch' (w * 24 + x) = 0 := by
    obtain ⟨⟨cx, e1, e2, e3, _⟩, _⟩ := hg
    rw [e1]; exact nI_nz e2 (by omega)
  have mono : ∀ y z, y < 24 → z < 40 → ¬ ch (z * 24 + y) = 0 → ¬ ch' (z * 24 + y) = 0 := fun y z hy hz q => by
    by_cases e : y = x ∧ z = w
    · rw [e.1, e.2]; exact hgz
    · rw [(hf y z hy hz e (Or.inr q)).1]; exact q
  refine ⟨⟨fun y z hy hz q => ?_, ⟨c, by rw [o1]; exact h2, h3, h4⟩, fun y z q => ⟨(h5 y z q).1, ?_⟩, by rw [o3]; exact h6, by rw [o2]; exact h7⟩, fun hz0 y z hy hz hn q => ?_⟩
  · by_cases e : y = x ∧ z = w
    · rw [e.1, e.2]; exact Or.inr ⟨hRx, hg⟩
    · by_cases e2 : mu lv y z < mu lv x w
      · exact hj y z hy hz e2
      · obtain ⟨k1, k2, k3⟩ := hf y z hy hz e (Or.inl (by omega))
        rcases h1 y z hy hz q with p | ⟨p1, p2⟩
        · exact Or.inl ⟨by rw [k1]; exact p.1, by rw [k2]; exact p.2.1, by rw [k3]; exact p.2.2⟩
        · refine Or.inr ⟨p1, p2.keep k1 k2 k3 (fun y' z' a b => ?_)⟩
          obtain ⟨r1, _⟩ := hC.2.1 y z y' z' p1 a
          obtain ⟨r2, r3⟩ := hC.2.2.1 y' z' r1
          exact mono y' z' r2 r3 b
  · obtain ⟨r1, _⟩ := hC.2.1 s v y z hR (h5 y z q).1
    obtain ⟨r2, r3⟩ := hC.2.2.1 y z r1
    exact mono y z r2 r3 (h5 y z q).2
  · by_cases e : y = x ∧ z = w
    · rw [e.1, e.2] at q
      rcases q with q | q
      · omega
      · exact absurd hz0.1 q
    · exact hf y z hy hz e (q.elim (fun q => Or.inl (by omega)) Or.inr)
/-- a pair is done -/
theorem St.done {G : Sp} {R : Nat → Nat → Prop} {lv : Nat → Nat} {s v dp : Nat} {B : Nat → Prop} {ch ma : Nat → Int32} {br : Nat → Int64} (hC : Ctx G R lv) (hR : R s v) (hd : 1 ≤ dp) (hB : ∀ b, B b ↔ b < 36 ∧ Bad G s v b) (h : St G R lv s v dp (Ask G s v) B (Mrk1 G s v) ch ma br) : JGood G ch (if br (v * 24 + s) = 0 then ma else upd ma (v * 24 + s) 0) br s v ∧ Jinv G R lv (mu lv s v) ch (if br (v * 24 + s) = 0 then ma else upd ma (v * 24 + s) 0) br := by
  obtain ⟨h1, ⟨c, h2, h3, h4⟩, h5, h6, h7⟩ := h
  obtain ⟨hs, hv⟩ := hC.2.2.1 s v hR
  obtain ⟨f1, f2⟩ := hC.1 s v hR
  have hva : br (v * 24 + s) = 0 ↔ gVa G s v := by
    rw [bL_z, f1]
    constructor
    · intro q b hb hbad
      exact q b (by omega) ((h6 b (by omega)).mpr ((hB b).mpr ⟨hb, hbad⟩))
    · intro q i hi hb
      obtain ⟨b1, b2⟩ := (hB i).mp ((h6 i hi).mp hb)
      exact q i b1 b2
  refine ⟨⟨⟨c, h2, h3, by omega, fun j hj => ?_⟩, fun k hk => by rw [h6 k hk, hB], fun i hi => ?_, fun x w q => (h5 x w q).2⟩, ?_⟩
  · rw [h4.2 j hj]
    match j, hj with
    | 1, _ => exact ⟨fun _ => trivial, fun _ => Or.inl rfl⟩
    | j + 2, _ =>
      rw [Path.s (by omega)]
      exact ⟨fun q => q.elim (fun e => by omega) id, Or.inr⟩
  · rw [f2 i]
    by_cases e : br (v * 24 + s) = 0
    · rw [if_pos e, h7 i hi]; exact ⟨fun q => ⟨hva.mp e, q⟩, fun q => q.2⟩
    · rw [if_neg e, upd_at, b_0]
      exact ⟨fun q => absurd q (by decide), fun q => absurd (hva.mpr q.1) e⟩
  · by_cases e : br (v * 24 + s) = 0
    · rw [if_pos e]; exact h1
    · rw [if_neg e]
      exact Jinv.own hs h1 (fun q hq => ⟨rfl, upd_ne hq, rfl⟩) (by rw [h2]; exact nI_nz h3 (by omega))
