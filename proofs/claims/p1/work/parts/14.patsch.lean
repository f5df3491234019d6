def V_Pa_has (pn : Nat → Int32) (pl : Nat → Int32) (po : Nat → Int32) (pf : Nat → Int32) (pt : Nat → Int32) (x : Int32) (post : Int32 → Prop) : Prop :=
  ((x < 0 → post 0) ∧ (¬ x < 0 → ((8 ≤ x → post 0) ∧ (¬ 8 ≤ x → post 1))))
set_option maxHeartbeats 4000000 in
set_option maxRecDepth 100000 in
theorem g_Pa_has {p : Program} {l : Launch} {e : Env} {R : Room} {s : State} {m : MethodId} {args : Array Value} {below : List Frame} {meth : Method} {c : Code} {H : Heap} {locs : List Loc} {cells slots : Nat} {Q : State → Prop} {ls : Array Slot} (S : CallFix p m c b_Pa_has 2 s args W0 R_Pa) (hRf : 0 ≤ R.frames) (hRl : 0 ≤ R.locals) (hRc : cells ≤ R.cells ∧ slots ≤ R.slots) (D : va_G) (a : Nat → Nat) (cI cJ cZ : ClassId) (pn : Nat → Int32) (pl : Nat → Int32) (po : Nat → Int32) (pf : Nat → Int32) (pt : Nat → Int32) (x : Int32) (hK : va_K D vwCl (tyA cI cJ cZ) s) (hP : va_P D vwCl (wP a cI cZ pn pl po pf pt) H) (hl : lv_has ls 2 [(0, .ref (a 6)), (1, .int x)]) {post : Int32 → Prop} (vc : V_Pa_has pn pl po pf pt x post)
    (hret : ∀ (v : Int32) (ls : Array Slot) (pc : Nat), decode b_Pa_has pc = .ok (.ireturn, 1) → post v → W p l e R s m args below meth c H locs cells slots Q (F0 m pc ls [.int v])) : W p l e R s m args below meth c H locs cells slots Q (F0 m 0 ls []) := by
  have hx := S.1
  have hb := S.2.1
  have hown := S.2.2.2.1
  have hts := S.2.2.2.2
  unfold V_Pa_has at vc
  refine lv_iload_n hx hb d_Pa_has_0 rfl (lv_at hl 1 rfl) ?_
  refine lv_if_lt (tgt := 14) hx hb d_Pa_has_1 (by decide) (fun h => ?_) (fun h => ?_)
  · have vc := vc.1 h
    refine lv_iconst (v := 0) hx hb d_Pa_has_14 (by decide) ?_
    exact hret _ ls _ d_Pa_has_15 vc
  · have vc := vc.2 h
    refine lv_iload_n hx hb d_Pa_has_4 rfl (lv_at hl 1 rfl) ?_
    refine lv_bipush (v := 8) hx hb d_Pa_has_5 (by decide) ?_
    refine lv_icmp_ge (tgt := 14) hx hb d_Pa_has_7 (by decide) (fun h => ?_) (fun h => ?_)
    · have vc := vc.1 h
      refine lv_iconst (v := 0) hx hb d_Pa_has_14 (by decide) ?_
      exact hret _ ls _ d_Pa_has_15 vc
    · have vc := vc.2 h
      refine lv_iconst (v := 1) hx hb d_Pa_has_10 (by decide) ?_
      refine lv_goto (tgt := 15) hx hb d_Pa_has_11 (by decide) ?_
      exact hret _ ls _ d_Pa_has_15 vc
theorem h_Pa_has (l : Launch) (D : va_G) (a : Nat → Nat) (cI cJ cZ : ClassId) (pn : Nat → Int32) (pl : Nat → Int32) (po : Nat → Int32) (pf : Nat → Int32) (pt : Nat → Int32) (x : Int32) (r : Int32) (hr : narrow .boolean (.int r) = .int r) (vc : V_Pa_has pn pl po pf pt x (fun v => v = r)) : Pm l y_Pa_has b_Pa_has 2 (some .boolean) 0 0 [.ref (a 6), .int x] (wB D (tyA cI cJ cZ) (wP a cI cZ pn pl po pf pt)) (.int r) :=
  pm_i (by decide) hr (Nat.le_of_ble_eq_true rfl) (fun p e s m below meth c ls Q S hB hl hret => g_Pa_has S (Nat.le_refl _) (Nat.le_refl _) ⟨Nat.le_refl _, Nat.le_refl _⟩ D a cI cJ cZ pn pl po pf pt x hB.2 hB.1 hl vc hret)
theorem c_Pa_has (l : Launch) (D : va_G) (a : Nat → Nat) (cI cJ cZ : ClassId) (pn : Nat → Int32) (pl : Nat → Int32) (po : Nat → Int32) (pf : Nat → Int32) (pt : Nat → Int32) (x : Int32) : Pm l y_Pa_has b_Pa_has 2 (some .boolean) 0 0 [.ref (a 6), .int x] (wB D (tyA cI cJ cZ) (wP a cI cZ pn pl po pf pt)) (.int (bI (sHas 8 x))) := h_Pa_has l D a cI cJ cZ pn pl po pf pt x _ (bI_nar _) (by
  unfold V_Pa_has
  refine ⟨fun h => ?_, fun h => ⟨fun h2 => ?_, fun h2 => ?_⟩⟩ <;> simp_all [bI, sHas])
theorem hd_Pa_has : y_Pa_has.cls ≠ "java/lang/invoke/MethodHandle" ∧ y_Pa_has.cls ≠ "java/lang/invoke/VarHandle" ∧ (parseMethodDescriptor y_Pa_has.desc).map (fun d => d.parameters.length) = some 1 := ⟨by decide, by decide, by decide +kernel⟩
def V_Pa_isFull (pn : Nat → Int32) (pl : Nat → Int32) (po : Nat → Int32) (pf : Nat → Int32) (pt : Nat → Int32) (x : Int32) (post : Int32 → Prop) : Prop :=
  (vp_in x 8 ∧ (((pn x.toNatClampNeg) < 6 → post 0) ∧ (¬ (pn x.toNatClampNeg) < 6 → post 1)))
set_option maxHeartbeats 4000000 in
set_option maxRecDepth 100000 in
theorem g_Pa_isFull {p : Program} {l : Launch} {e : Env} {R : Room} {s : State} {m : MethodId} {args : Array Value} {below : List Frame} {meth : Method} {c : Code} {H : Heap} {locs : List Loc} {cells slots : Nat} {Q : State → Prop} {ls : Array Slot} (S : CallFix p m c b_Pa_isFull 2 s args W0 R_Pa) (hRf : 0 ≤ R.frames) (hRl : 0 ≤ R.locals) (hRc : cells ≤ R.cells ∧ slots ≤ R.slots) (D : va_G) (a : Nat → Nat) (cI cJ cZ : ClassId) (pn : Nat → Int32) (pl : Nat → Int32) (po : Nat → Int32) (pf : Nat → Int32) (pt : Nat → Int32) (x : Int32) (hK : va_K D vwCl (tyA cI cJ cZ) s) (hP : va_P D vwCl (wP a cI cZ pn pl po pf pt) H) (hl : lv_has ls 2 [(0, .ref (a 6)), (1, .int x)]) {post : Int32 → Prop} (vc : V_Pa_isFull pn pl po pf pt x post)
    (hret : ∀ (v : Int32) (ls : Array Slot) (pc : Nat), decode b_Pa_isFull pc = .ok (.ireturn, 1) → post v → W p l e R s m args below meth c H locs cells slots Q (F0 m pc ls [.int v])) : W p l e R s m args below meth c H locs cells slots Q (F0 m 0 ls []) := by
  have hx := S.1
  have hb := S.2.1
  have hown := S.2.2.2.1
  have hts := S.2.2.2.2
  unfold V_Pa_isFull at vc
  refine lv_aload_n hx hb d_Pa_isFull_0 rfl (lv_at hl 0 rfl) ?_
  refine va_get (D := D) (ci := 1) (v := .ref (a 7)) (C := R_Pa) (T := F_Pa) (N := 5) hx hb hts in_Pa hown hK hP 0 rfl rfl 0 (by decide) (hts _ fl_Pa_9) (fun _ h => h) rfl d_Pa_isFull_1 ?_
  refine lv_iload_n hx hb d_Pa_isFull_4 rfl (lv_at hl 1 rfl) ?_
  obtain ⟨vcb, vc⟩ := vc
  refine va_iald hx hb hK hP 1 0 rfl rfl vcb d_Pa_isFull_5 ?_
  refine lv_bipush (v := 6) hx hb d_Pa_isFull_6 (by decide) ?_
  refine lv_icmp_lt (tgt := 15) hx hb d_Pa_isFull_8 (by decide) (fun h => ?_) (fun h => ?_)
  · have vc := vc.1 h
    refine lv_iconst (v := 0) hx hb d_Pa_isFull_15 (by decide) ?_
    exact hret _ ls _ d_Pa_isFull_16 vc
  · have vc := vc.2 h
    refine lv_iconst (v := 1) hx hb d_Pa_isFull_11 (by decide) ?_
    refine lv_goto (tgt := 16) hx hb d_Pa_isFull_12 (by decide) ?_
    exact hret _ ls _ d_Pa_isFull_16 vc
theorem h_Pa_isFull (l : Launch) (D : va_G) (a : Nat → Nat) (cI cJ cZ : ClassId) (pn : Nat → Int32) (pl : Nat → Int32) (po : Nat → Int32) (pf : Nat → Int32) (pt : Nat → Int32) (x : Int32) (r : Int32) (hr : narrow .boolean (.int r) = .int r) (vc : V_Pa_isFull pn pl po pf pt x (fun v => v = r)) : Pm l y_Pa_isFull b_Pa_isFull 2 (some .boolean) 0 0 [.ref (a 6), .int x] (wB D (tyA cI cJ cZ) (wP a cI cZ pn pl po pf pt)) (.int r) :=
  pm_i (by decide) hr (Nat.le_of_ble_eq_true rfl) (fun p e s m below meth c ls Q S hB hl hret => g_Pa_isFull S (Nat.le_refl _) (Nat.le_refl _) ⟨Nat.le_refl _, Nat.le_refl _⟩ D a cI cJ cZ pn pl po pf pt x hB.2 hB.1 hl vc hret)
theorem c_Pa_isFull (l : Launch) (D : va_G) (a : Nat → Nat) (cI cJ cZ : ClassId) (pn : Nat → Int32) (pl : Nat → Int32) (po : Nat → Int32) (pf : Nat → Int32) (pt : Nat → Int32) (x : Int32) (hpre : vp_in x 8) : Pm l y_Pa_isFull b_Pa_isFull 2 (some .boolean) 0 0 [.ref (a 6), .int x] (wB D (tyA cI cJ cZ) (wP a cI cZ pn pl po pf pt)) (.int (bI (decide (6 ≤ pn x.toNatClampNeg)))) := h_Pa_isFull l D a cI cJ cZ pn pl po pf pt x _ (bI_nar _) (by
  unfold V_Pa_isFull
  refine ⟨hpre, fun h => ?_, fun h => ?_⟩ <;> simp_all [bI])
theorem hd_Pa_isFull : y_Pa_isFull.cls ≠ "java/lang/invoke/MethodHandle" ∧ y_Pa_isFull.cls ≠ "java/lang/invoke/VarHandle" ∧ (parseMethodDescriptor y_Pa_isFull.desc).map (fun d => d.parameters.length) = some 1 := ⟨by decide, by decide, by decide +kernel⟩
def V_Pa_addItem (pn : Nat → Int32) (pl : Nat → Int32) (po : Nat → Int32) (pf : Nat → Int32) (pt : Nat → Int32) (x : Int32) (q : Int32) (o : Int32) (post : Int32 → (Nat → Int32) → (Nat → Int32) → (Nat → Int32) → (Nat → Int32) → (Nat → Int32) → Prop) : Prop :=
  (vp_in x 8 ∧ (vp_in ((x * 6) + (pn x.toNatClampNeg)) 48 ∧ (vp_in x 8 ∧ (vp_in ((x * 6) + (pn x.toNatClampNeg)) 48 ∧ (vp_in x 8 ∧ (vp_in x 8 ∧ (vp_in x 8 ∧ post ((upd pn x.toNatClampNeg ((pn x.toNatClampNeg) + 1)) x.toNatClampNeg) (upd pn x.toNatClampNeg ((pn x.toNatClampNeg) + 1)) (upd pl ((x * 6) + (pn x.toNatClampNeg) : Int32).toNatClampNeg q) (upd po ((x * 6) + (pn x.toNatClampNeg) : Int32).toNatClampNeg o) pf pt)))))))
set_option maxHeartbeats 4000000 in
set_option maxRecDepth 100000 in
theorem g_Pa_addItem {p : Program} {l : Launch} {e : Env} {R : Room} {s : State} {m : MethodId} {args : Array Value} {below : List Frame} {meth : Method} {c : Code} {H : Heap} {locs : List Loc} {cells slots : Nat} {Q : State → Prop} {ls : Array Slot} {A : Nat → Prop} (S : CallFix p m c b_Pa_addItem 4 s args W0 R_Pa) (hRf : 0 ≤ R.frames) (hRl : 0 ≤ R.locals) (hRc : cells ≤ R.cells ∧ slots ≤ R.slots) (D : va_G) (a : Nat → Nat) (cI cJ cZ : ClassId) (pn : Nat → Int32) (pl : Nat → Int32) (po : Nat → Int32) (pf : Nat → Int32) (pt : Nat → Int32) (x : Int32) (q : Int32) (o : Int32) (hK : va_K D vwCl (tyA cI cJ cZ) s) (hP : va_P D vwCl (wP a cI cZ pn pl po pf pt) H) (hD : va_D A (wP a cI cZ pn pl po pf pt)) (hA : ∀ q, s.heap.size ≤ q → A q) (hS : va_S A s.heap H locs) (hl : lv_has ls 4 [(0, .ref (a 6)), (1, .int x), (2, .int q), (3, .int o)]) {post : Int32 → (Nat → Int32) → (Nat → Int32) → (Nat → Int32) → (Nat → Int32) → (Nat → Int32) → Prop} (vc : V_Pa_addItem pn pl po pf pt x q o post)
    (hret : ∀ (v : Int32) (pn : Nat → Int32) (pl : Nat → Int32) (po : Nat → Int32) (pf : Nat → Int32) (pt : Nat → Int32) (ls : Array Slot) (pc : Nat) (H : Heap) (locs : List Loc), decode b_Pa_addItem pc = .ok (.ireturn, 1) → post v pn pl po pf pt → va_P D vwCl (wP a cI cZ pn pl po pf pt) H → va_D A (wP a cI cZ pn pl po pf pt) → va_S A s.heap H locs → W p l e R s m args below meth c H locs cells slots Q (F0 m pc ls [.int v])) : W p l e R s m args below meth c H locs cells slots Q (F0 m 0 ls []) := by
  have hx := S.1
  have hb := S.2.1
  have hown := S.2.2.2.1
  have hts := S.2.2.2.2
  unfold V_Pa_addItem at vc
  refine lv_aload_n hx hb d_Pa_addItem_0 rfl (lv_at hl 0 rfl) ?_
  refine va_get (D := D) (ci := 1) (v := .ref (a 8)) (C := R_Pa) (T := F_Pa) (N := 5) hx hb hts in_Pa hown hK hP 0 rfl rfl 1 (by decide) (hts _ fl_Pa_13) (fun _ h => h) rfl d_Pa_addItem_1 ?_
  refine lv_iload_n hx hb d_Pa_addItem_4 rfl (lv_at hl 1 rfl) ?_
  refine lv_bipush (v := 6) hx hb d_Pa_addItem_5 (by decide) ?_
  refine lv_imul hx hb d_Pa_addItem_7 ?_
  refine lv_aload_n hx hb d_Pa_addItem_8 rfl (lv_at hl 0 rfl) ?_
  refine va_get (D := D) (ci := 1) (v := .ref (a 7)) (C := R_Pa) (T := F_Pa) (N := 5) hx hb hts in_Pa hown hK hP 0 rfl rfl 0 (by decide) (hts _ fl_Pa_9) (fun _ h => h) rfl d_Pa_addItem_9 ?_
  refine lv_iload_n hx hb d_Pa_addItem_12 rfl (lv_at hl 1 rfl) ?_
  obtain ⟨vcb, vc⟩ := vc
  refine va_iald hx hb hK hP 1 0 rfl rfl vcb d_Pa_addItem_13 ?_
  refine lv_iadd hx hb d_Pa_addItem_14 ?_
  refine lv_iload_n hx hb d_Pa_addItem_15 rfl (lv_at hl 2 rfl) ?_
  obtain ⟨vcb, vc⟩ := vc
  refine va_iast hx hb hK hP hD hS 2 0 rfl rfl vcb d_Pa_addItem_16 (fun H locs hP hD hS => ?_)
  have hP : va_P D vwCl (wP a cI cZ pn (upd pl ((x * 6) + (pn x.toNatClampNeg) : Int32).toNatClampNeg q) po pf pt) H := hP
  have hD : va_D A (wP a cI cZ pn (upd pl ((x * 6) + (pn x.toNatClampNeg) : Int32).toNatClampNeg q) po pf pt) := hD
  refine lv_aload_n hx hb d_Pa_addItem_17 rfl (lv_at hl 0 rfl) ?_
  refine va_get (D := D) (ci := 1) (v := .ref (a 9)) (C := R_Pa) (T := F_Pa) (N := 5) hx hb hts in_Pa hown hK hP 0 rfl rfl 2 (by decide) (hts _ fl_Pa_16) (fun _ h => h) rfl d_Pa_addItem_18 ?_
  refine lv_iload_n hx hb d_Pa_addItem_21 rfl (lv_at hl 1 rfl) ?_
  refine lv_bipush (v := 6) hx hb d_Pa_addItem_22 (by decide) ?_
  refine lv_imul hx hb d_Pa_addItem_24 ?_
  refine lv_aload_n hx hb d_Pa_addItem_25 rfl (lv_at hl 0 rfl) ?_
  refine va_get (D := D) (ci := 1) (v := .ref (a 7)) (C := R_Pa) (T := F_Pa) (N := 5) hx hb hts in_Pa hown hK hP 0 rfl rfl 0 (by decide) (hts _ fl_Pa_9) (fun _ h => h) rfl d_Pa_addItem_26 ?_
  refine lv_iload_n hx hb d_Pa_addItem_29 rfl (lv_at hl 1 rfl) ?_
  obtain ⟨vcb, vc⟩ := vc
  refine va_iald hx hb hK hP 1 0 rfl rfl vcb d_Pa_addItem_30 ?_
  refine lv_iadd hx hb d_Pa_addItem_31 ?_
  refine lv_iload_n hx hb d_Pa_addItem_32 rfl (lv_at hl 3 rfl) ?_
  obtain ⟨vcb, vc⟩ := vc
  refine va_iast hx hb hK hP hD hS 3 0 rfl rfl vcb d_Pa_addItem_33 (fun H locs hP hD hS => ?_)
  have hP : va_P D vwCl (wP a cI cZ pn (upd pl ((x * 6) + (pn x.toNatClampNeg) : Int32).toNatClampNeg q) (upd po ((x * 6) + (pn x.toNatClampNeg) : Int32).toNatClampNeg o) pf pt) H := hP
  have hD : va_D A (wP a cI cZ pn (upd pl ((x * 6) + (pn x.toNatClampNeg) : Int32).toNatClampNeg q) (upd po ((x * 6) + (pn x.toNatClampNeg) : Int32).toNatClampNeg o) pf pt) := hD
  refine lv_aload_n hx hb d_Pa_addItem_34 rfl (lv_at hl 0 rfl) ?_
  refine va_get (D := D) (ci := 1) (v := .ref (a 7)) (C := R_Pa) (T := F_Pa) (N := 5) hx hb hts in_Pa hown hK hP 0 rfl rfl 0 (by decide) (hts _ fl_Pa_9) (fun _ h => h) rfl d_Pa_addItem_35 ?_
  refine lv_iload_n hx hb d_Pa_addItem_38 rfl (lv_at hl 1 rfl) ?_
  refine lv_dup2_11 hx hb d_Pa_addItem_39 rfl rfl ?_
  obtain ⟨vcb, vc⟩ := vc
  refine va_iald hx hb hK hP 1 0 rfl rfl vcb d_Pa_addItem_40 ?_
  refine lv_iconst (v := 1) hx hb d_Pa_addItem_41 (by decide) ?_
  refine lv_iadd hx hb d_Pa_addItem_42 ?_
  obtain ⟨vcb, vc⟩ := vc
  refine va_iast hx hb hK hP hD hS 1 0 rfl rfl vcb d_Pa_addItem_43 (fun H locs hP hD hS => ?_)
  have hP : va_P D vwCl (wP a cI cZ (upd pn x.toNatClampNeg ((pn x.toNatClampNeg) + 1)) (upd pl ((x * 6) + (pn x.toNatClampNeg) : Int32).toNatClampNeg q) (upd po ((x * 6) + (pn x.toNatClampNeg) : Int32).toNatClampNeg o) pf pt) H := hP
  have hD : va_D A (wP a cI cZ (upd pn x.toNatClampNeg ((pn x.toNatClampNeg) + 1)) (upd pl ((x * 6) + (pn x.toNatClampNeg) : Int32).toNatClampNeg q) (upd po ((x * 6) + (pn x.toNatClampNeg) : Int32).toNatClampNeg o) pf pt) := hD
  refine lv_aload_n hx hb d_Pa_addItem_44 rfl (lv_at hl 0 rfl) ?_
  refine va_get (D := D) (ci := 1) (v := .ref (a 7)) (C := R_Pa) (T := F_Pa) (N := 5) hx hb hts in_Pa hown hK hP 0 rfl rfl 0 (by decide) (hts _ fl_Pa_9) (fun _ h => h) rfl d_Pa_addItem_45 ?_
  refine lv_iload_n hx hb d_Pa_addItem_48 rfl (lv_at hl 1 rfl) ?_
  obtain ⟨vcb, vc⟩ := vc
  refine va_iald hx hb hK hP 1 0 rfl rfl vcb d_Pa_addItem_49 ?_
  exact hret _ _ _ _ _ _ ls _ H locs d_Pa_addItem_50 vc hP hD hS
theorem h_Pa_addItem (l : Launch) (D : va_G) (a : Nat → Nat) (cI cJ cZ : ClassId) (pn : Nat → Int32) (pl : Nat → Int32) (po : Nat → Int32) (pf : Nat → Int32) (pt : Nat → Int32) (x : Int32) (q : Int32) (o : Int32) (r : Int32) (pn' : Nat → Int32) (pl' : Nat → Int32) (po' : Nat → Int32) (pf' : Nat → Int32) (pt' : Nat → Int32) (vc : V_Pa_addItem pn pl po pf pt x q o (fun v pn pl po pf pt => v = r ∧ pn = pn' ∧ pl = pl' ∧ po = po' ∧ pf = pf' ∧ pt = pt')) : Wm (S := Unit) l y_Pa_addItem b_Pa_addItem 4 (some .int) 0 0 [.ref (a 6), .int x, .int q, .int o] D (tyA cI cJ cZ) (wP a cI cZ pn pl po pf pt) (fun _ => True) (fun _ => some (.int r)) (fun _ => (wP a cI cZ pn' pl' po' pf' pt')) :=
  wm_i (by decide) (fun _ _ => rfl) (Nat.le_of_ble_eq_true rfl) (fun p e s m below meth c ls Q A S hK hP hD hA hS hl hret => g_Pa_addItem S (Nat.le_refl _) (Nat.le_refl _) ⟨Nat.le_refl _, Nat.le_refl _⟩ D a cI cJ cZ pn pl po pf pt x q o hK hP hD hA hS hl vc (fun v pn pl po pf pt ls pc H locs hd hv hP hD hS => by obtain ⟨rfl, rfl, rfl, rfl, rfl, rfl⟩ := hv; exact hret () _ ls pc H locs hd trivial rfl hP hD hS))
theorem c_Pa_addItem (l : Launch) (D : va_G) (a : Nat → Nat) (cI cJ cZ : ClassId) (pn : Nat → Int32) (pl : Nat → Int32) (po : Nat → Int32) (pf : Nat → Int32) (pt : Nat → Int32) (x : Int32) (q : Int32) (o : Int32) (hpre : (vp_in x 8 ∧ vp_in (x * 6 + pn x.toNatClampNeg) 48)) : Wm (S := Unit) l y_Pa_addItem b_Pa_addItem 4 (some .int) 0 0 [.ref (a 6), .int x, .int q, .int o] D (tyA cI cJ cZ) (wP a cI cZ pn pl po pf pt) (fun _ => True) (fun _ => some (.int (pn x.toNatClampNeg + 1))) (fun _ => (wP a cI cZ (upd pn x.toNatClampNeg (pn x.toNatClampNeg + 1)) (upd pl (x * 6 + pn x.toNatClampNeg : Int32).toNatClampNeg q) (upd po (x * 6 + pn x.toNatClampNeg : Int32).toNatClampNeg o) pf pt)) := h_Pa_addItem l D a cI cJ cZ pn pl po pf pt x q o _ _ _ _ _ _ (by
  unfold V_Pa_addItem
  simp only [hpre.1, hpre.2, true_and]
  simp [upd])
theorem hd_Pa_addItem : y_Pa_addItem.cls ≠ "java/lang/invoke/MethodHandle" ∧ y_Pa_addItem.cls ≠ "java/lang/invoke/VarHandle" ∧ (parseMethodDescriptor y_Pa_addItem.desc).map (fun d => d.parameters.length) = some 3 := ⟨by decide, by decide, by decide +kernel⟩
def V_Pa_setBounds (pn : Nat → Int32) (pl : Nat → Int32) (po : Nat → Int32) (pf : Nat → Int32) (pt : Nat → Int32) (x : Int32) (u : Int32) (v : Int32) (post : (Nat → Int32) → (Nat → Int32) → (Nat → Int32) → (Nat → Int32) → (Nat → Int32) → Prop) : Prop :=
  (vp_in x 8 ∧ (vp_in x 8 ∧ post pn pl po (upd pf x.toNatClampNeg (vp_nar .boolean u)) (upd pt x.toNatClampNeg (vp_nar .boolean v))))
set_option maxHeartbeats 4000000 in
set_option maxRecDepth 100000 in
theorem g_Pa_setBounds {p : Program} {l : Launch} {e : Env} {R : Room} {s : State} {m : MethodId} {args : Array Value} {below : List Frame} {meth : Method} {c : Code} {H : Heap} {locs : List Loc} {cells slots : Nat} {Q : State → Prop} {ls : Array Slot} {A : Nat → Prop} (S : CallFix p m c b_Pa_setBounds 4 s args W0 R_Pa) (hRf : 0 ≤ R.frames) (hRl : 0 ≤ R.locals) (hRc : cells ≤ R.cells ∧ slots ≤ R.slots) (D : va_G) (a : Nat → Nat) (cI cJ cZ : ClassId) (pn : Nat → Int32) (pl : Nat → Int32) (po : Nat → Int32) (pf : Nat → Int32) (pt : Nat → Int32) (x : Int32) (u : Int32) (v : Int32) (hK : va_K D vwCl (tyA cI cJ cZ) s) (hP : va_P D vwCl (wP a cI cZ pn pl po pf pt) H) (hD : va_D A (wP a cI cZ pn pl po pf pt)) (hA : ∀ q, s.heap.size ≤ q → A q) (hS : va_S A s.heap H locs) (hl : lv_has ls 4 [(0, .ref (a 6)), (1, .int x), (2, .int u), (3, .int v)]) {post : (Nat → Int32) → (Nat → Int32) → (Nat → Int32) → (Nat → Int32) → (Nat → Int32) → Prop} (vc : V_Pa_setBounds pn pl po pf pt x u v post)
    (hret : ∀ (pn : Nat → Int32) (pl : Nat → Int32) (po : Nat → Int32) (pf : Nat → Int32) (pt : Nat → Int32) (ls : Array Slot) (pc : Nat) (H : Heap) (locs : List Loc), decode b_Pa_setBounds pc = .ok (.return_, 1) → post pn pl po pf pt → va_P D vwCl (wP a cI cZ pn pl po pf pt) H → va_D A (wP a cI cZ pn pl po pf pt) → va_S A s.heap H locs → W p l e R s m args below meth c H locs cells slots Q (F0 m pc ls [])) : W p l e R s m args below meth c H locs cells slots Q (F0 m 0 ls []) := by
  have hx := S.1
  have hb := S.2.1
  have hown := S.2.2.2.1
  have hts := S.2.2.2.2
  unfold V_Pa_setBounds at vc
  refine lv_aload_n hx hb d_Pa_setBounds_0 rfl (lv_at hl 0 rfl) ?_
  refine va_get (D := D) (ci := 1) (v := .ref (a 10)) (C := R_Pa) (T := F_Pa) (N := 5) hx hb hts in_Pa hown hK hP 0 rfl rfl 3 (by decide) (hts _ fl_Pa_19) (fun _ h => h) rfl d_Pa_setBounds_1 ?_
  refine lv_iload_n hx hb d_Pa_setBounds_4 rfl (lv_at hl 1 rfl) ?_
  refine lv_iload_n hx hb d_Pa_setBounds_5 rfl (lv_at hl 2 rfl) ?_
  obtain ⟨vcb, vc⟩ := vc
  refine va_zast hx hb hK hP hD hS 4 2 rfl rfl vcb d_Pa_setBounds_6 (fun H locs hP hD hS => ?_)
  have hP : va_P D vwCl (wP a cI cZ pn pl po (upd pf x.toNatClampNeg (vp_nar .boolean u)) pt) H := hP
  have hD : va_D A (wP a cI cZ pn pl po (upd pf x.toNatClampNeg (vp_nar .boolean u)) pt) := hD
  refine lv_aload_n hx hb d_Pa_setBounds_7 rfl (lv_at hl 0 rfl) ?_
  refine va_get (D := D) (ci := 1) (v := .ref (a 11)) (C := R_Pa) (T := F_Pa) (N := 5) hx hb hts in_Pa hown hK hP 0 rfl rfl 4 (by decide) (hts _ fl_Pa_23) (fun _ h => h) rfl d_Pa_setBounds_8 ?_
  refine lv_iload_n hx hb d_Pa_setBounds_11 rfl (lv_at hl 1 rfl) ?_
  refine lv_iload_n hx hb d_Pa_setBounds_12 rfl (lv_at hl 3 rfl) ?_
  obtain ⟨vcb, vc⟩ := vc
  refine va_zast hx hb hK hP hD hS 5 2 rfl rfl vcb d_Pa_setBounds_13 (fun H locs hP hD hS => ?_)
  have hP : va_P D vwCl (wP a cI cZ pn pl po (upd pf x.toNatClampNeg (vp_nar .boolean u)) (upd pt x.toNatClampNeg (vp_nar .boolean v))) H := hP
  have hD : va_D A (wP a cI cZ pn pl po (upd pf x.toNatClampNeg (vp_nar .boolean u)) (upd pt x.toNatClampNeg (vp_nar .boolean v))) := hD
  exact hret _ _ _ _ _ ls _ H locs d_Pa_setBounds_14 vc hP hD hS
theorem h_Pa_setBounds (l : Launch) (D : va_G) (a : Nat → Nat) (cI cJ cZ : ClassId) (pn : Nat → Int32) (pl : Nat → Int32) (po : Nat → Int32) (pf : Nat → Int32) (pt : Nat → Int32) (x : Int32) (u : Int32) (v : Int32) (pn' : Nat → Int32) (pl' : Nat → Int32) (po' : Nat → Int32) (pf' : Nat → Int32) (pt' : Nat → Int32) (vc : V_Pa_setBounds pn pl po pf pt x u v (fun pn pl po pf pt => pn = pn' ∧ pl = pl' ∧ po = po' ∧ pf = pf' ∧ pt = pt')) : Wm (S := Unit) l y_Pa_setBounds b_Pa_setBounds 4 none 0 0 [.ref (a 6), .int x, .int u, .int v] D (tyA cI cJ cZ) (wP a cI cZ pn pl po pf pt) (fun _ => True) (fun _ => none) (fun _ => (wP a cI cZ pn' pl' po' pf' pt')) :=
  wm_v (by decide) (Nat.le_of_ble_eq_true rfl) (fun p e s m below meth c ls Q A S hK hP hD hA hS hl hret => g_Pa_setBounds S (Nat.le_refl _) (Nat.le_refl _) ⟨Nat.le_refl _, Nat.le_refl _⟩ D a cI cJ cZ pn pl po pf pt x u v hK hP hD hA hS hl vc (fun pn pl po pf pt ls pc H locs hd hv hP hD hS => by obtain ⟨rfl, rfl, rfl, rfl, rfl⟩ := hv; exact hret () ls pc H locs hd trivial hP hD hS))
theorem c_Pa_setBounds (l : Launch) (D : va_G) (a : Nat → Nat) (cI cJ cZ : ClassId) (pn : Nat → Int32) (pl : Nat → Int32) (po : Nat → Int32) (pf : Nat → Int32) (pt : Nat → Int32) (x : Int32) (u : Int32) (v : Int32) (hpre : vp_in x 8) : Wm (S := Unit) l y_Pa_setBounds b_Pa_setBounds 4 none 0 0 [.ref (a 6), .int x, .int u, .int v] D (tyA cI cJ cZ) (wP a cI cZ pn pl po pf pt) (fun _ => True) (fun _ => none) (fun _ => (wP a cI cZ pn pl po (upd pf x.toNatClampNeg (vp_nar .boolean u)) (upd pt x.toNatClampNeg (vp_nar .boolean v)))) := h_Pa_setBounds l D a cI cJ cZ pn pl po pf pt x u v _ _ _ _ _ (by
  unfold V_Pa_setBounds
  exact ⟨hpre, hpre, rfl, rfl, rfl, rfl, rfl⟩)
theorem hd_Pa_setBounds : y_Pa_setBounds.cls ≠ "java/lang/invoke/MethodHandle" ∧ y_Pa_setBounds.cls ≠ "java/lang/invoke/VarHandle" ∧ (parseMethodDescriptor y_Pa_setBounds.desc).map (fun d => d.parameters.length) = some 3 := ⟨by decide, by decide, by decide +kernel⟩
def V_Sc_has (ru : Nat → Int32) (le : Nat → Int32) (li : Nat → Int32) (bn : Nat → Int32) (ip : Nat → Int32) (aw : Nat → Int32) (ns : Int32) (x : Int32) (post : Int32 → Prop) : Prop :=
  ((x < 0 → post 0) ∧ (¬ x < 0 → ((ns ≤ x → post 0) ∧ (¬ ns ≤ x → post 1))))
set_option maxHeartbeats 4000000 in
set_option maxRecDepth 100000 in
theorem g_Sc_has {p : Program} {l : Launch} {e : Env} {R : Room} {s : State} {m : MethodId} {args : Array Value} {below : List Frame} {meth : Method} {c : Code} {H : Heap} {locs : List Loc} {cells slots : Nat} {Q : State → Prop} {ls : Array Slot} (S : CallFix p m c b_Sc_has 2 s args W0 R_Sc) (hRf : 0 ≤ R.frames) (hRl : 0 ≤ R.locals) (hRc : cells ≤ R.cells ∧ slots ≤ R.slots) (D : va_G) (a : Nat → Nat) (cI cJ cZ : ClassId) (ru : Nat → Int32) (le : Nat → Int32) (li : Nat → Int32) (bn : Nat → Int32) (ip : Nat → Int32) (aw : Nat → Int32) (ns : Int32) (x : Int32) (hK : va_K D vwCl (tyA cI cJ cZ) s) (hP : va_P D vwCl (wS a cI ru le li bn ip aw ns) H) (hl : lv_has ls 2 [(0, .ref (a 12)), (1, .int x)]) {post : Int32 → Prop} (vc : V_Sc_has ru le li bn ip aw ns x post)
    (hret : ∀ (v : Int32) (ls : Array Slot) (pc : Nat), decode b_Sc_has pc = .ok (.ireturn, 1) → post v → W p l e R s m args below meth c H locs cells slots Q (F0 m pc ls [.int v])) : W p l e R s m args below meth c H locs cells slots Q (F0 m 0 ls []) := by
  have hx := S.1
  have hb := S.2.1
  have hown := S.2.2.2.1
  have hts := S.2.2.2.2
  unfold V_Sc_has at vc
  refine lv_iload_n hx hb d_Sc_has_0 rfl (lv_at hl 1 rfl) ?_
  refine lv_if_lt (tgt := 16) hx hb d_Sc_has_1 (by decide) (fun h => ?_) (fun h => ?_)
  · have vc := vc.1 h
    refine lv_iconst (v := 0) hx hb d_Sc_has_16 (by decide) ?_
    exact hret _ ls _ d_Sc_has_17 vc
  · have vc := vc.2 h
    refine lv_iload_n hx hb d_Sc_has_4 rfl (lv_at hl 1 rfl) ?_
    refine lv_aload_n hx hb d_Sc_has_5 rfl (lv_at hl 0 rfl) ?_
    refine va_get (D := D) (ci := 3) (v := .int ns) (C := R_Sc) (T := F_Sc) (N := 7) hx hb hts in_Sc hown hK hP 0 rfl rfl 6 (by decide) (hts _ fl_Sc_38) (fun _ h => h) rfl d_Sc_has_6 ?_
    refine lv_icmp_ge (tgt := 16) hx hb d_Sc_has_9 (by decide) (fun h => ?_) (fun h => ?_)
    · have vc := vc.1 h
      refine lv_iconst (v := 0) hx hb d_Sc_has_16 (by decide) ?_
      exact hret _ ls _ d_Sc_has_17 vc
    · have vc := vc.2 h
      refine lv_iconst (v := 1) hx hb d_Sc_has_12 (by decide) ?_
      refine lv_goto (tgt := 17) hx hb d_Sc_has_13 (by decide) ?_
      exact hret _ ls _ d_Sc_has_17 vc
theorem h_Sc_has (l : Launch) (D : va_G) (a : Nat → Nat) (cI cJ cZ : ClassId) (ru : Nat → Int32) (le : Nat → Int32) (li : Nat → Int32) (bn : Nat → Int32) (ip : Nat → Int32) (aw : Nat → Int32) (ns : Int32) (x : Int32) (r : Int32) (hr : narrow .boolean (.int r) = .int r) (vc : V_Sc_has ru le li bn ip aw ns x (fun v => v = r)) : Pm l y_Sc_has b_Sc_has 2 (some .boolean) 0 0 [.ref (a 12), .int x] (wB D (tyA cI cJ cZ) (wS a cI ru le li bn ip aw ns)) (.int r) :=
  pm_i (by decide) hr (Nat.le_of_ble_eq_true rfl) (fun p e s m below meth c ls Q S hB hl hret => g_Sc_has S (Nat.le_refl _) (Nat.le_refl _) ⟨Nat.le_refl _, Nat.le_refl _⟩ D a cI cJ cZ ru le li bn ip aw ns x hB.2 hB.1 hl vc hret)
theorem c_Sc_has (l : Launch) (D : va_G) (a : Nat → Nat) (cI cJ cZ : ClassId) (ru : Nat → Int32) (le : Nat → Int32) (li : Nat → Int32) (bn : Nat → Int32) (ip : Nat → Int32) (aw : Nat → Int32) (ns : Int32) (x : Int32) : Pm l y_Sc_has b_Sc_has 2 (some .boolean) 0 0 [.ref (a 12), .int x] (wB D (tyA cI cJ cZ) (wS a cI ru le li bn ip aw ns)) (.int (bI (sHas ns x))) := h_Sc_has l D a cI cJ cZ ru le li bn ip aw ns x _ (bI_nar _) (by
  unfold V_Sc_has
  refine ⟨fun h => ?_, fun h => ⟨fun h2 => ?_, fun h2 => ?_⟩⟩ <;> simp_all [bI, sHas])
theorem hd_Sc_has : y_Sc_has.cls ≠ "java/lang/invoke/MethodHandle" ∧ y_Sc_has.cls ≠ "java/lang/invoke/VarHandle" ∧ (parseMethodDescriptor y_Sc_has.desc).map (fun d => d.parameters.length) = some 1 := ⟨by decide, by decide, by decide +kernel⟩
def V_Sc_areFull (ru : Nat → Int32) (le : Nat → Int32) (li : Nat → Int32) (bn : Nat → Int32) (ip : Nat → Int32) (aw : Nat → Int32) (ns : Int32) (post : Int32 → Prop) : Prop :=
  ((ns < 24 → post 0) ∧ (¬ ns < 24 → post 1))
set_option maxHeartbeats 4000000 in
set_option maxRecDepth 100000 in
theorem g_Sc_areFull {p : Program} {l : Launch} {e : Env} {R : Room} {s : State} {m : MethodId} {args : Array Value} {below : List Frame} {meth : Method} {c : Code} {H : Heap} {locs : List Loc} {cells slots : Nat} {Q : State → Prop} {ls : Array Slot} (S : CallFix p m c b_Sc_areFull 1 s args W0 R_Sc) (hRf : 0 ≤ R.frames) (hRl : 0 ≤ R.locals) (hRc : cells ≤ R.cells ∧ slots ≤ R.slots) (D : va_G) (a : Nat → Nat) (cI cJ cZ : ClassId) (ru : Nat → Int32) (le : Nat → Int32) (li : Nat → Int32) (bn : Nat → Int32) (ip : Nat → Int32) (aw : Nat → Int32) (ns : Int32) (hK : va_K D vwCl (tyA cI cJ cZ) s) (hP : va_P D vwCl (wS a cI ru le li bn ip aw ns) H) (hl : lv_has ls 1 [(0, .ref (a 12))]) {post : Int32 → Prop} (vc : V_Sc_areFull ru le li bn ip aw ns post)
    (hret : ∀ (v : Int32) (ls : Array Slot) (pc : Nat), decode b_Sc_areFull pc = .ok (.ireturn, 1) → post v → W p l e R s m args below meth c H locs cells slots Q (F0 m pc ls [.int v])) : W p l e R s m args below meth c H locs cells slots Q (F0 m 0 ls []) := by
  have hx := S.1
  have hb := S.2.1
  have hown := S.2.2.2.1
  have hts := S.2.2.2.2
  unfold V_Sc_areFull at vc
  refine lv_aload_n hx hb d_Sc_areFull_0 rfl (lv_at hl 0 rfl) ?_
  refine va_get (D := D) (ci := 3) (v := .int ns) (C := R_Sc) (T := F_Sc) (N := 7) hx hb hts in_Sc hown hK hP 0 rfl rfl 6 (by decide) (hts _ fl_Sc_38) (fun _ h => h) rfl d_Sc_areFull_1 ?_
  refine lv_bipush (v := 24) hx hb d_Sc_areFull_4 (by decide) ?_
  refine lv_icmp_lt (tgt := 13) hx hb d_Sc_areFull_6 (by decide) (fun h => ?_) (fun h => ?_)
  · have vc := vc.1 h
    refine lv_iconst (v := 0) hx hb d_Sc_areFull_13 (by decide) ?_
    exact hret _ ls _ d_Sc_areFull_14 vc
  · have vc := vc.2 h
    refine lv_iconst (v := 1) hx hb d_Sc_areFull_9 (by decide) ?_
    refine lv_goto (tgt := 14) hx hb d_Sc_areFull_10 (by decide) ?_
    exact hret _ ls _ d_Sc_areFull_14 vc
theorem h_Sc_areFull (l : Launch) (D : va_G) (a : Nat → Nat) (cI cJ cZ : ClassId) (ru : Nat → Int32) (le : Nat → Int32) (li : Nat → Int32) (bn : Nat → Int32) (ip : Nat → Int32) (aw : Nat → Int32) (ns : Int32) (r : Int32) (hr : narrow .boolean (.int r) = .int r) (vc : V_Sc_areFull ru le li bn ip aw ns (fun v => v = r)) : Pm l y_Sc_areFull b_Sc_areFull 1 (some .boolean) 0 0 [.ref (a 12)] (wB D (tyA cI cJ cZ) (wS a cI ru le li bn ip aw ns)) (.int r) :=
  pm_i (by decide) hr (Nat.le_of_ble_eq_true rfl) (fun p e s m below meth c ls Q S hB hl hret => g_Sc_areFull S (Nat.le_refl _) (Nat.le_refl _) ⟨Nat.le_refl _, Nat.le_refl _⟩ D a cI cJ cZ ru le li bn ip aw ns hB.2 hB.1 hl vc hret)
theorem c_Sc_areFull (l : Launch) (D : va_G) (a : Nat → Nat) (cI cJ cZ : ClassId) (ru : Nat → Int32) (le : Nat → Int32) (li : Nat → Int32) (bn : Nat → Int32) (ip : Nat → Int32) (aw : Nat → Int32) (ns : Int32) : Pm l y_Sc_areFull b_Sc_areFull 1 (some .boolean) 0 0 [.ref (a 12)] (wB D (tyA cI cJ cZ) (wS a cI ru le li bn ip aw ns)) (.int (bI (decide (24 ≤ ns)))) := h_Sc_areFull l D a cI cJ cZ ru le li bn ip aw ns _ (bI_nar _) (by
  unfold V_Sc_areFull
  refine ⟨fun h => ?_, fun h => ?_⟩ <;> simp_all [bI])
theorem hd_Sc_areFull : y_Sc_areFull.cls ≠ "java/lang/invoke/MethodHandle" ∧ y_Sc_areFull.cls ≠ "java/lang/invoke/VarHandle" ∧ (parseMethodDescriptor y_Sc_areFull.desc).map (fun d => d.parameters.length) = some 0 := ⟨by decide, by decide, by decide +kernel⟩
def V_Sc_add (ru : Nat → Int32) (le : Nat → Int32) (li : Nat → Int32) (bn : Nat → Int32) (ip : Nat → Int32) (aw : Nat → Int32) (ns : Int32) (post : Int32 → (Nat → Int32) → (Nat → Int32) → (Nat → Int32) → (Nat → Int32) → (Nat → Int32) → (Nat → Int32) → Int32 → Prop) : Prop :=
  post ((ns + 1) - 1) ru le li bn ip aw (ns + 1)
set_option maxHeartbeats 4000000 in
set_option maxRecDepth 100000 in
theorem g_Sc_add {p : Program} {l : Launch} {e : Env} {R : Room} {s : State} {m : MethodId} {args : Array Value} {below : List Frame} {meth : Method} {c : Code} {H : Heap} {locs : List Loc} {cells slots : Nat} {Q : State → Prop} {ls : Array Slot} {A : Nat → Prop} (S : CallFix p m c b_Sc_add 1 s args W0 R_Sc) (hRf : 0 ≤ R.frames) (hRl : 0 ≤ R.locals) (hRc : cells ≤ R.cells ∧ slots ≤ R.slots) (D : va_G) (a : Nat → Nat) (cI cJ cZ : ClassId) (ru : Nat → Int32) (le : Nat → Int32) (li : Nat → Int32) (bn : Nat → Int32) (ip : Nat → Int32) (aw : Nat → Int32) (ns : Int32) (hK : va_K D vwCl (tyA cI cJ cZ) s) (hP : va_P D vwCl (wS a cI ru le li bn ip aw ns) H) (hD : va_D A (wS a cI ru le li bn ip aw ns)) (hA : ∀ q, s.heap.size ≤ q → A q) (hS : va_S A s.heap H locs) (hl : lv_has ls 1 [(0, .ref (a 12))]) {post : Int32 → (Nat → Int32) → (Nat → Int32) → (Nat → Int32) → (Nat → Int32) → (Nat → Int32) → (Nat → Int32) → Int32 → Prop} (vc : V_Sc_add ru le li bn ip aw ns post)
    (hret : ∀ (v : Int32) (ru : Nat → Int32) (le : Nat → Int32) (li : Nat → Int32) (bn : Nat → Int32) (ip : Nat → Int32) (aw : Nat → Int32) (ns : Int32) (ls : Array Slot) (pc : Nat) (H : Heap) (locs : List Loc), decode b_Sc_add pc = .ok (.ireturn, 1) → post v ru le li bn ip aw ns → va_P D vwCl (wS a cI ru le li bn ip aw ns) H → va_D A (wS a cI ru le li bn ip aw ns) → va_S A s.heap H locs → W p l e R s m args below meth c H locs cells slots Q (F0 m pc ls [.int v])) : W p l e R s m args below meth c H locs cells slots Q (F0 m 0 ls []) := by
  have hx := S.1
  have hb := S.2.1
  have hown := S.2.2.2.1
  have hts := S.2.2.2.2
  unfold V_Sc_add at vc
  refine lv_aload_n hx hb d_Sc_add_0 rfl (lv_at hl 0 rfl) ?_
  refine lv_dup hx hb d_Sc_add_1 rfl ?_
  refine va_get (D := D) (ci := 3) (v := .int ns) (C := R_Sc) (T := F_Sc) (N := 7) hx hb hts in_Sc hown hK hP 0 rfl rfl 6 (by decide) (hts _ fl_Sc_38) (fun _ h => h) rfl d_Sc_add_2 ?_
  refine lv_iconst (v := 1) hx hb d_Sc_add_5 (by decide) ?_
  refine lv_iadd hx hb d_Sc_add_6 ?_
  refine va_put (D := D) (ci := 3) (v := .int (ns + 1)) (ty := .int) (C := R_Sc) (T := F_Sc) (N := 7) hx hb hts in_Sc t_Sc t_Sc_ok n_Sc hown hK hP hD hS 0 rfl rfl 6 (by decide) (hts _ fl_Sc_38) (fun _ h => h) rfl (by decide +kernel) rfl rfl (Nat.le_of_ble_eq_true rfl) d_Sc_add_7 (fun H locs hP hD hS => ?_)
  have hP : va_P D vwCl (wS a cI ru le li bn ip aw (ns + 1)) H := hP
  have hD : va_D A (wS a cI ru le li bn ip aw (ns + 1)) := hD
  refine lv_aload_n hx hb d_Sc_add_10 rfl (lv_at hl 0 rfl) ?_
  refine va_get (D := D) (ci := 3) (v := .int (ns + 1)) (C := R_Sc) (T := F_Sc) (N := 7) hx hb hts in_Sc hown hK hP 0 rfl rfl 6 (by decide) (hts _ fl_Sc_38) (fun _ h => h) rfl d_Sc_add_11 ?_
  refine lv_iconst (v := 1) hx hb d_Sc_add_14 (by decide) ?_
  refine lv_isub hx hb d_Sc_add_15 ?_
  exact hret _ _ _ _ _ _ _ _ ls _ H locs d_Sc_add_16 vc hP hD hS
theorem h_Sc_add (l : Launch) (D : va_G) (a : Nat → Nat) (cI cJ cZ : ClassId) (ru : Nat → Int32) (le : Nat → Int32) (li : Nat → Int32) (bn : Nat → Int32) (ip : Nat → Int32) (aw : Nat → Int32) (ns : Int32) (r : Int32) (ru' : Nat → Int32) (le' : Nat → Int32) (li' : Nat → Int32) (bn' : Nat → Int32) (ip' : Nat → Int32) (aw' : Nat → Int32) (ns' : Int32) (vc : V_Sc_add ru le li bn ip aw ns (fun v ru le li bn ip aw ns => v = r ∧ ru = ru' ∧ le = le' ∧ li = li' ∧ bn = bn' ∧ ip = ip' ∧ aw = aw' ∧ ns = ns')) : Wm (S := Unit) l y_Sc_add b_Sc_add 1 (some .int) 0 0 [.ref (a 12)] D (tyA cI cJ cZ) (wS a cI ru le li bn ip aw ns) (fun _ => True) (fun _ => some (.int r)) (fun _ => (wS a cI ru' le' li' bn' ip' aw' ns')) :=
  wm_i (by decide) (fun _ _ => rfl) (Nat.le_of_ble_eq_true rfl) (fun p e s m below meth c ls Q A S hK hP hD hA hS hl hret => g_Sc_add S (Nat.le_refl _) (Nat.le_refl _) ⟨Nat.le_refl _, Nat.le_refl _⟩ D a cI cJ cZ ru le li bn ip aw ns hK hP hD hA hS hl vc (fun v ru le li bn ip aw ns ls pc H locs hd hv hP hD hS => by obtain ⟨rfl, rfl, rfl, rfl, rfl, rfl, rfl, rfl⟩ := hv; exact hret () _ ls pc H locs hd trivial rfl hP hD hS))
theorem c_Sc_add (l : Launch) (D : va_G) (a : Nat → Nat) (cI cJ cZ : ClassId) (ru : Nat → Int32) (le : Nat → Int32) (li : Nat → Int32) (bn : Nat → Int32) (ip : Nat → Int32) (aw : Nat → Int32) (ns : Int32) : Wm (S := Unit) l y_Sc_add b_Sc_add 1 (some .int) 0 0 [.ref (a 12)] D (tyA cI cJ cZ) (wS a cI ru le li bn ip aw ns) (fun _ => True) (fun _ => some (.int (ns + 1 - 1))) (fun _ => (wS a cI ru le li bn ip aw (ns + 1))) := h_Sc_add l D a cI cJ cZ ru le li bn ip aw ns _ _ _ _ _ _ _ _ (by
  unfold V_Sc_add
  exact ⟨rfl, rfl, rfl, rfl, rfl, rfl, rfl, rfl⟩)
theorem hd_Sc_add : y_Sc_add.cls ≠ "java/lang/invoke/MethodHandle" ∧ y_Sc_add.cls ≠ "java/lang/invoke/VarHandle" ∧ (parseMethodDescriptor y_Sc_add.desc).map (fun d => d.parameters.length) = some 0 := ⟨by decide, by decide, by decide +kernel⟩
def V_Sc_setRule (ru : Nat → Int32) (le : Nat → Int32) (li : Nat → Int32) (bn : Nat → Int32) (ip : Nat → Int32) (aw : Nat → Int32) (ns : Int32) (x : Int32) (k : Int32) (v : Int32) (post : (Nat → Int32) → (Nat → Int32) → (Nat → Int32) → (Nat → Int32) → (Nat → Int32) → (Nat → Int32) → Int32 → Prop) : Prop :=
  (vp_in ((x * 29) + k) 696 ∧ post (upd ru ((x * 29) + k : Int32).toNatClampNeg v) le li bn ip aw ns)
set_option maxHeartbeats 4000000 in
set_option maxRecDepth 100000 in
theorem g_Sc_setRule {p : Program} {l : Launch} {e : Env} {R : Room} {s : State} {m : MethodId} {args : Array Value} {below : List Frame} {meth : Method} {c : Code} {H : Heap} {locs : List Loc} {cells slots : Nat} {Q : State → Prop} {ls : Array Slot} {A : Nat → Prop} (S : CallFix p m c b_Sc_setRule 4 s args W0 R_Sc) (hRf : 0 ≤ R.frames) (hRl : 0 ≤ R.locals) (hRc : cells ≤ R.cells ∧ slots ≤ R.slots) (D : va_G) (a : Nat → Nat) (cI cJ cZ : ClassId) (ru : Nat → Int32) (le : Nat → Int32) (li : Nat → Int32) (bn : Nat → Int32) (ip : Nat → Int32) (aw : Nat → Int32) (ns : Int32) (x : Int32) (k : Int32) (v : Int32) (hK : va_K D vwCl (tyA cI cJ cZ) s) (hP : va_P D vwCl (wS a cI ru le li bn ip aw ns) H) (hD : va_D A (wS a cI ru le li bn ip aw ns)) (hA : ∀ q, s.heap.size ≤ q → A q) (hS : va_S A s.heap H locs) (hl : lv_has ls 4 [(0, .ref (a 12)), (1, .int x), (2, .int k), (3, .int v)]) {post : (Nat → Int32) → (Nat → Int32) → (Nat → Int32) → (Nat → Int32) → (Nat → Int32) → (Nat → Int32) → Int32 → Prop} (vc : V_Sc_setRule ru le li bn ip aw ns x k v post)
    (hret : ∀ (ru : Nat → Int32) (le : Nat → Int32) (li : Nat → Int32) (bn : Nat → Int32) (ip : Nat → Int32) (aw : Nat → Int32) (ns : Int32) (ls : Array Slot) (pc : Nat) (H : Heap) (locs : List Loc), decode b_Sc_setRule pc = .ok (.return_, 1) → post ru le li bn ip aw ns → va_P D vwCl (wS a cI ru le li bn ip aw ns) H → va_D A (wS a cI ru le li bn ip aw ns) → va_S A s.heap H locs → W p l e R s m args below meth c H locs cells slots Q (F0 m pc ls [])) : W p l e R s m args below meth c H locs cells slots Q (F0 m 0 ls []) := by
  have hx := S.1
  have hb := S.2.1
  have hown := S.2.2.2.1
  have hts := S.2.2.2.2
  unfold V_Sc_setRule at vc
  refine lv_aload_n hx hb d_Sc_setRule_0 rfl (lv_at hl 0 rfl) ?_
  refine va_get (D := D) (ci := 3) (v := .ref (a 13)) (C := R_Sc) (T := F_Sc) (N := 7) hx hb hts in_Sc hown hK hP 0 rfl rfl 0 (by decide) (hts _ fl_Sc_11) (fun _ h => h) rfl d_Sc_setRule_1 ?_
  refine lv_iload_n hx hb d_Sc_setRule_4 rfl (lv_at hl 1 rfl) ?_
  refine lv_bipush (v := 29) hx hb d_Sc_setRule_5 (by decide) ?_
  refine lv_imul hx hb d_Sc_setRule_7 ?_
  refine lv_iload_n hx hb d_Sc_setRule_8 rfl (lv_at hl 2 rfl) ?_
  refine lv_iadd hx hb d_Sc_setRule_9 ?_
  refine lv_iload_n hx hb d_Sc_setRule_10 rfl (lv_at hl 3 rfl) ?_
  obtain ⟨vcb, vc⟩ := vc
  refine va_iast hx hb hK hP hD hS 1 0 rfl rfl vcb d_Sc_setRule_11 (fun H locs hP hD hS => ?_)
  have hP : va_P D vwCl (wS a cI (upd ru ((x * 29) + k : Int32).toNatClampNeg v) le li bn ip aw ns) H := hP
  have hD : va_D A (wS a cI (upd ru ((x * 29) + k : Int32).toNatClampNeg v) le li bn ip aw ns) := hD
  exact hret _ _ _ _ _ _ _ ls _ H locs d_Sc_setRule_12 vc hP hD hS
theorem h_Sc_setRule (l : Launch) (D : va_G) (a : Nat → Nat) (cI cJ cZ : ClassId) (ru : Nat → Int32) (le : Nat → Int32) (li : Nat → Int32) (bn : Nat → Int32) (ip : Nat → Int32) (aw : Nat → Int32) (ns : Int32) (x : Int32) (k : Int32) (v : Int32) (ru' : Nat → Int32) (le' : Nat → Int32) (li' : Nat → Int32) (bn' : Nat → Int32) (ip' : Nat → Int32) (aw' : Nat → Int32) (ns' : Int32) (vc : V_Sc_setRule ru le li bn ip aw ns x k v (fun ru le li bn ip aw ns => ru = ru' ∧ le = le' ∧ li = li' ∧ bn = bn' ∧ ip = ip' ∧ aw = aw' ∧ ns = ns')) : Wm (S := Unit) l y_Sc_setRule b_Sc_setRule 4 none 0 0 [.ref (a 12), .int x, .int k, .int v] D (tyA cI cJ cZ) (wS a cI ru le li bn ip aw ns) (fun _ => True) (fun _ => none) (fun _ => (wS a cI ru' le' li' bn' ip' aw' ns')) :=
  wm_v (by decide) (Nat.le_of_ble_eq_true rfl) (fun p e s m below meth c ls Q A S hK hP hD hA hS hl hret => g_Sc_setRule S (Nat.le_refl _) (Nat.le_refl _) ⟨Nat.le_refl _, Nat.le_refl _⟩ D a cI cJ cZ ru le li bn ip aw ns x k v hK hP hD hA hS hl vc (fun ru le li bn ip aw ns ls pc H locs hd hv hP hD hS => by obtain ⟨rfl, rfl, rfl, rfl, rfl, rfl, rfl⟩ := hv; exact hret () ls pc H locs hd trivial hP hD hS))
theorem c_Sc_setRule (l : Launch) (D : va_G) (a : Nat → Nat) (cI cJ cZ : ClassId) (ru : Nat → Int32) (le : Nat → Int32) (li : Nat → Int32) (bn : Nat → Int32) (ip : Nat → Int32) (aw : Nat → Int32) (ns : Int32) (x : Int32) (k : Int32) (v : Int32) (hpre : vp_in (x * 29 + k) 696) : Wm (S := Unit) l y_Sc_setRule b_Sc_setRule 4 none 0 0 [.ref (a 12), .int x, .int k, .int v] D (tyA cI cJ cZ) (wS a cI ru le li bn ip aw ns) (fun _ => True) (fun _ => none) (fun _ => (wS a cI (upd ru (x * 29 + k : Int32).toNatClampNeg v) le li bn ip aw ns)) := h_Sc_setRule l D a cI cJ cZ ru le li bn ip aw ns x k v _ _ _ _ _ _ _ (by
  unfold V_Sc_setRule
  exact ⟨hpre, rfl, rfl, rfl, rfl, rfl, rfl, rfl⟩)
theorem hd_Sc_setRule : y_Sc_setRule.cls ≠ "java/lang/invoke/MethodHandle" ∧ y_Sc_setRule.cls ≠ "java/lang/invoke/VarHandle" ∧ (parseMethodDescriptor y_Sc_setRule.desc).map (fun d => d.parameters.length) = some 3 := ⟨by decide, by decide, by decide +kernel⟩
def V_Sc_ruleOf (ru : Nat → Int32) (le : Nat → Int32) (li : Nat → Int32) (bn : Nat → Int32) (ip : Nat → Int32) (aw : Nat → Int32) (ns : Int32) (x : Int32) (k : Int32) (post : Int32 → Prop) : Prop :=
  (vp_in ((x * 29) + k) 696 ∧ post (ru ((x * 29) + k : Int32).toNatClampNeg))
set_option maxHeartbeats 4000000 in
set_option maxRecDepth 100000 in
theorem g_Sc_ruleOf {p : Program} {l : Launch} {e : Env} {R : Room} {s : State} {m : MethodId} {args : Array Value} {below : List Frame} {meth : Method} {c : Code} {H : Heap} {locs : List Loc} {cells slots : Nat} {Q : State → Prop} {ls : Array Slot} (S : CallFix p m c b_Sc_ruleOf 3 s args W0 R_Sc) (hRf : 0 ≤ R.frames) (hRl : 0 ≤ R.locals) (hRc : cells ≤ R.cells ∧ slots ≤ R.slots) (D : va_G) (a : Nat → Nat) (cI cJ cZ : ClassId) (ru : Nat → Int32) (le : Nat → Int32) (li : Nat → Int32) (bn : Nat → Int32) (ip : Nat → Int32) (aw : Nat → Int32) (ns : Int32) (x : Int32) (k : Int32) (hK : va_K D vwCl (tyA cI cJ cZ) s) (hP : va_P D vwCl (wS a cI ru le li bn ip aw ns) H) (hl : lv_has ls 3 [(0, .ref (a 12)), (1, .int x), (2, .int k)]) {post : Int32 → Prop} (vc : V_Sc_ruleOf ru le li bn ip aw ns x k post)
    (hret : ∀ (v : Int32) (ls : Array Slot) (pc : Nat), decode b_Sc_ruleOf pc = .ok (.ireturn, 1) → post v → W p l e R s m args below meth c H locs cells slots Q (F0 m pc ls [.int v])) : W p l e R s m args below meth c H locs cells slots Q (F0 m 0 ls []) := by
  have hx := S.1
  have hb := S.2.1
  have hown := S.2.2.2.1
  have hts := S.2.2.2.2
  unfold V_Sc_ruleOf at vc
  refine lv_aload_n hx hb d_Sc_ruleOf_0 rfl (lv_at hl 0 rfl) ?_
  refine va_get (D := D) (ci := 3) (v := .ref (a 13)) (C := R_Sc) (T := F_Sc) (N := 7) hx hb hts in_Sc hown hK hP 0 rfl rfl 0 (by decide) (hts _ fl_Sc_11) (fun _ h => h) rfl d_Sc_ruleOf_1 ?_
  refine lv_iload_n hx hb d_Sc_ruleOf_4 rfl (lv_at hl 1 rfl) ?_
  refine lv_bipush (v := 29) hx hb d_Sc_ruleOf_5 (by decide) ?_
  refine lv_imul hx hb d_Sc_ruleOf_7 ?_
  refine lv_iload_n hx hb d_Sc_ruleOf_8 rfl (lv_at hl 2 rfl) ?_
  refine lv_iadd hx hb d_Sc_ruleOf_9 ?_
  obtain ⟨vcb, vc⟩ := vc
  refine va_iald hx hb hK hP 1 0 rfl rfl vcb d_Sc_ruleOf_10 ?_
  exact hret _ ls _ d_Sc_ruleOf_11 vc
theorem h_Sc_ruleOf (l : Launch) (D : va_G) (a : Nat → Nat) (cI cJ cZ : ClassId) (ru : Nat → Int32) (le : Nat → Int32) (li : Nat → Int32) (bn : Nat → Int32) (ip : Nat → Int32) (aw : Nat → Int32) (ns : Int32) (x : Int32) (k : Int32) (r : Int32) (vc : V_Sc_ruleOf ru le li bn ip aw ns x k (fun v => v = r)) : Pm l y_Sc_ruleOf b_Sc_ruleOf 3 (some .int) 0 0 [.ref (a 12), .int x, .int k] (wB D (tyA cI cJ cZ) (wS a cI ru le li bn ip aw ns)) (.int r) :=
  pm_i (by decide) rfl (Nat.le_of_ble_eq_true rfl) (fun p e s m below meth c ls Q S hB hl hret => g_Sc_ruleOf S (Nat.le_refl _) (Nat.le_refl _) ⟨Nat.le_refl _, Nat.le_refl _⟩ D a cI cJ cZ ru le li bn ip aw ns x k hB.2 hB.1 hl vc hret)
theorem c_Sc_ruleOf (l : Launch) (D : va_G) (a : Nat → Nat) (cI cJ cZ : ClassId) (ru : Nat → Int32) (le : Nat → Int32) (li : Nat → Int32) (bn : Nat → Int32) (ip : Nat → Int32) (aw : Nat → Int32) (ns : Int32) (x : Int32) (k : Int32) (hpre : vp_in (x * 29 + k) 696) : Pm l y_Sc_ruleOf b_Sc_ruleOf 3 (some .int) 0 0 [.ref (a 12), .int x, .int k] (wB D (tyA cI cJ cZ) (wS a cI ru le li bn ip aw ns)) (.int (ru (x * 29 + k : Int32).toNatClampNeg)) := h_Sc_ruleOf l D a cI cJ cZ ru le li bn ip aw ns x k _ (by
  unfold V_Sc_ruleOf
  exact ⟨hpre, rfl⟩)
theorem hd_Sc_ruleOf : y_Sc_ruleOf.cls ≠ "java/lang/invoke/MethodHandle" ∧ y_Sc_ruleOf.cls ≠ "java/lang/invoke/VarHandle" ∧ (parseMethodDescriptor y_Sc_ruleOf.desc).map (fun d => d.parameters.length) = some 2 := ⟨by decide, by decide, by decide +kernel⟩
def V_Sc_listIndex (x : Int32) (k : Int32) (post : Int32 → Prop) : Prop :=
  post (((x * 4) + k) - 29)
set_option maxHeartbeats 4000000 in
set_option maxRecDepth 100000 in
theorem g_Sc_listIndex {p : Program} {l : Launch} {e : Env} {R : Room} {s : State} {m : MethodId} {args : Array Value} {below : List Frame} {meth : Method} {c : Code} {H : Heap} {locs : List Loc} {cells slots : Nat} {Q : State → Prop} {ls : Array Slot} (S : CallFix p m c b_Sc_listIndex 2 s args W0 R_Sc) (hRf : 0 ≤ R.frames) (hRl : 0 ≤ R.locals) (hRc : cells ≤ R.cells ∧ slots ≤ R.slots) (x : Int32) (k : Int32) (hl : lv_has ls 2 [(0, .int x), (1, .int k)]) {post : Int32 → Prop} (vc : V_Sc_listIndex x k post)
    (hret : ∀ (v : Int32) (ls : Array Slot) (pc : Nat), decode b_Sc_listIndex pc = .ok (.ireturn, 1) → post v → W p l e R s m args below meth c H locs cells slots Q (F0 m pc ls [.int v])) : W p l e R s m args below meth c H locs cells slots Q (F0 m 0 ls []) := by
  have hx := S.1
  have hb := S.2.1
  have hown := S.2.2.2.1
  have hts := S.2.2.2.2
  unfold V_Sc_listIndex at vc
  refine lv_iload_n hx hb d_Sc_listIndex_0 rfl (lv_at hl 0 rfl) ?_
  refine lv_iconst (v := 4) hx hb d_Sc_listIndex_1 (by decide) ?_
  refine lv_imul hx hb d_Sc_listIndex_2 ?_
  refine lv_iload_n hx hb d_Sc_listIndex_3 rfl (lv_at hl 1 rfl) ?_
  refine lv_iadd hx hb d_Sc_listIndex_4 ?_
  refine lv_bipush (v := 29) hx hb d_Sc_listIndex_5 (by decide) ?_
  refine lv_isub hx hb d_Sc_listIndex_7 ?_
  exact hret _ ls _ d_Sc_listIndex_8 vc
theorem h_Sc_listIndex (l : Launch) (x : Int32) (k : Int32) (r : Int32) (vc : V_Sc_listIndex x k (fun v => v = r)) : Pm l y_Sc_listIndex b_Sc_listIndex 2 (some .int) 0 0 [.int x, .int k] wT (.int r) :=
  pm_i (by decide) rfl (Nat.le_of_ble_eq_true rfl) (fun p e s m below meth c ls Q S hB hl hret => g_Sc_listIndex S (Nat.le_refl _) (Nat.le_refl _) ⟨Nat.le_refl _, Nat.le_refl _⟩ x k hl vc hret)
theorem c_Sc_listIndex (l : Launch) (x : Int32) (k : Int32) : Pm l y_Sc_listIndex b_Sc_listIndex 2 (some .int) 0 0 [.int x, .int k] wT (.int (x * 4 + k - 29)) := h_Sc_listIndex l x k _ (by
  unfold V_Sc_listIndex
  rfl)
theorem hd_Sc_listIndex : y_Sc_listIndex.cls ≠ "java/lang/invoke/MethodHandle" ∧ y_Sc_listIndex.cls ≠ "java/lang/invoke/VarHandle" ∧ (parseMethodDescriptor y_Sc_listIndex.desc).map (fun d => d.parameters.length) = some 2 := ⟨by decide, by decide, by decide +kernel⟩
def V_Sc_lengthOf (ru : Nat → Int32) (le : Nat → Int32) (li : Nat → Int32) (bn : Nat → Int32) (ip : Nat → Int32) (aw : Nat → Int32) (ns : Int32) (x : Int32) (k : Int32) (post : Int32 → Prop) : Prop :=
  (vp_in (x * 4 + k - 29) 96 ∧ post (le (x * 4 + k - 29 : Int32).toNatClampNeg))
set_option maxHeartbeats 4000000 in
set_option maxRecDepth 100000 in
theorem g_Sc_lengthOf {p : Program} {l : Launch} {e : Env} {R : Room} {s : State} {m : MethodId} {args : Array Value} {below : List Frame} {meth : Method} {c : Code} {H : Heap} {locs : List Loc} {cells slots : Nat} {Q : State → Prop} {ls : Array Slot} (S : CallFix p m c b_Sc_lengthOf 3 s args W0 R_Sc) (hRf : 1 ≤ R.frames) (hRl : 21 ≤ R.locals) (hRc : cells ≤ R.cells ∧ slots ≤ R.slots) (D : va_G) (a : Nat → Nat) (cI cJ cZ : ClassId) (ru : Nat → Int32) (le : Nat → Int32) (li : Nat → Int32) (bn : Nat → Int32) (ip : Nat → Int32) (aw : Nat → Int32) (ns : Int32) (x : Int32) (k : Int32) (hK : va_K D vwCl (tyA cI cJ cZ) s) (hP : va_P D vwCl (wS a cI ru le li bn ip aw ns) H) (hl : lv_has ls 3 [(0, .ref (a 12)), (1, .int x), (2, .int k)]) {post : Int32 → Prop} (vc : V_Sc_lengthOf ru le li bn ip aw ns x k post)
    (hret : ∀ (v : Int32) (ls : Array Slot) (pc : Nat), decode b_Sc_lengthOf pc = .ok (.ireturn, 1) → post v → W p l e R s m args below meth c H locs cells slots Q (F0 m pc ls [.int v])) : W p l e R s m args below meth c H locs cells slots Q (F0 m 0 ls []) := by
  have hx := S.1
  have hb := S.2.1
  have hown := S.2.2.2.1
  have hts := S.2.2.2.2
  unfold V_Sc_lengthOf at vc
  refine lv_aload_n hx hb d_Sc_lengthOf_0 rfl (lv_at hl 0 rfl) ?_
  refine va_get (D := D) (ci := 3) (v := .ref (a 14)) (C := R_Sc) (T := F_Sc) (N := 7) hx hb hts in_Sc hown hK hP 0 rfl rfl 1 (by decide) (hts _ fl_Sc_21) (fun _ h => h) rfl d_Sc_lengthOf_1 ?_
  refine lv_iload_n hx hb d_Sc_lengthOf_4 rfl (lv_at hl 1 rfl) ?_
  refine lv_iload_n hx hb d_Sc_lengthOf_5 rfl (lv_at hl 2 rfl) ?_
  refine pc_S (As := [.int x, .int k]) (rest := [.ref (a 14)]) S (c_Sc_listIndex l x k) wT_blind k_Sc_listIndex s_Sc_listIndex o_Sc ml_Sc_42 hd_Sc_listIndex (Nat.le_trans (by decide) hRf) (Nat.le_trans (by decide) hRl) hRc (fun _ _ _ => trivial) hl.1 rfl (Nat.le_of_ble_eq_true rfl) d_Sc_lengthOf_6 ?_
  obtain ⟨vcb, vc⟩ := vc
  refine va_iald hx hb hK hP 2 0 rfl rfl vcb d_Sc_lengthOf_9 ?_
  exact hret _ ls _ d_Sc_lengthOf_10 vc
theorem h_Sc_lengthOf (l : Launch) (D : va_G) (a : Nat → Nat) (cI cJ cZ : ClassId) (ru : Nat → Int32) (le : Nat → Int32) (li : Nat → Int32) (bn : Nat → Int32) (ip : Nat → Int32) (aw : Nat → Int32) (ns : Int32) (x : Int32) (k : Int32) (r : Int32) (vc : V_Sc_lengthOf ru le li bn ip aw ns x k (fun v => v = r)) : Pm l y_Sc_lengthOf b_Sc_lengthOf 3 (some .int) 1 21 [.ref (a 12), .int x, .int k] (wB D (tyA cI cJ cZ) (wS a cI ru le li bn ip aw ns)) (.int r) :=
  pm_i (by decide) rfl (Nat.le_of_ble_eq_true rfl) (fun p e s m below meth c ls Q S hB hl hret => g_Sc_lengthOf S (Nat.le_refl _) (Nat.le_refl _) ⟨Nat.le_refl _, Nat.le_refl _⟩ D a cI cJ cZ ru le li bn ip aw ns x k hB.2 hB.1 hl vc hret)
theorem c_Sc_lengthOf (l : Launch) (D : va_G) (a : Nat → Nat) (cI cJ cZ : ClassId) (ru : Nat → Int32) (le : Nat → Int32) (li : Nat → Int32) (bn : Nat → Int32) (ip : Nat → Int32) (aw : Nat → Int32) (ns : Int32) (x : Int32) (k : Int32) (hpre : vp_in (x * 4 + k - 29) 96) : Pm l y_Sc_lengthOf b_Sc_lengthOf 3 (some .int) 1 21 [.ref (a 12), .int x, .int k] (wB D (tyA cI cJ cZ) (wS a cI ru le li bn ip aw ns)) (.int (le (x * 4 + k - 29 : Int32).toNatClampNeg)) := h_Sc_lengthOf l D a cI cJ cZ ru le li bn ip aw ns x k _ (by
  unfold V_Sc_lengthOf
  exact ⟨hpre, rfl⟩)
theorem hd_Sc_lengthOf : y_Sc_lengthOf.cls ≠ "java/lang/invoke/MethodHandle" ∧ y_Sc_lengthOf.cls ≠ "java/lang/invoke/VarHandle" ∧ (parseMethodDescriptor y_Sc_lengthOf.desc).map (fun d => d.parameters.length) = some 2 := ⟨by decide, by decide, by decide +kernel⟩
def V_Sc_listedAt (ru : Nat → Int32) (le : Nat → Int32) (li : Nat → Int32) (bn : Nat → Int32) (ip : Nat → Int32) (aw : Nat → Int32) (ns : Int32) (x : Int32) (k : Int32) (i : Int32) (post : Int32 → Prop) : Prop :=
  (vp_in (((x * 4 + k - 29) * 3) + i) 288 ∧ post (li (((x * 4 + k - 29) * 3) + i : Int32).toNatClampNeg))
set_option maxHeartbeats 4000000 in
set_option maxRecDepth 100000 in
theorem g_Sc_listedAt {p : Program} {l : Launch} {e : Env} {R : Room} {s : State} {m : MethodId} {args : Array Value} {below : List Frame} {meth : Method} {c : Code} {H : Heap} {locs : List Loc} {cells slots : Nat} {Q : State → Prop} {ls : Array Slot} (S : CallFix p m c b_Sc_listedAt 4 s args W0 R_Sc) (hRf : 1 ≤ R.frames) (hRl : 21 ≤ R.locals) (hRc : cells ≤ R.cells ∧ slots ≤ R.slots) (D : va_G) (a : Nat → Nat) (cI cJ cZ : ClassId) (ru : Nat → Int32) (le : Nat → Int32) (li : Nat → Int32) (bn : Nat → Int32) (ip : Nat → Int32) (aw : Nat → Int32) (ns : Int32) (x : Int32) (k : Int32) (i : Int32) (hK : va_K D vwCl (tyA cI cJ cZ) s) (hP : va_P D vwCl (wS a cI ru le li bn ip aw ns) H) (hl : lv_has ls 4 [(0, .ref (a 12)), (1, .int x), (2, .int k), (3, .int i)]) {post : Int32 → Prop} (vc : V_Sc_listedAt ru le li bn ip aw ns x k i post)
    (hret : ∀ (v : Int32) (ls : Array Slot) (pc : Nat), decode b_Sc_listedAt pc = .ok (.ireturn, 1) → post v → W p l e R s m args below meth c H locs cells slots Q (F0 m pc ls [.int v])) : W p l e R s m args below meth c H locs cells slots Q (F0 m 0 ls []) := by
  have hx := S.1
  have hb := S.2.1
  have hown := S.2.2.2.1
  have hts := S.2.2.2.2
  unfold V_Sc_listedAt at vc
  refine lv_aload_n hx hb d_Sc_listedAt_0 rfl (lv_at hl 0 rfl) ?_
  refine va_get (D := D) (ci := 3) (v := .ref (a 15)) (C := R_Sc) (T := F_Sc) (N := 7) hx hb hts in_Sc hown hK hP 0 rfl rfl 2 (by decide) (hts _ fl_Sc_24) (fun _ h => h) rfl d_Sc_listedAt_1 ?_
  refine lv_iload_n hx hb d_Sc_listedAt_4 rfl (lv_at hl 1 rfl) ?_
  refine lv_iload_n hx hb d_Sc_listedAt_5 rfl (lv_at hl 2 rfl) ?_
  refine pc_S (As := [.int x, .int k]) (rest := [.ref (a 15)]) S (c_Sc_listIndex l x k) wT_blind k_Sc_listIndex s_Sc_listIndex o_Sc ml_Sc_42 hd_Sc_listIndex (Nat.le_trans (by decide) hRf) (Nat.le_trans (by decide) hRl) hRc (fun _ _ _ => trivial) hl.1 rfl (Nat.le_of_ble_eq_true rfl) d_Sc_listedAt_6 ?_
  refine lv_iconst (v := 3) hx hb d_Sc_listedAt_9 (by decide) ?_
  refine lv_imul hx hb d_Sc_listedAt_10 ?_
  refine lv_iload_n hx hb d_Sc_listedAt_11 rfl (lv_at hl 3 rfl) ?_
  refine lv_iadd hx hb d_Sc_listedAt_12 ?_
  obtain ⟨vcb, vc⟩ := vc
  refine va_iald hx hb hK hP 3 0 rfl rfl vcb d_Sc_listedAt_13 ?_
  exact hret _ ls _ d_Sc_listedAt_14 vc
theorem h_Sc_listedAt (l : Launch) (D : va_G) (a : Nat → Nat) (cI cJ cZ : ClassId) (ru : Nat → Int32) (le : Nat → Int32) (li : Nat → Int32) (bn : Nat → Int32) (ip : Nat → Int32) (aw : Nat → Int32) (ns : Int32) (x : Int32) (k : Int32) (i : Int32) (r : Int32) (vc : V_Sc_listedAt ru le li bn ip aw ns x k i (fun v => v = r)) : Pm l y_Sc_listedAt b_Sc_listedAt 4 (some .int) 1 21 [.ref (a 12), .int x, .int k, .int i] (wB D (tyA cI cJ cZ) (wS a cI ru le li bn ip aw ns)) (.int r) :=
  pm_i (by decide) rfl (Nat.le_of_ble_eq_true rfl) (fun p e s m below meth c ls Q S hB hl hret => g_Sc_listedAt S (Nat.le_refl _) (Nat.le_refl _) ⟨Nat.le_refl _, Nat.le_refl _⟩ D a cI cJ cZ ru le li bn ip aw ns x k i hB.2 hB.1 hl vc hret)
theorem c_Sc_listedAt (l : Launch) (D : va_G) (a : Nat → Nat) (cI cJ cZ : ClassId) (ru : Nat → Int32) (le : Nat → Int32) (li : Nat → Int32) (bn : Nat → Int32) (ip : Nat → Int32) (aw : Nat → Int32) (ns : Int32) (x : Int32) (k : Int32) (i : Int32) (hpre : vp_in ((x * 4 + k - 29) * 3 + i) 288) : Pm l y_Sc_listedAt b_Sc_listedAt 4 (some .int) 1 21 [.ref (a 12), .int x, .int k, .int i] (wB D (tyA cI cJ cZ) (wS a cI ru le li bn ip aw ns)) (.int (li ((x * 4 + k - 29) * 3 + i : Int32).toNatClampNeg)) := h_Sc_listedAt l D a cI cJ cZ ru le li bn ip aw ns x k i _ (by
  unfold V_Sc_listedAt
  exact ⟨hpre, rfl⟩)
theorem hd_Sc_listedAt : y_Sc_listedAt.cls ≠ "java/lang/invoke/MethodHandle" ∧ y_Sc_listedAt.cls ≠ "java/lang/invoke/VarHandle" ∧ (parseMethodDescriptor y_Sc_listedAt.desc).map (fun d => d.parameters.length) = some 3 := ⟨by decide, by decide, by decide +kernel⟩
def V_Sc_nameIndex (x : Int32) (k : Int32) (q : Int32) (post : Int32 → Prop) : Prop :=
  post (((((x * 3) + k) - 33) * 12) + q)
set_option maxHeartbeats 4000000 in
set_option maxRecDepth 100000 in
theorem g_Sc_nameIndex {p : Program} {l : Launch} {e : Env} {R : Room} {s : State} {m : MethodId} {args : Array Value} {below : List Frame} {meth : Method} {c : Code} {H : Heap} {locs : List Loc} {cells slots : Nat} {Q : State → Prop} {ls : Array Slot} (S : CallFix p m c b_Sc_nameIndex 3 s args W0 R_Sc) (hRf : 0 ≤ R.frames) (hRl : 0 ≤ R.locals) (hRc : cells ≤ R.cells ∧ slots ≤ R.slots) (x : Int32) (k : Int32) (q : Int32) (hl : lv_has ls 3 [(0, .int x), (1, .int k), (2, .int q)]) {post : Int32 → Prop} (vc : V_Sc_nameIndex x k q post)
    (hret : ∀ (v : Int32) (ls : Array Slot) (pc : Nat), decode b_Sc_nameIndex pc = .ok (.ireturn, 1) → post v → W p l e R s m args below meth c H locs cells slots Q (F0 m pc ls [.int v])) : W p l e R s m args below meth c H locs cells slots Q (F0 m 0 ls []) := by
  have hx := S.1
  have hb := S.2.1
  have hown := S.2.2.2.1
  have hts := S.2.2.2.2
  unfold V_Sc_nameIndex at vc
  refine lv_iload_n hx hb d_Sc_nameIndex_0 rfl (lv_at hl 0 rfl) ?_
  refine lv_iconst (v := 3) hx hb d_Sc_nameIndex_1 (by decide) ?_
  refine lv_imul hx hb d_Sc_nameIndex_2 ?_
  refine lv_iload_n hx hb d_Sc_nameIndex_3 rfl (lv_at hl 1 rfl) ?_
  refine lv_iadd hx hb d_Sc_nameIndex_4 ?_
  refine lv_bipush (v := 33) hx hb d_Sc_nameIndex_5 (by decide) ?_
  refine lv_isub hx hb d_Sc_nameIndex_7 ?_
  refine lv_bipush (v := 12) hx hb d_Sc_nameIndex_8 (by decide) ?_
  refine lv_imul hx hb d_Sc_nameIndex_10 ?_
  refine lv_iload_n hx hb d_Sc_nameIndex_11 rfl (lv_at hl 2 rfl) ?_
  refine lv_iadd hx hb d_Sc_nameIndex_12 ?_
  exact hret _ ls _ d_Sc_nameIndex_13 vc
theorem h_Sc_nameIndex (l : Launch) (x : Int32) (k : Int32) (q : Int32) (r : Int32) (vc : V_Sc_nameIndex x k q (fun v => v = r)) : Pm l y_Sc_nameIndex b_Sc_nameIndex 3 (some .int) 0 0 [.int x, .int k, .int q] wT (.int r) :=
  pm_i (by decide) rfl (Nat.le_of_ble_eq_true rfl) (fun p e s m below meth c ls Q S hB hl hret => g_Sc_nameIndex S (Nat.le_refl _) (Nat.le_refl _) ⟨Nat.le_refl _, Nat.le_refl _⟩ x k q hl vc hret)
theorem c_Sc_nameIndex (l : Launch) (x : Int32) (k : Int32) (q : Int32) : Pm l y_Sc_nameIndex b_Sc_nameIndex 3 (some .int) 0 0 [.int x, .int k, .int q] wT (.int ((x * 3 + k - 33) * 12 + q)) := h_Sc_nameIndex l x k q _ (by
  unfold V_Sc_nameIndex
  rfl)
theorem hd_Sc_nameIndex : y_Sc_nameIndex.cls ≠ "java/lang/invoke/MethodHandle" ∧ y_Sc_nameIndex.cls ≠ "java/lang/invoke/VarHandle" ∧ (parseMethodDescriptor y_Sc_nameIndex.desc).map (fun d => d.parameters.length) = some 3 := ⟨by decide, by decide, by decide +kernel⟩
def V_Sc_setByName (ru : Nat → Int32) (le : Nat → Int32) (li : Nat → Int32) (bn : Nat → Int32) (ip : Nat → Int32) (aw : Nat → Int32) (ns : Int32) (x : Int32) (k : Int32) (q : Int32) (v : Int32) (post : (Nat → Int32) → (Nat → Int32) → (Nat → Int32) → (Nat → Int32) → (Nat → Int32) → (Nat → Int32) → Int32 → Prop) : Prop :=
  (vp_in ((x * 3 + k - 33) * 12 + q) 864 ∧ post ru le li (upd bn ((x * 3 + k - 33) * 12 + q : Int32).toNatClampNeg v) ip aw ns)
set_option maxHeartbeats 4000000 in
set_option maxRecDepth 100000 in
theorem g_Sc_setByName {p : Program} {l : Launch} {e : Env} {R : Room} {s : State} {m : MethodId} {args : Array Value} {below : List Frame} {meth : Method} {c : Code} {H : Heap} {locs : List Loc} {cells slots : Nat} {Q : State → Prop} {ls : Array Slot} {A : Nat → Prop} (S : CallFix p m c b_Sc_setByName 5 s args W0 R_Sc) (hRf : 1 ≤ R.frames) (hRl : 22 ≤ R.locals) (hRc : cells ≤ R.cells ∧ slots ≤ R.slots) (D : va_G) (a : Nat → Nat) (cI cJ cZ : ClassId) (ru : Nat → Int32) (le : Nat → Int32) (li : Nat → Int32) (bn : Nat → Int32) (ip : Nat → Int32) (aw : Nat → Int32) (ns : Int32) (x : Int32) (k : Int32) (q : Int32) (v : Int32) (hK : va_K D vwCl (tyA cI cJ cZ) s) (hP : va_P D vwCl (wS a cI ru le li bn ip aw ns) H) (hD : va_D A (wS a cI ru le li bn ip aw ns)) (hA : ∀ q, s.heap.size ≤ q → A q) (hS : va_S A s.heap H locs) (hl : lv_has ls 5 [(0, .ref (a 12)), (1, .int x), (2, .int k), (3, .int q), (4, .int v)]) {post : (Nat → Int32) → (Nat → Int32) → (Nat → Int32) → (Nat → Int32) → (Nat → Int32) → (Nat → Int32) → Int32 → Prop} (vc : V_Sc_setByName ru le li bn ip aw ns x k q v post)
    (hret : ∀ (ru : Nat → Int32) (le : Nat → Int32) (li : Nat → Int32) (bn : Nat → Int32) (ip : Nat → Int32) (aw : Nat → Int32) (ns : Int32) (ls : Array Slot) (pc : Nat) (H : Heap) (locs : List Loc), decode b_Sc_setByName pc = .ok (.return_, 1) → post ru le li bn ip aw ns → va_P D vwCl (wS a cI ru le li bn ip aw ns) H → va_D A (wS a cI ru le li bn ip aw ns) → va_S A s.heap H locs → W p l e R s m args below meth c H locs cells slots Q (F0 m pc ls [])) : W p l e R s m args below meth c H locs cells slots Q (F0 m 0 ls []) := by
  have hx := S.1
  have hb := S.2.1
  have hown := S.2.2.2.1
  have hts := S.2.2.2.2
  unfold V_Sc_setByName at vc
  refine lv_aload_n hx hb d_Sc_setByName_0 rfl (lv_at hl 0 rfl) ?_
  refine va_get (D := D) (ci := 3) (v := .ref (a 16)) (C := R_Sc) (T := F_Sc) (N := 7) hx hb hts in_Sc hown hK hP 0 rfl rfl 3 (by decide) (hts _ fl_Sc_29) (fun _ h => h) rfl d_Sc_setByName_1 ?_
  refine lv_iload_n hx hb d_Sc_setByName_4 rfl (lv_at hl 1 rfl) ?_
  refine lv_iload_n hx hb d_Sc_setByName_5 rfl (lv_at hl 2 rfl) ?_
  refine lv_iload_n hx hb d_Sc_setByName_6 rfl (lv_at hl 3 rfl) ?_
  refine pc_S (As := [.int x, .int k, .int q]) (rest := [.ref (a 16)]) S (c_Sc_nameIndex l x k q) wT_blind k_Sc_nameIndex s_Sc_nameIndex o_Sc ml_Sc_46 hd_Sc_nameIndex (Nat.le_trans (by decide) hRf) (Nat.le_trans (by decide) hRl) hRc (fun _ _ _ => trivial) hl.1 rfl (Nat.le_of_ble_eq_true rfl) d_Sc_setByName_7 ?_
  refine lv_iload hx hb d_Sc_setByName_10 (lv_at hl 4 rfl) ?_
  obtain ⟨vcb, vc⟩ := vc
  refine va_iast hx hb hK hP hD hS 4 0 rfl rfl vcb d_Sc_setByName_12 (fun H locs hP hD hS => ?_)
  have hP : va_P D vwCl (wS a cI ru le li (upd bn ((x * 3 + k - 33) * 12 + q : Int32).toNatClampNeg v) ip aw ns) H := hP
  have hD : va_D A (wS a cI ru le li (upd bn ((x * 3 + k - 33) * 12 + q : Int32).toNatClampNeg v) ip aw ns) := hD
  exact hret _ _ _ _ _ _ _ ls _ H locs d_Sc_setByName_13 vc hP hD hS
theorem h_Sc_setByName (l : Launch) (D : va_G) (a : Nat → Nat) (cI cJ cZ : ClassId) (ru : Nat → Int32) (le : Nat → Int32) (li : Nat → Int32) (bn : Nat → Int32) (ip : Nat → Int32) (aw : Nat → Int32) (ns : Int32) (x : Int32) (k : Int32) (q : Int32) (v : Int32) (ru' : Nat → Int32) (le' : Nat → Int32) (li' : Nat → Int32) (bn' : Nat → Int32) (ip' : Nat → Int32) (aw' : Nat → Int32) (ns' : Int32) (vc : V_Sc_setByName ru le li bn ip aw ns x k q v (fun ru le li bn ip aw ns => ru = ru' ∧ le = le' ∧ li = li' ∧ bn = bn' ∧ ip = ip' ∧ aw = aw' ∧ ns = ns')) : Wm (S := Unit) l y_Sc_setByName b_Sc_setByName 5 none 1 22 [.ref (a 12), .int x, .int k, .int q, .int v] D (tyA cI cJ cZ) (wS a cI ru le li bn ip aw ns) (fun _ => True) (fun _ => none) (fun _ => (wS a cI ru' le' li' bn' ip' aw' ns')) :=
  wm_v (by decide) (Nat.le_of_ble_eq_true rfl) (fun p e s m below meth c ls Q A S hK hP hD hA hS hl hret => g_Sc_setByName S (Nat.le_refl _) (Nat.le_refl _) ⟨Nat.le_refl _, Nat.le_refl _⟩ D a cI cJ cZ ru le li bn ip aw ns x k q v hK hP hD hA hS hl vc (fun ru le li bn ip aw ns ls pc H locs hd hv hP hD hS => by obtain ⟨rfl, rfl, rfl, rfl, rfl, rfl, rfl⟩ := hv; exact hret () ls pc H locs hd trivial hP hD hS))
theorem c_Sc_setByName (l : Launch) (D : va_G) (a : Nat → Nat) (cI cJ cZ : ClassId) (ru : Nat → Int32) (le : Nat → Int32) (li : Nat → Int32) (bn : Nat → Int32) (ip : Nat → Int32) (aw : Nat → Int32) (ns : Int32) (x : Int32) (k : Int32) (q : Int32) (v : Int32) (hpre : vp_in ((x * 3 + k - 33) * 12 + q) 864) : Wm (S := Unit) l y_Sc_setByName b_Sc_setByName 5 none 1 22 [.ref (a 12), .int x, .int k, .int q, .int v] D (tyA cI cJ cZ) (wS a cI ru le li bn ip aw ns) (fun _ => True) (fun _ => none) (fun _ => (wS a cI ru le li (upd bn ((x * 3 + k - 33) * 12 + q : Int32).toNatClampNeg v) ip aw ns)) := h_Sc_setByName l D a cI cJ cZ ru le li bn ip aw ns x k q v _ _ _ _ _ _ _ (by
  unfold V_Sc_setByName
  exact ⟨hpre, rfl, rfl, rfl, rfl, rfl, rfl, rfl⟩)
theorem hd_Sc_setByName : y_Sc_setByName.cls ≠ "java/lang/invoke/MethodHandle" ∧ y_Sc_setByName.cls ≠ "java/lang/invoke/VarHandle" ∧ (parseMethodDescriptor y_Sc_setByName.desc).map (fun d => d.parameters.length) = some 4 := ⟨by decide, by decide, by decide +kernel⟩
def V_Sc_byNameOf (ru : Nat → Int32) (le : Nat → Int32) (li : Nat → Int32) (bn : Nat → Int32) (ip : Nat → Int32) (aw : Nat → Int32) (ns : Int32) (x : Int32) (k : Int32) (q : Int32) (post : Int32 → Prop) : Prop :=
  (vp_in ((x * 3 + k - 33) * 12 + q) 864 ∧ post (bn ((x * 3 + k - 33) * 12 + q : Int32).toNatClampNeg))
set_option maxHeartbeats 4000000 in
set_option maxRecDepth 100000 in
theorem g_Sc_byNameOf {p : Program} {l : Launch} {e : Env} {R : Room} {s : State} {m : MethodId} {args : Array Value} {below : List Frame} {meth : Method} {c : Code} {H : Heap} {locs : List Loc} {cells slots : Nat} {Q : State → Prop} {ls : Array Slot} (S : CallFix p m c b_Sc_byNameOf 4 s args W0 R_Sc) (hRf : 1 ≤ R.frames) (hRl : 22 ≤ R.locals) (hRc : cells ≤ R.cells ∧ slots ≤ R.slots) (D : va_G) (a : Nat → Nat) (cI cJ cZ : ClassId) (ru : Nat → Int32) (le : Nat → Int32) (li : Nat → Int32) (bn : Nat → Int32) (ip : Nat → Int32) (aw : Nat → Int32) (ns : Int32) (x : Int32) (k : Int32) (q : Int32) (hK : va_K D vwCl (tyA cI cJ cZ) s) (hP : va_P D vwCl (wS a cI ru le li bn ip aw ns) H) (hl : lv_has ls 4 [(0, .ref (a 12)), (1, .int x), (2, .int k), (3, .int q)]) {post : Int32 → Prop} (vc : V_Sc_byNameOf ru le li bn ip aw ns x k q post)
    (hret : ∀ (v : Int32) (ls : Array Slot) (pc : Nat), decode b_Sc_byNameOf pc = .ok (.ireturn, 1) → post v → W p l e R s m args below meth c H locs cells slots Q (F0 m pc ls [.int v])) : W p l e R s m args below meth c H locs cells slots Q (F0 m 0 ls []) := by
  have hx := S.1
  have hb := S.2.1
  have hown := S.2.2.2.1
  have hts := S.2.2.2.2
  unfold V_Sc_byNameOf at vc
  refine lv_aload_n hx hb d_Sc_byNameOf_0 rfl (lv_at hl 0 rfl) ?_
  refine va_get (D := D) (ci := 3) (v := .ref (a 16)) (C := R_Sc) (T := F_Sc) (N := 7) hx hb hts in_Sc hown hK hP 0 rfl rfl 3 (by decide) (hts _ fl_Sc_29) (fun _ h => h) rfl d_Sc_byNameOf_1 ?_
  refine lv_iload_n hx hb d_Sc_byNameOf_4 rfl (lv_at hl 1 rfl) ?_
  refine lv_iload_n hx hb d_Sc_byNameOf_5 rfl (lv_at hl 2 rfl) ?_
  refine lv_iload_n hx hb d_Sc_byNameOf_6 rfl (lv_at hl 3 rfl) ?_
  refine pc_S (As := [.int x, .int k, .int q]) (rest := [.ref (a 16)]) S (c_Sc_nameIndex l x k q) wT_blind k_Sc_nameIndex s_Sc_nameIndex o_Sc ml_Sc_46 hd_Sc_nameIndex (Nat.le_trans (by decide) hRf) (Nat.le_trans (by decide) hRl) hRc (fun _ _ _ => trivial) hl.1 rfl (Nat.le_of_ble_eq_true rfl) d_Sc_byNameOf_7 ?_
  obtain ⟨vcb, vc⟩ := vc
  refine va_iald hx hb hK hP 4 0 rfl rfl vcb d_Sc_byNameOf_10 ?_
  exact hret _ ls _ d_Sc_byNameOf_11 vc
theorem h_Sc_byNameOf (l : Launch) (D : va_G) (a : Nat → Nat) (cI cJ cZ : ClassId) (ru : Nat → Int32) (le : Nat → Int32) (li : Nat → Int32) (bn : Nat → Int32) (ip : Nat → Int32) (aw : Nat → Int32) (ns : Int32) (x : Int32) (k : Int32) (q : Int32) (r : Int32) (vc : V_Sc_byNameOf ru le li bn ip aw ns x k q (fun v => v = r)) : Pm l y_Sc_byNameOf b_Sc_byNameOf 4 (some .int) 1 22 [.ref (a 12), .int x, .int k, .int q] (wB D (tyA cI cJ cZ) (wS a cI ru le li bn ip aw ns)) (.int r) :=
  pm_i (by decide) rfl (Nat.le_of_ble_eq_true rfl) (fun p e s m below meth c ls Q S hB hl hret => g_Sc_byNameOf S (Nat.le_refl _) (Nat.le_refl _) ⟨Nat.le_refl _, Nat.le_refl _⟩ D a cI cJ cZ ru le li bn ip aw ns x k q hB.2 hB.1 hl vc hret)
theorem c_Sc_byNameOf (l : Launch) (D : va_G) (a : Nat → Nat) (cI cJ cZ : ClassId) (ru : Nat → Int32) (le : Nat → Int32) (li : Nat → Int32) (bn : Nat → Int32) (ip : Nat → Int32) (aw : Nat → Int32) (ns : Int32) (x : Int32) (k : Int32) (q : Int32) (hpre : vp_in ((x * 3 + k - 33) * 12 + q) 864) : Pm l y_Sc_byNameOf b_Sc_byNameOf 4 (some .int) 1 22 [.ref (a 12), .int x, .int k, .int q] (wB D (tyA cI cJ cZ) (wS a cI ru le li bn ip aw ns)) (.int (bn ((x * 3 + k - 33) * 12 + q : Int32).toNatClampNeg)) := h_Sc_byNameOf l D a cI cJ cZ ru le li bn ip aw ns x k q _ (by
  unfold V_Sc_byNameOf
  exact ⟨hpre, rfl⟩)
theorem hd_Sc_byNameOf : y_Sc_byNameOf.cls ≠ "java/lang/invoke/MethodHandle" ∧ y_Sc_byNameOf.cls ≠ "java/lang/invoke/VarHandle" ∧ (parseMethodDescriptor y_Sc_byNameOf.desc).map (fun d => d.parameters.length) = some 3 := ⟨by decide, by decide, by decide +kernel⟩
def V_Sc_addListed (ru : Nat → Int32) (le : Nat → Int32) (li : Nat → Int32) (bn : Nat → Int32) (ip : Nat → Int32) (aw : Nat → Int32) (ns : Int32) (x : Int32) (k : Int32) (v : Int32) (post : Int32 → (Nat → Int32) → (Nat → Int32) → (Nat → Int32) → (Nat → Int32) → (Nat → Int32) → (Nat → Int32) → Int32 → Prop) : Prop :=
  (vp_in (x * 4 + k - 29) 96 ∧ (vp_in (((x * 4 + k - 29) * 3) + (le (x * 4 + k - 29 : Int32).toNatClampNeg)) 288 ∧ (vp_in (x * 4 + k - 29) 96 ∧ (vp_in (x * 4 + k - 29) 96 ∧ (vp_in (x * 4 + k - 29) 96 ∧ post ((upd le (x * 4 + k - 29 : Int32).toNatClampNeg ((le (x * 4 + k - 29 : Int32).toNatClampNeg) + 1)) (x * 4 + k - 29 : Int32).toNatClampNeg) ru (upd le (x * 4 + k - 29 : Int32).toNatClampNeg ((le (x * 4 + k - 29 : Int32).toNatClampNeg) + 1)) (upd li (((x * 4 + k - 29) * 3) + (le (x * 4 + k - 29 : Int32).toNatClampNeg) : Int32).toNatClampNeg v) bn ip aw ns)))))
set_option maxHeartbeats 4000000 in
set_option maxRecDepth 100000 in
theorem g_Sc_addListed {p : Program} {l : Launch} {e : Env} {R : Room} {s : State} {m : MethodId} {args : Array Value} {below : List Frame} {meth : Method} {c : Code} {H : Heap} {locs : List Loc} {cells slots : Nat} {Q : State → Prop} {ls : Array Slot} {A : Nat → Prop} (S : CallFix p m c b_Sc_addListed 5 s args W0 R_Sc) (hRf : 1 ≤ R.frames) (hRl : 21 ≤ R.locals) (hRc : cells ≤ R.cells ∧ slots ≤ R.slots) (D : va_G) (a : Nat → Nat) (cI cJ cZ : ClassId) (ru : Nat → Int32) (le : Nat → Int32) (li : Nat → Int32) (bn : Nat → Int32) (ip : Nat → Int32) (aw : Nat → Int32) (ns : Int32) (x : Int32) (k : Int32) (v : Int32) (hK : va_K D vwCl (tyA cI cJ cZ) s) (hP : va_P D vwCl (wS a cI ru le li bn ip aw ns) H) (hD : va_D A (wS a cI ru le li bn ip aw ns)) (hA : ∀ q, s.heap.size ≤ q → A q) (hS : va_S A s.heap H locs) (hl : lv_has ls 5 [(0, .ref (a 12)), (1, .int x), (2, .int k), (3, .int v)]) {post : Int32 → (Nat → Int32) → (Nat → Int32) → (Nat → Int32) → (Nat → Int32) → (Nat → Int32) → (Nat → Int32) → Int32 → Prop} (vc : V_Sc_addListed ru le li bn ip aw ns x k v post)
    (hret : ∀ (v : Int32) (ru : Nat → Int32) (le : Nat → Int32) (li : Nat → Int32) (bn : Nat → Int32) (ip : Nat → Int32) (aw : Nat → Int32) (ns : Int32) (ls : Array Slot) (pc : Nat) (H : Heap) (locs : List Loc), decode b_Sc_addListed pc = .ok (.ireturn, 1) → post v ru le li bn ip aw ns → va_P D vwCl (wS a cI ru le li bn ip aw ns) H → va_D A (wS a cI ru le li bn ip aw ns) → va_S A s.heap H locs → W p l e R s m args below meth c H locs cells slots Q (F0 m pc ls [.int v])) : W p l e R s m args below meth c H locs cells slots Q (F0 m 0 ls []) := by
  have hx := S.1
  have hb := S.2.1
  have hown := S.2.2.2.1
  have hts := S.2.2.2.2
  unfold V_Sc_addListed at vc
  refine lv_iload_n hx hb d_Sc_addListed_0 rfl (lv_at hl 1 rfl) ?_
  refine lv_iload_n hx hb d_Sc_addListed_1 rfl (lv_at hl 2 rfl) ?_
  refine pc_S (As := [.int x, .int k]) (rest := []) S (c_Sc_listIndex l x k) wT_blind k_Sc_listIndex s_Sc_listIndex o_Sc ml_Sc_42 hd_Sc_listIndex (Nat.le_trans (by decide) hRf) (Nat.le_trans (by decide) hRl) hRc (fun _ _ _ => trivial) hl.1 rfl (Nat.le_of_ble_eq_true rfl) d_Sc_addListed_2 ?_
  refine lv_istore hx hb d_Sc_addListed_5 hl (by decide) (lv' := [(4, .int (x * 4 + k - 29)), (0, .ref (a 12)), (1, .int x), (2, .int k), (3, .int v)]) rfl (fun ls hl => ?_)
  refine lv_aload_n hx hb d_Sc_addListed_7 rfl (lv_at hl 1 rfl) ?_
  refine va_get (D := D) (ci := 3) (v := .ref (a 15)) (C := R_Sc) (T := F_Sc) (N := 7) hx hb hts in_Sc hown hK hP 0 rfl rfl 2 (by decide) (hts _ fl_Sc_24) (fun _ h => h) rfl d_Sc_addListed_8 ?_
  refine lv_iload hx hb d_Sc_addListed_11 (lv_at hl 0 rfl) ?_
  refine lv_iconst (v := 3) hx hb d_Sc_addListed_13 (by decide) ?_
  refine lv_imul hx hb d_Sc_addListed_14 ?_
  refine lv_aload_n hx hb d_Sc_addListed_15 rfl (lv_at hl 1 rfl) ?_
  refine va_get (D := D) (ci := 3) (v := .ref (a 14)) (C := R_Sc) (T := F_Sc) (N := 7) hx hb hts in_Sc hown hK hP 0 rfl rfl 1 (by decide) (hts _ fl_Sc_21) (fun _ h => h) rfl d_Sc_addListed_16 ?_
  refine lv_iload hx hb d_Sc_addListed_19 (lv_at hl 0 rfl) ?_
  obtain ⟨vcb, vc⟩ := vc
  refine va_iald hx hb hK hP 2 0 rfl rfl vcb d_Sc_addListed_21 ?_
  refine lv_iadd hx hb d_Sc_addListed_22 ?_
  refine lv_iload_n hx hb d_Sc_addListed_23 rfl (lv_at hl 4 rfl) ?_
  obtain ⟨vcb, vc⟩ := vc
  refine va_iast hx hb hK hP hD hS 3 0 rfl rfl vcb d_Sc_addListed_24 (fun H locs hP hD hS => ?_)
  have hP : va_P D vwCl (wS a cI ru le (upd li (((x * 4 + k - 29) * 3) + (le (x * 4 + k - 29 : Int32).toNatClampNeg) : Int32).toNatClampNeg v) bn ip aw ns) H := hP
  have hD : va_D A (wS a cI ru le (upd li (((x * 4 + k - 29) * 3) + (le (x * 4 + k - 29 : Int32).toNatClampNeg) : Int32).toNatClampNeg v) bn ip aw ns) := hD
  refine lv_aload_n hx hb d_Sc_addListed_25 rfl (lv_at hl 1 rfl) ?_
  refine va_get (D := D) (ci := 3) (v := .ref (a 14)) (C := R_Sc) (T := F_Sc) (N := 7) hx hb hts in_Sc hown hK hP 0 rfl rfl 1 (by decide) (hts _ fl_Sc_21) (fun _ h => h) rfl d_Sc_addListed_26 ?_
  refine lv_iload hx hb d_Sc_addListed_29 (lv_at hl 0 rfl) ?_
  refine lv_dup2_11 hx hb d_Sc_addListed_31 rfl rfl ?_
  obtain ⟨vcb, vc⟩ := vc
  refine va_iald hx hb hK hP 2 0 rfl rfl vcb d_Sc_addListed_32 ?_
  refine lv_iconst (v := 1) hx hb d_Sc_addListed_33 (by decide) ?_
  refine lv_iadd hx hb d_Sc_addListed_34 ?_
  obtain ⟨vcb, vc⟩ := vc
  refine va_iast hx hb hK hP hD hS 2 0 rfl rfl vcb d_Sc_addListed_35 (fun H locs hP hD hS => ?_)
  have hP : va_P D vwCl (wS a cI ru (upd le (x * 4 + k - 29 : Int32).toNatClampNeg ((le (x * 4 + k - 29 : Int32).toNatClampNeg) + 1)) (upd li (((x * 4 + k - 29) * 3) + (le (x * 4 + k - 29 : Int32).toNatClampNeg) : Int32).toNatClampNeg v) bn ip aw ns) H := hP
  have hD : va_D A (wS a cI ru (upd le (x * 4 + k - 29 : Int32).toNatClampNeg ((le (x * 4 + k - 29 : Int32).toNatClampNeg) + 1)) (upd li (((x * 4 + k - 29) * 3) + (le (x * 4 + k - 29 : Int32).toNatClampNeg) : Int32).toNatClampNeg v) bn ip aw ns) := hD
  refine lv_aload_n hx hb d_Sc_addListed_36 rfl (lv_at hl 1 rfl) ?_
  refine va_get (D := D) (ci := 3) (v := .ref (a 14)) (C := R_Sc) (T := F_Sc) (N := 7) hx hb hts in_Sc hown hK hP 0 rfl rfl 1 (by decide) (hts _ fl_Sc_21) (fun _ h => h) rfl d_Sc_addListed_37 ?_
  refine lv_iload hx hb d_Sc_addListed_40 (lv_at hl 0 rfl) ?_
  obtain ⟨vcb, vc⟩ := vc
  refine va_iald hx hb hK hP 2 0 rfl rfl vcb d_Sc_addListed_42 ?_
  exact hret _ _ _ _ _ _ _ _ ls _ H locs d_Sc_addListed_43 vc hP hD hS
theorem h_Sc_addListed (l : Launch) (D : va_G) (a : Nat → Nat) (cI cJ cZ : ClassId) (ru : Nat → Int32) (le : Nat → Int32) (li : Nat → Int32) (bn : Nat → Int32) (ip : Nat → Int32) (aw : Nat → Int32) (ns : Int32) (x : Int32) (k : Int32) (v : Int32) (r : Int32) (ru' : Nat → Int32) (le' : Nat → Int32) (li' : Nat → Int32) (bn' : Nat → Int32) (ip' : Nat → Int32) (aw' : Nat → Int32) (ns' : Int32) (vc : V_Sc_addListed ru le li bn ip aw ns x k v (fun v ru le li bn ip aw ns => v = r ∧ ru = ru' ∧ le = le' ∧ li = li' ∧ bn = bn' ∧ ip = ip' ∧ aw = aw' ∧ ns = ns')) : Wm (S := Unit) l y_Sc_addListed b_Sc_addListed 5 (some .int) 1 21 [.ref (a 12), .int x, .int k, .int v] D (tyA cI cJ cZ) (wS a cI ru le li bn ip aw ns) (fun _ => True) (fun _ => some (.int r)) (fun _ => (wS a cI ru' le' li' bn' ip' aw' ns')) :=
  wm_i (by decide) (fun _ _ => rfl) (Nat.le_of_ble_eq_true rfl) (fun p e s m below meth c ls Q A S hK hP hD hA hS hl hret => g_Sc_addListed S (Nat.le_refl _) (Nat.le_refl _) ⟨Nat.le_refl _, Nat.le_refl _⟩ D a cI cJ cZ ru le li bn ip aw ns x k v hK hP hD hA hS hl vc (fun v ru le li bn ip aw ns ls pc H locs hd hv hP hD hS => by obtain ⟨rfl, rfl, rfl, rfl, rfl, rfl, rfl, rfl⟩ := hv; exact hret () _ ls pc H locs hd trivial rfl hP hD hS))
theorem c_Sc_addListed (l : Launch) (D : va_G) (a : Nat → Nat) (cI cJ cZ : ClassId) (ru : Nat → Int32) (le : Nat → Int32) (li : Nat → Int32) (bn : Nat → Int32) (ip : Nat → Int32) (aw : Nat → Int32) (ns : Int32) (x : Int32) (k : Int32) (v : Int32) (hpre : (vp_in (x * 4 + k - 29) 96 ∧ vp_in ((x * 4 + k - 29) * 3 + le (x * 4 + k - 29 : Int32).toNatClampNeg) 288)) : Wm (S := Unit) l y_Sc_addListed b_Sc_addListed 5 (some .int) 1 21 [.ref (a 12), .int x, .int k, .int v] D (tyA cI cJ cZ) (wS a cI ru le li bn ip aw ns) (fun _ => True) (fun _ => some (.int (le (x * 4 + k - 29 : Int32).toNatClampNeg + 1))) (fun _ => (wS a cI ru (upd le (x * 4 + k - 29 : Int32).toNatClampNeg (le (x * 4 + k - 29 : Int32).toNatClampNeg + 1)) (upd li ((x * 4 + k - 29) * 3 + le (x * 4 + k - 29 : Int32).toNatClampNeg : Int32).toNatClampNeg v) bn ip aw ns)) := h_Sc_addListed l D a cI cJ cZ ru le li bn ip aw ns x k v _ _ _ _ _ _ _ _ (by
  unfold V_Sc_addListed
  simp only [hpre.1, hpre.2, true_and]
  simp [upd])
theorem hd_Sc_addListed : y_Sc_addListed.cls ≠ "java/lang/invoke/MethodHandle" ∧ y_Sc_addListed.cls ≠ "java/lang/invoke/VarHandle" ∧ (parseMethodDescriptor y_Sc_addListed.desc).map (fun d => d.parameters.length) = some 3 := ⟨by decide, by decide, by decide +kernel⟩
