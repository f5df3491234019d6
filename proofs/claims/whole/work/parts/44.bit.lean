/-- a bit of a row of bits -/
def sBit (x y : Int32) : Bool := decide (¬ (x >>> (y &&& 31) &&& 1) = 0)
def V_Va_isPresent (ki : Nat → Int32) (co : Nat → Int64) (pr : Nat → Int32) (pa : Nat → Int32) (tw : Nat → Int32) (nv : Int32) (sv : Int32) (x : Int32) (y : Int32) (post : Int32 → Prop) : Prop :=
  (vp_in x 40 ∧ (((((pr x.toNatClampNeg) >>> (y &&& 31)) &&& 1) = 0 → post 0) ∧ (¬ (((pr x.toNatClampNeg) >>> (y &&& 31)) &&& 1) = 0 → post 1)))
set_option maxHeartbeats 4000000 in
set_option maxRecDepth 100000 in
theorem g_Va_isPresent {p : Program} {l : Launch} {e : Env} {R : Room} {s : State} {m : MethodId} {args : Array Value} {below : List Frame} {meth : Method} {c : Code} {H : Heap} {locs : List Loc} {cells slots : Nat} {Q : State → Prop} {ls : Array Slot} (S : CallFix p m c b_Va_isPresent 3 s args W0 R_Va) (hRf : 0 ≤ R.frames) (hRl : 0 ≤ R.locals) (hRc : cells ≤ R.cells ∧ slots ≤ R.slots) (D : va_G) (a : Nat → Nat) (cI cJ cZ : ClassId) (ki : Nat → Int32) (co : Nat → Int64) (pr : Nat → Int32) (pa : Nat → Int32) (tw : Nat → Int32) (nv : Int32) (sv : Int32) (x : Int32) (y : Int32) (hK : va_K D vwCl (tyA cI cJ cZ) s) (hP : va_P D vwCl (wV a cI cJ ki co pr pa tw nv sv) H) (hl : lv_has ls 3 [(0, .ref (a 0)), (1, .int x), (2, .int y)]) {post : Int32 → Prop} (vc : V_Va_isPresent ki co pr pa tw nv sv x y post)
    (hret : ∀ (v : Int32) (ls : Array Slot) (pc : Nat), decode b_Va_isPresent pc = .ok (.ireturn, 1) → post v → W p l e R s m args below meth c H locs cells slots Q (F0 m pc ls [.int v])) : W p l e R s m args below meth c H locs cells slots Q (F0 m 0 ls []) := by
  have hx := S.1
  have hb := S.2.1
  have hown := S.2.2.2.1
  have hts := S.2.2.2.2
  unfold V_Va_isPresent at vc
  refine lv_aload_n hx hb d_Va_isPresent_0 rfl (lv_at hl 0 rfl) ?_
  refine va_get (D := D) (ci := 4) (v := .ref (a 3)) (C := R_Va) (T := F_Va) (N := 7) hx hb hts in_Va hown hK hP 0 rfl rfl 2 (by decide) (hts _ fl_Va_17) (fun _ h => h) rfl d_Va_isPresent_1 ?_
  refine lv_iload_n hx hb d_Va_isPresent_4 rfl (lv_at hl 1 rfl) ?_
  obtain ⟨vcb, vc⟩ := vc
  refine va_iald hx hb hK hP 3 0 rfl rfl vcb d_Va_isPresent_5 ?_
  refine lv_iload_n hx hb d_Va_isPresent_6 rfl (lv_at hl 2 rfl) ?_
  refine lv_ishr hx hb d_Va_isPresent_7 ?_
  refine lv_iconst (v := 1) hx hb d_Va_isPresent_8 (by decide) ?_
  refine lv_iand hx hb d_Va_isPresent_9 ?_
  refine lv_if_eq (tgt := 17) hx hb d_Va_isPresent_10 (by decide) (fun h => ?_) (fun h => ?_)
  · have vc := vc.1 h
    refine lv_iconst (v := 0) hx hb d_Va_isPresent_17 (by decide) ?_
    exact hret _ ls _ d_Va_isPresent_18 vc
  · have vc := vc.2 h
    refine lv_iconst (v := 1) hx hb d_Va_isPresent_13 (by decide) ?_
    refine lv_goto (tgt := 18) hx hb d_Va_isPresent_14 (by decide) ?_
    exact hret _ ls _ d_Va_isPresent_18 vc
theorem h_Va_isPresent (l : Launch) (D : va_G) (a : Nat → Nat) (cI cJ cZ : ClassId) (ki : Nat → Int32) (co : Nat → Int64) (pr : Nat → Int32) (pa : Nat → Int32) (tw : Nat → Int32) (nv : Int32) (sv : Int32) (x : Int32) (y : Int32) (r : Int32) (hr : narrow .boolean (.int r) = .int r) (vc : V_Va_isPresent ki co pr pa tw nv sv x y (fun v => v = r)) : Pm l y_Va_isPresent b_Va_isPresent 3 (some .boolean) 0 0 [.ref (a 0), .int x, .int y] (wB D (tyA cI cJ cZ) (wV a cI cJ ki co pr pa tw nv sv)) (.int r) :=
  pm_i (by decide) hr (Nat.le_of_ble_eq_true rfl) (fun p e s m below meth c ls Q S hB hl hret => g_Va_isPresent S (Nat.le_refl _) (Nat.le_refl _) ⟨Nat.le_refl _, Nat.le_refl _⟩ D a cI cJ cZ ki co pr pa tw nv sv x y hB.2 hB.1 hl vc hret)
theorem c_Va_isPresent (l : Launch) (D : va_G) (a : Nat → Nat) (cI cJ cZ : ClassId) (ki : Nat → Int32) (co : Nat → Int64) (pr : Nat → Int32) (pa : Nat → Int32) (tw : Nat → Int32) (nv : Int32) (sv : Int32) (x : Int32) (y : Int32) (hpre : vp_in x 40) : Pm l y_Va_isPresent b_Va_isPresent 3 (some .boolean) 0 0 [.ref (a 0), .int x, .int y] (wB D (tyA cI cJ cZ) (wV a cI cJ ki co pr pa tw nv sv)) (.int (bI (sBit (pr x.toNatClampNeg) y))) := h_Va_isPresent l D a cI cJ cZ ki co pr pa tw nv sv x y _ (bI_nar _) (by
  unfold V_Va_isPresent
  exact ⟨hpre, fun h => by simp [sBit, bI, h], fun h => by simp [sBit, bI, h]⟩)
theorem hd_Va_isPresent : y_Va_isPresent.cls ≠ "java/lang/invoke/MethodHandle" ∧ y_Va_isPresent.cls ≠ "java/lang/invoke/VarHandle" ∧ (parseMethodDescriptor y_Va_isPresent.desc).map (fun d => d.parameters.length) = some 2 := ⟨by decide, by decide, by decide +kernel⟩
