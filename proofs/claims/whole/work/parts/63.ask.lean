theorem hd_Ju_weigh : y_Ju_weigh.cls ≠ "java/lang/invoke/MethodHandle" ∧ y_Ju_weigh.cls ≠ "java/lang/invoke/VarHandle" ∧ (parseMethodDescriptor y_Ju_weigh.desc).map (fun d => d.parameters.length) = some 3 := ⟨by decide, by decide, by decide +kernel⟩
def V_Ju_fail (ch : Nat → Int32) (ma : Nat → Int32) (br : Nat → Int64) (tl : Int32) (x : Int32) (y : Int32) (k : Int32) (post : (Nat → Int32) → (Nat → Int32) → (Nat → Int64) → Int32 → Prop) : Prop :=
  (vp_in (y * 24 + x) 960 ∧ (vp_in (y * 24 + x) 960 ∧ post ch ma (vp_updL br (y * 24 + x : Int32).toNatClampNeg ((br (y * 24 + x : Int32).toNatClampNeg) ||| (1 <<< (k.toInt64 &&& 63)))) tl))
set_option maxHeartbeats 4000000 in
set_option maxRecDepth 100000 in
theorem g_Ju_fail {p : Program} {l : Launch} {e : Env} {R : Room} {s : State} {m : MethodId} {args : Array Value} {below : List Frame} {meth : Method} {c : Code} {H : Heap} {locs : List Loc} {cells slots : Nat} {Q : State → Prop} {ls : Array Slot} {A : Nat → Prop} (S : CallFix p m c b_Ju_fail 4 s args W0 R_Ju) (hRf : 1 ≤ R.frames) (hRl : 21 ≤ R.locals) (hRc : cells ≤ R.cells ∧ slots ≤ R.slots) (D : va_G) (a : Nat → Nat) (cI cJ cZ : ClassId) (ch : Nat → Int32) (ma : Nat → Int32) (br : Nat → Int64) (tl : Int32) (x : Int32) (y : Int32) (k : Int32) (hK : va_K D vwCl (tyA cI cJ cZ) s) (hP : va_P D vwCl (wJ a cI cJ ch ma br tl) H) (hD : va_D A (wJ a cI cJ ch ma br tl)) (hA : ∀ q, s.heap.size ≤ q → A q) (hS : va_S A s.heap H locs) (hl : lv_has ls 4 [(0, .ref (a 20)), (1, .int x), (2, .int y), (3, .int k)]) {post : (Nat → Int32) → (Nat → Int32) → (Nat → Int64) → Int32 → Prop} (vc : V_Ju_fail ch ma br tl x y k post)
    (hret : ∀ (ch : Nat → Int32) (ma : Nat → Int32) (br : Nat → Int64) (tl : Int32) (ls : Array Slot) (pc : Nat) (H : Heap) (locs : List Loc), decode b_Ju_fail pc = .ok (.return_, 1) → post ch ma br tl → va_P D vwCl (wJ a cI cJ ch ma br tl) H → va_D A (wJ a cI cJ ch ma br tl) → va_S A s.heap H locs → W p l e R s m args below meth c H locs cells slots Q (F0 m pc ls [])) : W p l e R s m args below meth c H locs cells slots Q (F0 m 0 ls []) := by
  have hx := S.1
  have hb := S.2.1
  have hown := S.2.2.2.1
  have hts := S.2.2.2.2
  unfold V_Ju_fail at vc
  refine lv_aload_n hx hb d_Ju_fail_0 rfl (lv_at hl 0 rfl) ?_
  refine va_get (D := D) (ci := 0) (v := .ref (a 23)) (C := R_Ju) (T := F_Ju) (N := 7) hx hb hts in_Ju hown hK hP 0 rfl rfl 5 (by decide) (hts _ fl_Ju_32) (fun _ h => h) rfl d_Ju_fail_1 ?_
  refine lv_iload_n hx hb d_Ju_fail_4 rfl (lv_at hl 1 rfl) ?_
  refine lv_iload_n hx hb d_Ju_fail_5 rfl (lv_at hl 2 rfl) ?_
  refine pc_S (As := [.int x, .int y]) (rest := [.ref (a 23)]) S (c_Ju_pairOf l x y) wT_blind k_Ju_pairOf s_Ju_pairOf o_Ju ml_Ju_59 hd_Ju_pairOf (Nat.le_trans (by decide) hRf) (Nat.le_trans (by decide) hRl) hRc (fun _ _ _ => trivial) hl.1 rfl (Nat.le_of_ble_eq_true rfl) d_Ju_fail_6 ?_
  refine lv_dup2_11 hx hb d_Ju_fail_9 rfl rfl ?_
  obtain ⟨vcb, vc⟩ := vc
  refine va_lald hx hb hK hP 3 1 rfl rfl vcb d_Ju_fail_10 ?_
  refine lv_lconst (v := 1) hx hb d_Ju_fail_11 (by decide) ?_
  refine lv_iload_n hx hb d_Ju_fail_12 rfl (lv_at hl 3 rfl) ?_
  refine lv_lshl hx hb d_Ju_fail_13 rfl ?_
  refine lv_lor hx hb d_Ju_fail_14 ?_
  obtain ⟨vcb, vc⟩ := vc
  refine va_last hx hb hK hP hD hS 3 1 rfl rfl vcb d_Ju_fail_15 (fun H locs hP hD hS => ?_)
  have hP : va_P D vwCl (wJ a cI cJ ch ma (vp_updL br (y * 24 + x : Int32).toNatClampNeg ((br (y * 24 + x : Int32).toNatClampNeg) ||| (1 <<< (k.toInt64 &&& 63)))) tl) H := hP
  have hD : va_D A (wJ a cI cJ ch ma (vp_updL br (y * 24 + x : Int32).toNatClampNeg ((br (y * 24 + x : Int32).toNatClampNeg) ||| (1 <<< (k.toInt64 &&& 63)))) tl) := hD
  exact hret _ _ _ _ ls _ H locs d_Ju_fail_16 vc hP hD hS
theorem h_Ju_fail (l : Launch) (D : va_G) (a : Nat → Nat) (cI cJ cZ : ClassId) (ch : Nat → Int32) (ma : Nat → Int32) (br : Nat → Int64) (tl : Int32) (x : Int32) (y : Int32) (k : Int32) (ch' : Nat → Int32) (ma' : Nat → Int32) (br' : Nat → Int64) (tl' : Int32) (vc : V_Ju_fail ch ma br tl x y k (fun ch ma br tl => ch = ch' ∧ ma = ma' ∧ br = br' ∧ tl = tl')) : Wm (S := Unit) l y_Ju_fail b_Ju_fail 4 none 1 21 [.ref (a 20), .int x, .int y, .int k] D (tyA cI cJ cZ) (wJ a cI cJ ch ma br tl) (fun _ => True) (fun _ => none) (fun _ => (wJ a cI cJ ch' ma' br' tl')) :=
  wm_v (by decide) (Nat.le_of_ble_eq_true rfl) (fun p e s m below meth c ls Q A S hK hP hD hA hS hl hret => g_Ju_fail S (Nat.le_refl _) (Nat.le_refl _) ⟨Nat.le_refl _, Nat.le_refl _⟩ D a cI cJ cZ ch ma br tl x y k hK hP hD hA hS hl vc (fun ch ma br tl ls pc H locs hd hv hP hD hS => by obtain ⟨rfl, rfl, rfl, rfl⟩ := hv; exact hret () ls pc H locs hd trivial hP hD hS))
theorem c_Ju_fail (l : Launch) (D : va_G) (a : Nat → Nat) (cI cJ cZ : ClassId) (ch : Nat → Int32) (ma : Nat → Int32) (br : Nat → Int64) (tl : Int32) (x : Int32) (y : Int32) (k : Int32) (hpre : vp_in (y * 24 + x) 960) : Wm (S := Unit) l y_Ju_fail b_Ju_fail 4 none 1 21 [.ref (a 20), .int x, .int y, .int k] D (tyA cI cJ cZ) (wJ a cI cJ ch ma br tl) (fun _ => True) (fun _ => none) (fun _ => (wJ a cI cJ ch ma (vp_updL br (y * 24 + x : Int32).toNatClampNeg ((br (y * 24 + x : Int32).toNatClampNeg) ||| (1 <<< (k.toInt64 &&& 63)))) tl)) := h_Ju_fail l D a cI cJ cZ ch ma br tl x y k _ _ _ _ (by
  unfold V_Ju_fail
  exact ⟨hpre, hpre, rfl, rfl, rfl, rfl⟩)
theorem hd_Ju_fail : y_Ju_fail.cls ≠ "java/lang/invoke/MethodHandle" ∧ y_Ju_fail.cls ≠ "java/lang/invoke/VarHandle" ∧ (parseMethodDescriptor y_Ju_fail.desc).map (fun d => d.parameters.length) = some 3 := ⟨by decide, by decide, by decide +kernel⟩
def V_Ju_isEnough (x : Int32) (y : Int32) (k : Int32) (post : Int32 → Prop) : Prop :=
  ((¬ x = 29 → ((¬ x = 30 → ((¬ y = 1 → post 0) ∧ (y = 1 → post 1))) ∧ (x = 30 → ((y ≤ 0 → post 0) ∧ (¬ y ≤ 0 → post 1))))) ∧ (x = 29 → ((¬ y = k → post 0) ∧ (y = k → post 1))))
set_option maxHeartbeats 4000000 in
set_option maxRecDepth 100000 in
theorem g_Ju_isEnough {p : Program} {l : Launch} {e : Env} {R : Room} {s : State} {m : MethodId} {args : Array Value} {below : List Frame} {meth : Method} {c : Code} {H : Heap} {locs : List Loc} {cells slots : Nat} {Q : State → Prop} {ls : Array Slot} (S : CallFix p m c b_Ju_isEnough 3 s args W0 R_Ju) (hRf : 0 ≤ R.frames) (hRl : 0 ≤ R.locals) (hRc : cells ≤ R.cells ∧ slots ≤ R.slots) (x : Int32) (y : Int32) (k : Int32) (hl : lv_has ls 3 [(0, .int x), (1, .int y), (2, .int k)]) {post : Int32 → Prop} (vc : V_Ju_isEnough x y k post)
    (hret : ∀ (v : Int32) (ls : Array Slot) (pc : Nat), decode b_Ju_isEnough pc = .ok (.ireturn, 1) → post v → W p l e R s m args below meth c H locs cells slots Q (F0 m pc ls [.int v])) : W p l e R s m args below meth c H locs cells slots Q (F0 m 0 ls []) := by
  have hx := S.1
  have hb := S.2.1
  have hown := S.2.2.2.1
  have hts := S.2.2.2.2
  unfold V_Ju_isEnough at vc
  refine lv_iload_n hx hb d_Ju_isEnough_0 rfl (lv_at hl 0 rfl) ?_
  refine lv_bipush (v := 29) hx hb d_Ju_isEnough_1 (by decide) ?_
  refine lv_icmp_ne (tgt := 17) hx hb d_Ju_isEnough_3 (by decide) (fun h => ?_) (fun h => ?_)
  · have vc := vc.1 h
    refine lv_iload_n hx hb d_Ju_isEnough_17 rfl (lv_at hl 0 rfl) ?_
    refine lv_bipush (v := 30) hx hb d_Ju_isEnough_18 (by decide) ?_
    refine lv_icmp_ne (tgt := 35) hx hb d_Ju_isEnough_20 (by decide) (fun h => ?_) (fun h => ?_)
    · have vc := vc.1 h
      refine lv_iload_n hx hb d_Ju_isEnough_35 rfl (lv_at hl 1 rfl) ?_
      refine lv_iconst (v := 1) hx hb d_Ju_isEnough_36 (by decide) ?_
      refine lv_icmp_ne (tgt := 44) hx hb d_Ju_isEnough_37 (by decide) (fun h => ?_) (fun h => ?_)
      · have vc := vc.1 h
        refine lv_iconst (v := 0) hx hb d_Ju_isEnough_44 (by decide) ?_
        exact hret _ ls _ d_Ju_isEnough_45 vc
      · have vc := vc.2 h
        refine lv_iconst (v := 1) hx hb d_Ju_isEnough_40 (by decide) ?_
        refine lv_goto (tgt := 45) hx hb d_Ju_isEnough_41 (by decide) ?_
        exact hret _ ls _ d_Ju_isEnough_45 vc
    · have vc := vc.2 h
      refine lv_iload_n hx hb d_Ju_isEnough_23 rfl (lv_at hl 1 rfl) ?_
      refine lv_if_le (tgt := 31) hx hb d_Ju_isEnough_24 (by decide) (fun h => ?_) (fun h => ?_)
      · have vc := vc.1 h
        refine lv_iconst (v := 0) hx hb d_Ju_isEnough_31 (by decide) ?_
        refine lv_goto (tgt := 45) hx hb d_Ju_isEnough_32 (by decide) ?_
        exact hret _ ls _ d_Ju_isEnough_45 vc
      · have vc := vc.2 h
        refine lv_iconst (v := 1) hx hb d_Ju_isEnough_27 (by decide) ?_
        refine lv_goto (tgt := 45) hx hb d_Ju_isEnough_28 (by decide) ?_
        exact hret _ ls _ d_Ju_isEnough_45 vc
  · have vc := vc.2 h
    refine lv_iload_n hx hb d_Ju_isEnough_6 rfl (lv_at hl 1 rfl) ?_
    refine lv_iload_n hx hb d_Ju_isEnough_7 rfl (lv_at hl 2 rfl) ?_
    refine lv_icmp_ne (tgt := 15) hx hb d_Ju_isEnough_8 (by decide) (fun h => ?_) (fun h => ?_)
    · have vc := vc.1 h
      refine lv_iconst (v := 0) hx hb d_Ju_isEnough_15 (by decide) ?_
      exact hret _ ls _ d_Ju_isEnough_16 vc
    · have vc := vc.2 h
      refine lv_iconst (v := 1) hx hb d_Ju_isEnough_11 (by decide) ?_
      refine lv_goto (tgt := 16) hx hb d_Ju_isEnough_12 (by decide) ?_
      exact hret _ ls _ d_Ju_isEnough_16 vc
theorem h_Ju_isEnough (l : Launch) (x : Int32) (y : Int32) (k : Int32) (r : Int32) (hr : narrow .boolean (.int r) = .int r) (vc : V_Ju_isEnough x y k (fun v => v = r)) : Pm l y_Ju_isEnough b_Ju_isEnough 3 (some .boolean) 0 0 [.int x, .int y, .int k] wT (.int r) :=
  pm_i (by decide) hr (Nat.le_of_ble_eq_true rfl) (fun p e s m below meth c ls Q S hB hl hret => g_Ju_isEnough S (Nat.le_refl _) (Nat.le_refl _) ⟨Nat.le_refl _, Nat.le_refl _⟩ x y k hl vc hret)
theorem c_Ju_isEnough (l : Launch) (x : Int32) (y : Int32) (k : Int32) : Pm l y_Ju_isEnough b_Ju_isEnough 3 (some .boolean) 0 0 [.int x, .int y, .int k] wT (.int (bI (if x = 29 then decide (y = k) else if x = 30 then decide (¬ y ≤ 0) else decide (y = 1)))) := h_Ju_isEnough l x y k _ (bI_nar _) (by
  unfold V_Ju_isEnough
  refine ⟨fun h => ⟨fun h2 => ⟨fun h3 => ?_, fun h3 => ?_⟩, fun h2 => ⟨fun h3 => ?_, fun h3 => ?_⟩⟩, fun h => ⟨fun h3 => ?_, fun h3 => ?_⟩⟩ <;> simp_all [bI])
theorem hd_Ju_isEnough : y_Ju_isEnough.cls ≠ "java/lang/invoke/MethodHandle" ∧ y_Ju_isEnough.cls ≠ "java/lang/invoke/VarHandle" ∧ (parseMethodDescriptor y_Ju_isEnough.desc).map (fun d => d.parameters.length) = some 3 := ⟨by decide, by decide, by decide +kernel⟩
def V_Ju_ask (z : Nat) (ch : Nat → Int32) (ma : Nat → Int32) (br : Nat → Int64) (tl : Int32) (ki : Nat → Int32) (co : Nat → Int64) (pr : Nat → Int32) (pa : Nat → Int32) (tw : Nat → Int32) (nv : Int32) (sv : Int32) (ru : Nat → Int32) (le : Nat → Int32) (li : Nat → Int32) (bn : Nat → Int32) (ip : Nat → Int32) (aw : Nat → Int32) (ns : Int32) (pn : Nat → Int32) (pl : Nat → Int32) (po : Nat → Int32) (pf : Nat → Int32) (pt : Nat → Int32) (xs : Int32) (xv : Int32) (xx : Int32) (xw : Int32) (xd : Int32) (post : Int32 → (Nat → Int32) → (Nat → Int32) → (Nat → Int64) → Int32 → (Nat → Int32) → (Nat → Int64) → (Nat → Int32) → (Nat → Int32) → (Nat → Int32) → Int32 → Int32 → (Nat → Int32) → (Nat → Int32) → (Nat → Int32) → (Nat → Int32) → (Nat → Int32) → (Nat → Int32) → Int32 → (Nat → Int32) → (Nat → Int32) → (Nat → Int32) → (Nat → Int32) → (Nat → Int32) → Prop) : Prop :=
  (∃ J1 : Prop, ((¬ tl = 0 → J1) ∧ (tl = 0 → ((xd < 30 → (vp_in (xw * 24 + xx) 960 ∧ (∃ J2 : (Nat → Int32) → (Nat → Int32) → (Nat → Int64) → Int32 → Prop, ((¬ (ch (xw * 24 + xx : Int32).toNatClampNeg) = 0 → J2 ch ma br tl) ∧ ((ch (xw * 24 + xx : Int32).toNatClampNeg) = 0 → ((∃ n0 m0 s0 v0 d0 : Nat, JP ki co pr pa pn po ru le li bn nv ns tl (z - 1) xx xw (xd + 1) n0 m0 s0 v0 d0 ∧ 31 ≤ d0 + z) ∧ (∀ (f3 : Nat → Int32) (f4 : Nat → Int32) (f5 : Nat → Int64) (u6 : Int32), (((u6 = 0 ∨ u6 = 1) ∧ (tl = 1 → u6 = 1) ∧ ∀ (G : Sp) (R : Nat → Nat → Prop) (lv : Nat → Nat), (∃ va mk, G = gC ki co pr pa tw pn pl po pf pt ru le li bn nv.toNatClampNeg va mk) → Ctx G R lv → Wd G R lv xx.toNatClampNeg xw.toNatClampNeg (xd + 1 : Int32).toNatClampNeg ch ma br tl f3 f4 f5 u6)) → J2 f3 f4 f5 u6)))) ∧ (∀ (f7 : Nat → Int32) (f8 : Nat → Int32) (f9 : Nat → Int64) (u10 : Int32), J2 f7 f8 f9 u10 → (vp_in (xw * 24 + xx) 960 ∧ (∃ J11 : Int32 → Prop, (((xd + (f7 (xw * 24 + xx : Int32).toNatClampNeg)) ≤ 30 → J11 u10) ∧ (¬ (xd + (f7 (xw * 24 + xx : Int32).toNatClampNeg)) ≤ 30 → J11 1)) ∧ (∀ (u12 : Int32), J11 u12 → (vp_in (xv * 24 + xs) 960 ∧ (vp_in (xw * 24 + xx) 960 ∧ (vp_in (xv * 24 + xs) 960 ∧ (vp_in (xw * 24 + xx) 960 ∧ ((¬ (lg_cmp (f9 (xw * 24 + xx : Int32).toNatClampNeg) 0) = 0 → post 0 (upd f7 (xv * 24 + xs : Int32).toNatClampNeg (if (f7 (xv * 24 + xs : Int32).toNatClampNeg) < ((f7 (xw * 24 + xx : Int32).toNatClampNeg) + 1) then ((f7 (xw * 24 + xx : Int32).toNatClampNeg) + 1) else (f7 (xv * 24 + xs : Int32).toNatClampNeg))) f8 f9 u12 ki co pr pa tw nv sv ru le li bn ip aw ns pn pl po pf pt) ∧ ((lg_cmp (f9 (xw * 24 + xx : Int32).toNatClampNeg) 0) = 0 → post 1 (upd f7 (xv * 24 + xs : Int32).toNatClampNeg (if (f7 (xv * 24 + xs : Int32).toNatClampNeg) < ((f7 (xw * 24 + xx : Int32).toNatClampNeg) + 1) then ((f7 (xw * 24 + xx : Int32).toNatClampNeg) + 1) else (f7 (xv * 24 + xs : Int32).toNatClampNeg))) f8 f9 u12 ki co pr pa tw nv sv ru le li bn ip aw ns pn pl po pf pt))))))))))))) ∧ (¬ xd < 30 → J1)))) ∧ (J1 → post 0 ch ma br 1 ki co pr pa tw nv sv ru le li bn ip aw ns pn pl po pf pt))
set_option maxHeartbeats 4000000 in
set_option maxRecDepth 100000 in
theorem g_Ju_ask {p : Program} {l : Launch} {e : Env} {R : Room} {s : State} {m : MethodId} {args : Array Value} {below : List Frame} {meth : Method} {c : Code} {H : Heap} {locs : List Loc} {cells slots : Nat} {Q : State → Prop} {ls : Array Slot} {A : Nat → Prop} {z : Nat} (S : CallFix p m c b_Ju_ask 8 s args W0 R_Ju) (hRf : 5 * z + 10 ≤ R.frames) (hRl : 200 * z + 90 ≤ R.locals) (hRc : cells ≤ R.cells ∧ slots ≤ R.slots) (D : va_G) (a : Nat → Nat) (cI cJ cZ : ClassId) (HW : WQ l D a cI cJ cZ z) (ch : Nat → Int32) (ma : Nat → Int32) (br : Nat → Int64) (tl : Int32) (ki : Nat → Int32) (co : Nat → Int64) (pr : Nat → Int32) (pa : Nat → Int32) (tw : Nat → Int32) (nv : Int32) (sv : Int32) (ru : Nat → Int32) (le : Nat → Int32) (li : Nat → Int32) (bn : Nat → Int32) (ip : Nat → Int32) (aw : Nat → Int32) (ns : Int32) (pn : Nat → Int32) (pl : Nat → Int32) (po : Nat → Int32) (pf : Nat → Int32) (pt : Nat → Int32) (xs : Int32) (xv : Int32) (xx : Int32) (xw : Int32) (xd : Int32) (hK : va_K D vwCl (tyA cI cJ cZ) s) (hP : va_P D vwCl (wJ a cI cJ ch ma br tl ++ wV a cI cJ ki co pr pa tw nv sv ++ wS a cI ru le li bn ip aw ns ++ wL a ++ wP a cI cZ pn pl po pf pt) H) (hD : va_D A (wJ a cI cJ ch ma br tl ++ wV a cI cJ ki co pr pa tw nv sv ++ wS a cI ru le li bn ip aw ns ++ wL a ++ wP a cI cZ pn pl po pf pt)) (hA : ∀ q, s.heap.size ≤ q → A q) (hS : va_S A s.heap H locs) (hX : eX A s s.heap) (hl : lv_has ls 8 [(0, .ref (a 20)), (1, .int xs), (2, .int xv), (3, .int xx), (4, .int xw), (5, .int xd)]) {post : Int32 → (Nat → Int32) → (Nat → Int32) → (Nat → Int64) → Int32 → (Nat → Int32) → (Nat → Int64) → (Nat → Int32) → (Nat → Int32) → (Nat → Int32) → Int32 → Int32 → (Nat → Int32) → (Nat → Int32) → (Nat → Int32) → (Nat → Int32) → (Nat → Int32) → (Nat → Int32) → Int32 → (Nat → Int32) → (Nat → Int32) → (Nat → Int32) → (Nat → Int32) → (Nat → Int32) → Prop} (vc : V_Ju_ask z ch ma br tl ki co pr pa tw nv sv ru le li bn ip aw ns pn pl po pf pt xs xv xx xw xd post)
    (hret : ∀ (v : Int32) (ch : Nat → Int32) (ma : Nat → Int32) (br : Nat → Int64) (tl : Int32) (ki : Nat → Int32) (co : Nat → Int64) (pr : Nat → Int32) (pa : Nat → Int32) (tw : Nat → Int32) (nv : Int32) (sv : Int32) (ru : Nat → Int32) (le : Nat → Int32) (li : Nat → Int32) (bn : Nat → Int32) (ip : Nat → Int32) (aw : Nat → Int32) (ns : Int32) (pn : Nat → Int32) (pl : Nat → Int32) (po : Nat → Int32) (pf : Nat → Int32) (pt : Nat → Int32) (ls : Array Slot) (pc : Nat) (H : Heap) (locs : List Loc), decode b_Ju_ask pc = .ok (.ireturn, 1) → post v ch ma br tl ki co pr pa tw nv sv ru le li bn ip aw ns pn pl po pf pt → va_P D vwCl (wJ a cI cJ ch ma br tl ++ wV a cI cJ ki co pr pa tw nv sv ++ wS a cI ru le li bn ip aw ns ++ wL a ++ wP a cI cZ pn pl po pf pt) H → va_D A (wJ a cI cJ ch ma br tl ++ wV a cI cJ ki co pr pa tw nv sv ++ wS a cI ru le li bn ip aw ns ++ wL a ++ wP a cI cZ pn pl po pf pt) → va_S A s.heap H locs → W p l e R s m args below meth c H locs cells slots Q (F0 m pc ls [.int v])) : W p l e R s m args below meth c H locs cells slots Q (F0 m 0 ls []) := by
  have hx := S.1
  have hb := S.2.1
  have hown := S.2.2.2.1
  have hts := S.2.2.2.2
  unfold V_Ju_ask at vc
  refine lv_aload_n hx hb d_Ju_ask_0 rfl (lv_at hl 0 rfl) ?_
  refine va_get (D := D) (ci := 0) (v := .int tl) (C := R_Ju) (T := F_Ju) (N := 7) hx hb hts in_Ju hown hK hP 0 rfl rfl 6 (by decide) (hts _ fl_Ju_45) (fun _ h => h) rfl d_Ju_ask_1 ?_
  obtain ⟨J1, vc, vc2⟩ := vc
  have jJ1 : ∀ (ls : Array Slot) (H : Heap) (locs : List Loc), J1 → lv_has ls 8 [(0, .ref (a 20)), (1, .int xs), (2, .int xv), (3, .int xx), (4, .int xw), (5, .int xd)] → va_P D vwCl (wJ a cI cJ ch ma br tl ++ wV a cI cJ ki co pr pa tw nv sv ++ wS a cI ru le li bn ip aw ns ++ wL a ++ wP a cI cZ pn pl po pf pt) H → va_D A (wJ a cI cJ ch ma br tl ++ wV a cI cJ ki co pr pa tw nv sv ++ wS a cI ru le li bn ip aw ns ++ wL a ++ wP a cI cZ pn pl po pf pt) → va_S A s.heap H locs → W p l e R s m args below meth c H locs cells slots Q (F0 m 14 ls []) := by
    intro  ls H locs vc hl hP hD hS
    have vc := vc2  vc
    refine lv_aload_n hx hb d_Ju_ask_14 rfl (lv_at hl 0 rfl) ?_
    refine lv_iconst (v := 1) hx hb d_Ju_ask_15 (by decide) ?_
    refine va_put (D := D) (ci := 0) (v := .int 1) (ty := .boolean) (C := R_Ju) (T := F_Ju) (N := 7) hx hb hts in_Ju t_Ju t_Ju_ok n_Ju hown hK hP hD hS 0 rfl rfl 6 (by decide) (hts _ fl_Ju_45) (fun _ h => h) rfl (by decide +kernel) (by decide) (by decide) (Nat.le_of_ble_eq_true rfl) d_Ju_ask_16 (fun H locs hP hD hS => ?_)
    have hP : va_P D vwCl (wJ a cI cJ ch ma br 1 ++ wV a cI cJ ki co pr pa tw nv sv ++ wS a cI ru le li bn ip aw ns ++ wL a ++ wP a cI cZ pn pl po pf pt) H := hP
    have hD : va_D A (wJ a cI cJ ch ma br 1 ++ wV a cI cJ ki co pr pa tw nv sv ++ wS a cI ru le li bn ip aw ns ++ wL a ++ wP a cI cZ pn pl po pf pt) := hD
    refine lv_iconst (v := 0) hx hb d_Ju_ask_19 (by decide) ?_
    exact hret _ _ _ _ _ _ _ _ _ _ _ _ _ _ _ _ _ _ _ _ _ _ _ _ ls _ H locs d_Ju_ask_20 vc hP hD hS
  clear vc2
  refine lv_if_ne (tgt := 14) hx hb d_Ju_ask_4 (by decide) (fun h => ?_) (fun h => ?_)
  · have vc := vc.1 h
    exact jJ1 ls H locs vc (lv_sub hl [0, 1, 2, 3, 4, 5] rfl) hP hD hS
  · have vc := vc.2 h
    refine lv_iload hx hb d_Ju_ask_7 (lv_at hl 5 rfl) ?_
    refine lv_bipush (v := 30) hx hb d_Ju_ask_9 (by decide) ?_
    refine lv_icmp_lt (tgt := 21) hx hb d_Ju_ask_11 (by decide) (fun h => ?_) (fun h => ?_)
    · have vc := vc.1 h
      refine lv_iload_n hx hb d_Ju_ask_21 rfl (lv_at hl 3 rfl) ?_
      refine lv_iload hx hb d_Ju_ask_22 (lv_at hl 4 rfl) ?_
      refine pc_S (As := [.int xx, .int xw]) (rest := []) S (c_Ju_pairOf l xx xw) wT_blind k_Ju_pairOf s_Ju_pairOf o_Ju ml_Ju_59 hd_Ju_pairOf (Nat.le_trans (by omega) hRf) (Nat.le_trans (by omega) hRl) hRc (fun _ _ _ => trivial) hl.1 rfl (Nat.le_of_ble_eq_true rfl) d_Ju_ask_24 ?_
      refine lv_istore hx hb d_Ju_ask_27 hl (by decide) (lv' := [(6, .int (xw * 24 + xx)), (0, .ref (a 20)), (1, .int xs), (2, .int xv), (3, .int xx), (4, .int xw), (5, .int xd)]) rfl (fun ls hl => ?_)
      refine lv_aload_n hx hb d_Ju_ask_29 rfl (lv_at hl 1 rfl) ?_
      refine va_get (D := D) (ci := 0) (v := .ref (a 21)) (C := R_Ju) (T := F_Ju) (N := 7) hx hb hts in_Ju hown hK hP 0 rfl rfl 3 (by decide) (hts _ fl_Ju_25) (fun _ h => h) rfl d_Ju_ask_30 ?_
      refine lv_iload hx hb d_Ju_ask_33 (lv_at hl 0 rfl) ?_
      obtain ⟨vcb, vc⟩ := vc
      refine va_iald hx hb hK hP 1 0 rfl rfl vcb d_Ju_ask_35 ?_
      obtain ⟨J2, vc, vc2⟩ := vc
      have jJ2 : ∀ (f7 : Nat → Int32) (f8 : Nat → Int32) (f9 : Nat → Int64) (u10 : Int32) (ls : Array Slot) (H : Heap) (locs : List Loc), J2 f7 f8 f9 u10 → lv_has ls 8 [(0, .ref (a 20)), (1, .int xs), (2, .int xv), (3, .int xx), (4, .int xw), (5, .int xd), (6, .int (xw * 24 + xx))] → va_P D vwCl (wJ a cI cJ f7 f8 f9 u10 ++ wV a cI cJ ki co pr pa tw nv sv ++ wS a cI ru le li bn ip aw ns ++ wL a ++ wP a cI cZ pn pl po pf pt) H → va_D A (wJ a cI cJ f7 f8 f9 u10 ++ wV a cI cJ ki co pr pa tw nv sv ++ wS a cI ru le li bn ip aw ns ++ wL a ++ wP a cI cZ pn pl po pf pt) → va_S A s.heap H locs → W p l e R s m args below meth c H locs cells slots Q (F0 m 50 ls []) := by
        intro f7 f8 f9 u10 ls H locs vc hl hP hD hS
        have vc := vc2 f7 f8 f9 u10 vc
        refine lv_iload hx hb d_Ju_ask_50 (lv_at hl 5 rfl) ?_
        refine lv_aload_n hx hb d_Ju_ask_52 rfl (lv_at hl 0 rfl) ?_
        refine va_get (D := D) (ci := 0) (v := .ref (a 21)) (C := R_Ju) (T := F_Ju) (N := 7) hx hb hts in_Ju hown hK hP 0 rfl rfl 3 (by decide) (hts _ fl_Ju_25) (fun _ h => h) rfl d_Ju_ask_53 ?_
        refine lv_iload hx hb d_Ju_ask_56 (lv_at hl 6 rfl) ?_
        obtain ⟨vcb, vc⟩ := vc
        refine va_iald hx hb hK hP 1 0 rfl rfl vcb d_Ju_ask_58 ?_
        refine lv_iadd hx hb d_Ju_ask_59 ?_
        refine lv_bipush (v := 30) hx hb d_Ju_ask_60 (by decide) ?_
        obtain ⟨J11, vc, vc2⟩ := vc
        have jJ11 : ∀ (u12 : Int32) (ls : Array Slot) (H : Heap) (locs : List Loc), J11 u12 → lv_has ls 8 [(0, .ref (a 20)), (1, .int xs), (2, .int xv), (3, .int xx), (4, .int xw), (5, .int xd), (6, .int (xw * 24 + xx))] → va_P D vwCl (wJ a cI cJ f7 f8 f9 u12 ++ wV a cI cJ ki co pr pa tw nv sv ++ wS a cI ru le li bn ip aw ns ++ wL a ++ wP a cI cZ pn pl po pf pt) H → va_D A (wJ a cI cJ f7 f8 f9 u12 ++ wV a cI cJ ki co pr pa tw nv sv ++ wS a cI ru le li bn ip aw ns ++ wL a ++ wP a cI cZ pn pl po pf pt) → va_S A s.heap H locs → W p l e R s m args below meth c H locs cells slots Q (F0 m 70 ls []) := by
          intro u12 ls H locs vc hl hP hD hS
          have vc := vc2 u12 vc
          refine lv_iload_n hx hb d_Ju_ask_70 rfl (lv_at hl 1 rfl) ?_
          refine lv_iload_n hx hb d_Ju_ask_71 rfl (lv_at hl 2 rfl) ?_
          refine pc_S (As := [.int xs, .int xv]) (rest := []) S (c_Ju_pairOf l xs xv) wT_blind k_Ju_pairOf s_Ju_pairOf o_Ju ml_Ju_59 hd_Ju_pairOf (Nat.le_trans (by omega) hRf) (Nat.le_trans (by omega) hRl) hRc (fun _ _ _ => trivial) hl.1 rfl (Nat.le_of_ble_eq_true rfl) d_Ju_ask_72 ?_
          refine lv_istore hx hb d_Ju_ask_75 hl (by decide) (lv' := [(7, .int (xv * 24 + xs)), (0, .ref (a 20)), (1, .int xs), (2, .int xv), (3, .int xx), (4, .int xw), (5, .int xd), (6, .int (xw * 24 + xx))]) rfl (fun ls hl => ?_)
          refine lv_aload_n hx hb d_Ju_ask_77 rfl (lv_at hl 1 rfl) ?_
          refine va_get (D := D) (ci := 0) (v := .ref (a 21)) (C := R_Ju) (T := F_Ju) (N := 7) hx hb hts in_Ju hown hK hP 0 rfl rfl 3 (by decide) (hts _ fl_Ju_25) (fun _ h => h) rfl d_Ju_ask_78 ?_
          refine lv_iload hx hb d_Ju_ask_81 (lv_at hl 0 rfl) ?_
          refine lv_aload_n hx hb d_Ju_ask_83 rfl (lv_at hl 1 rfl) ?_
          refine va_get (D := D) (ci := 0) (v := .ref (a 21)) (C := R_Ju) (T := F_Ju) (N := 7) hx hb hts in_Ju hown hK hP 0 rfl rfl 3 (by decide) (hts _ fl_Ju_25) (fun _ h => h) rfl d_Ju_ask_84 ?_
          refine lv_iload hx hb d_Ju_ask_87 (lv_at hl 0 rfl) ?_
          obtain ⟨vcb, vc⟩ := vc
          refine va_iald hx hb hK hP 1 0 rfl rfl vcb d_Ju_ask_89 ?_
          refine lv_aload_n hx hb d_Ju_ask_90 rfl (lv_at hl 1 rfl) ?_
          refine va_get (D := D) (ci := 0) (v := .ref (a 21)) (C := R_Ju) (T := F_Ju) (N := 7) hx hb hts in_Ju hown hK hP 0 rfl rfl 3 (by decide) (hts _ fl_Ju_25) (fun _ h => h) rfl d_Ju_ask_91 ?_
          refine lv_iload hx hb d_Ju_ask_94 (lv_at hl 7 rfl) ?_
          obtain ⟨vcb, vc⟩ := vc
          refine va_iald hx hb hK hP 1 0 rfl rfl vcb d_Ju_ask_96 ?_
          refine lv_iconst (v := 1) hx hb d_Ju_ask_97 (by decide) ?_
          refine lv_iadd hx hb d_Ju_ask_98 ?_
          refine va_mmax hx hb (S.2.2.1.trans hl.1.symm) hown (hts _ ml_Ju_156) (hts _ s_mmax) (hts _ o_mm) (hts _ k_mmax) (Nat.le_trans (by omega) hRf) (Nat.le_trans (Nat.le_trans (m := 21) (Nat.le_of_ble_eq_true rfl) (by omega)) hRl) hRc.1 hRc.2 d_Ju_ask_99 ?_
          obtain ⟨vcb, vc⟩ := vc
          refine va_iast hx hb hK hP hD hS 1 0 rfl rfl vcb d_Ju_ask_102 (fun H locs hP hD hS => ?_)
          have hP : va_P D vwCl (wJ a cI cJ (upd f7 (xv * 24 + xs : Int32).toNatClampNeg (if (f7 (xv * 24 + xs : Int32).toNatClampNeg) < ((f7 (xw * 24 + xx : Int32).toNatClampNeg) + 1) then ((f7 (xw * 24 + xx : Int32).toNatClampNeg) + 1) else (f7 (xv * 24 + xs : Int32).toNatClampNeg))) f8 f9 u12 ++ wV a cI cJ ki co pr pa tw nv sv ++ wS a cI ru le li bn ip aw ns ++ wL a ++ wP a cI cZ pn pl po pf pt) H := hP
          have hD : va_D A (wJ a cI cJ (upd f7 (xv * 24 + xs : Int32).toNatClampNeg (if (f7 (xv * 24 + xs : Int32).toNatClampNeg) < ((f7 (xw * 24 + xx : Int32).toNatClampNeg) + 1) then ((f7 (xw * 24 + xx : Int32).toNatClampNeg) + 1) else (f7 (xv * 24 + xs : Int32).toNatClampNeg))) f8 f9 u12 ++ wV a cI cJ ki co pr pa tw nv sv ++ wS a cI ru le li bn ip aw ns ++ wL a ++ wP a cI cZ pn pl po pf pt) := hD
          refine lv_aload_n hx hb d_Ju_ask_103 rfl (lv_at hl 1 rfl) ?_
          refine va_get (D := D) (ci := 0) (v := .ref (a 23)) (C := R_Ju) (T := F_Ju) (N := 7) hx hb hts in_Ju hown hK hP 0 rfl rfl 5 (by decide) (hts _ fl_Ju_32) (fun _ h => h) rfl d_Ju_ask_104 ?_
          refine lv_iload hx hb d_Ju_ask_107 (lv_at hl 7 rfl) ?_
          obtain ⟨vcb, vc⟩ := vc
          refine va_lald hx hb hK hP 3 1 rfl rfl vcb d_Ju_ask_109 ?_
          refine lv_lconst (v := 0) hx hb d_Ju_ask_110 (by decide) ?_
          refine W.lcmp hx hb d_Ju_ask_111 ?_
          refine lv_if_ne (tgt := 119) hx hb d_Ju_ask_112 (by decide) (fun h => ?_) (fun h => ?_)
          · have vc := vc.1 h
            refine lv_iconst (v := 0) hx hb d_Ju_ask_119 (by decide) ?_
            exact hret _ _ _ _ _ _ _ _ _ _ _ _ _ _ _ _ _ _ _ _ _ _ _ _ ls _ H locs d_Ju_ask_120 vc hP hD hS
          · have vc := vc.2 h
            refine lv_iconst (v := 1) hx hb d_Ju_ask_115 (by decide) ?_
            refine lv_goto (tgt := 120) hx hb d_Ju_ask_116 (by decide) ?_
            exact hret _ _ _ _ _ _ _ _ _ _ _ _ _ _ _ _ _ _ _ _ _ _ _ _ ls _ H locs d_Ju_ask_120 vc hP hD hS
        clear vc2
        refine lv_icmp_le (tgt := 70) hx hb d_Ju_ask_62 (by decide) (fun h => ?_) (fun h => ?_)
        · have vc := vc.1 h
          exact jJ11 u10 ls H locs vc (lv_sub hl [0, 1, 2, 3, 4, 5, 6] rfl) hP hD hS
        · have vc := vc.2 h
          refine lv_aload_n hx hb d_Ju_ask_65 rfl (lv_at hl 0 rfl) ?_
          refine lv_iconst (v := 1) hx hb d_Ju_ask_66 (by decide) ?_
          refine va_put (D := D) (ci := 0) (v := .int 1) (ty := .boolean) (C := R_Ju) (T := F_Ju) (N := 7) hx hb hts in_Ju t_Ju t_Ju_ok n_Ju hown hK hP hD hS 0 rfl rfl 6 (by decide) (hts _ fl_Ju_45) (fun _ h => h) rfl (by decide +kernel) (by decide) (by decide) (Nat.le_of_ble_eq_true rfl) d_Ju_ask_67 (fun H locs hP hD hS => ?_)
          have hP : va_P D vwCl (wJ a cI cJ f7 f8 f9 1 ++ wV a cI cJ ki co pr pa tw nv sv ++ wS a cI ru le li bn ip aw ns ++ wL a ++ wP a cI cZ pn pl po pf pt) H := hP
          have hD : va_D A (wJ a cI cJ f7 f8 f9 1 ++ wV a cI cJ ki co pr pa tw nv sv ++ wS a cI ru le li bn ip aw ns ++ wL a ++ wP a cI cZ pn pl po pf pt) := hD
          exact jJ11 1 ls H locs vc (lv_sub hl [0, 1, 2, 3, 4, 5, 6] rfl) hP hD hS
      clear vc2
      refine lv_if_ne (tgt := 50) hx hb d_Ju_ask_36 (by decide) (fun h => ?_) (fun h => ?_)
      · have vc := vc.1 h
        exact jJ2 ch ma br tl ls H locs vc (lv_sub hl [1, 2, 3, 4, 5, 6, 0] rfl) hP hD hS
      · have vc := vc.2 h
        refine lv_aload_n hx hb d_Ju_ask_39 rfl (lv_at hl 1 rfl) ?_
        refine lv_iload_n hx hb d_Ju_ask_40 rfl (lv_at hl 4 rfl) ?_
        refine lv_iload hx hb d_Ju_ask_41 (lv_at hl 5 rfl) ?_
        refine lv_iload hx hb d_Ju_ask_43 (lv_at hl 6 rfl) ?_
        refine lv_iconst (v := 1) hx hb d_Ju_ask_45 (by decide) ?_
        refine lv_iadd hx hb d_Ju_ask_46 ?_
        obtain ⟨hpre, vc⟩ := vc
        refine ec_V (As := [.int xx, .int xw, .int (xd + 1)]) (rest := []) (wr := ([] : va_W)) S (HW ch ma br tl ki co pr pa tw nv sv ru le li bn ip aw ns pn pl po pf pt xx xw (xd + 1) hpre) k_Ju_weigh i_Ju_weigh e_Ju_weigh o_Ju ml_Ju_52 hd_Ju_weigh (Nat.le_trans (by omega) hRf) (Nat.le_trans (by omega) hRl) hRc (va_recv hK hP (q0 := 0) (ci := 0) rfl rfl) hK hP hD hS hA hX [0, 1, 2, 3, 4, 5, 6, 7, 8, 9, 10, 11, 12, 13, 14, 15, 16, 17, 18, 19, 20, 21, 22, 23] [] rfl rfl rfl (by decide) (by decide) (by decide) hl.1 rfl (Nat.le_of_ble_eq_true rfl) d_Ju_ask_47 (fun u H locs hu hP hD hS => ?_)
        obtain ⟨f3, f4, f5, u6⟩ := u
        have vc := vc f3 f4 f5 u6 hu
        clear hu
        have hP : va_P D vwCl (wJ a cI cJ f3 f4 f5 u6 ++ wV a cI cJ ki co pr pa tw nv sv ++ wS a cI ru le li bn ip aw ns ++ wL a ++ wP a cI cZ pn pl po pf pt) H := hP
        have hD : va_D A (wJ a cI cJ f3 f4 f5 u6 ++ wV a cI cJ ki co pr pa tw nv sv ++ wS a cI ru le li bn ip aw ns ++ wL a ++ wP a cI cZ pn pl po pf pt) := hD
        exact jJ2 f3 f4 f5 u6 ls H locs vc (lv_sub hl [1, 2, 3, 4, 5, 6, 0] rfl) hP hD hS
    · have vc := vc.2 h
      exact jJ1 ls H locs vc (lv_sub hl [0, 1, 2, 3, 4, 5] rfl) hP hD hS
set_option maxHeartbeats 4000000 in
theorem v_Ju_ask (z : Nat) (ch : Nat → Int32) (ma : Nat → Int32) (br : Nat → Int64) (tl : Int32) (ki : Nat → Int32) (co : Nat → Int64) (pr : Nat → Int32) (pa : Nat → Int32) (tw : Nat → Int32) (nv : Int32) (sv : Int32) (ru : Nat → Int32) (le : Nat → Int32) (li : Nat → Int32) (bn : Nat → Int32) (ip : Nat → Int32) (aw : Nat → Int32) (ns : Int32) (pn : Nat → Int32) (pl : Nat → Int32) (po : Nat → Int32) (pf : Nat → Int32) (pt : Nat → Int32) (xs : Int32) (xv : Int32) (xx : Int32) (xw : Int32) (xd : Int32) (hpre : (∃ n0 m0 s0 v0 d0 : Nat, JP ki co pr pa pn po ru le li bn nv ns tl z xs xv xd n0 m0 s0 v0 d0 ∧ (∃ x0 : Nat, x0 < m0 ∧ xx = nI x0) ∧ ∃ w0 : Nat, w0 < n0 ∧ xw = nI w0)) : V_Ju_ask z ch ma br tl ki co pr pa tw nv sv ru le li bn ip aw ns pn pl po pf pt xs xv xx xw xd (fun v ch' ma' br' tl' ki' co' pr' pa' tw' nv' sv' ru' le' li' bn' ip' aw' ns' pn' pl' po' pf' pt' => ∃ rr : Bool, v = bI rr ∧ (((tl' = 0 ∨ tl' = 1) ∧ (tl = 1 → tl' = 1) ∧ ∀ (G : Sp) (R : Nat → Nat → Prop) (lv : Nat → Nat), (∃ va mk, G = gC ki co pr pa tw pn pl po pf pt ru le li bn nv.toNatClampNeg va mk) → Ctx G R lv → Ask G xs.toNatClampNeg xv.toNatClampNeg xx.toNatClampNeg xw.toNatClampNeg → Ef G R lv xs.toNatClampNeg xv.toNatClampNeg xd.toNatClampNeg (fun x' w' => x' = xx.toNatClampNeg ∧ w' = xw.toNatClampNeg) (fun _ => False) (fun _ => False) ((rr = true ↔ gVa G xx.toNatClampNeg xw.toNatClampNeg) ∧ ∀ i, i < 32 → (bt (ma' (xw.toNatClampNeg * 24 + xx.toNatClampNeg)) i = true ↔ gMk G xx.toNatClampNeg xw.toNatClampNeg i)) ch ma br tl ch' ma' br' tl')) ∧ ki' = ki ∧ co' = co ∧ pr' = pr ∧ pa' = pa ∧ tw' = tw ∧ nv' = nv ∧ sv' = sv ∧ ru' = ru ∧ le' = le ∧ li' = li ∧ bn' = bn ∧ ip' = ip ∧ aw' = aw ∧ ns' = ns ∧ pn' = pn ∧ pl' = pl ∧ po' = po ∧ pf' = pf ∧ pt' = pt) := by
  have main : ∀ post : Int32 → (Nat → Int32) → (Nat → Int32) → (Nat → Int64) → Int32 → (Nat → Int32) → (Nat → Int64) → (Nat → Int32) → (Nat → Int32) → (Nat → Int32) → Int32 → Int32 → (Nat → Int32) → (Nat → Int32) → (Nat → Int32) → (Nat → Int32) → (Nat → Int32) → (Nat → Int32) → Int32 → (Nat → Int32) → (Nat → Int32) → (Nat → Int32) → (Nat → Int32) → (Nat → Int32) → Prop, (∀ v ch' ma' br' tl' ki' co' pr' pa' tw' nv' sv' ru' le' li' bn' ip' aw' ns' pn' pl' po' pf' pt', (fun v ch' ma' br' tl' ki' co' pr' pa' tw' nv' sv' ru' le' li' bn' ip' aw' ns' pn' pl' po' pf' pt' => ∃ rr : Bool, v = bI rr ∧ (((tl' = 0 ∨ tl' = 1) ∧ (tl = 1 → tl' = 1) ∧ ∀ (G : Sp) (R : Nat → Nat → Prop) (lv : Nat → Nat), (∃ va mk, G = gC ki co pr pa tw pn pl po pf pt ru le li bn nv.toNatClampNeg va mk) → Ctx G R lv → Ask G xs.toNatClampNeg xv.toNatClampNeg xx.toNatClampNeg xw.toNatClampNeg → Ef G R lv xs.toNatClampNeg xv.toNatClampNeg xd.toNatClampNeg (fun x' w' => x' = xx.toNatClampNeg ∧ w' = xw.toNatClampNeg) (fun _ => False) (fun _ => False) ((rr = true ↔ gVa G xx.toNatClampNeg xw.toNatClampNeg) ∧ ∀ i, i < 32 → (bt (ma' (xw.toNatClampNeg * 24 + xx.toNatClampNeg)) i = true ↔ gMk G xx.toNatClampNeg xw.toNatClampNeg i)) ch ma br tl ch' ma' br' tl')) ∧ ki' = ki ∧ co' = co ∧ pr' = pr ∧ pa' = pa ∧ tw' = tw ∧ nv' = nv ∧ sv' = sv ∧ ru' = ru ∧ le' = le ∧ li' = li ∧ bn' = bn ∧ ip' = ip ∧ aw' = aw ∧ ns' = ns ∧ pn' = pn ∧ pl' = pl ∧ po' = po ∧ pf' = pf ∧ pt' = pt) v ch' ma' br' tl' ki' co' pr' pa' tw' nv' sv' ru' le' li' bn' ip' aw' ns' pn' pl' po' pf' pt' → post v ch' ma' br' tl' ki' co' pr' pa' tw' nv' sv' ru' le' li' bn' ip' aw' ns' pn' pl' po' pf' pt') → V_Ju_ask z ch ma br tl ki co pr pa tw nv sv ru le li bn ip aw ns pn pl po pf pt xs xv xx xw xd post := by
    intro post hpost
    unfold V_Ju_ask
    obtain ⟨n0, m0, s0, v0, d0, hJ, ⟨x0, hx, rfl⟩, w0, hw, rfl⟩ := hpre
    have hJ0 := hJ
    obtain ⟨hs24, hv40, hm, hn⟩ := JP_s hJ
    obtain ⟨hnv, hns, hS, htl, rfl, rfl, rfl, hsm, hvn, hd1, hd30, hfuel⟩ := hJ
    have hPv : vp_in (nI (v0 * 24 + s0)) 960 := vp_in_nI (by omega) (by decide)
    have cs : (nI s0).toNatClampNeg = s0 := nI_clamp (by omega)
    have cv : (nI v0).toNatClampNeg = v0 := nI_clamp (by omega)
    have cd : (nI d0).toNatClampNeg = d0 := nI_clamp (by omega)
    have cP : (nI (v0 * 24 + s0)).toNatClampNeg = v0 * 24 + s0 := nI_clamp (by omega)
    have cn : nv.toNatClampNeg = n0 := by rw [hnv]; exact nI_clamp (by omega)
    have cx : (nI x0).toNatClampNeg = x0 := nI_clamp (by omega)
    have cw : (nI w0).toNatClampNeg = w0 := nI_clamp (by omega)
    have cQ : (nI (w0 * 24 + x0)).toNatClampNeg = w0 * 24 + x0 := nI_clamp (by omega)
    have cd1 : (nI (d0 + 1)).toNatClampNeg = d0 + 1 := nI_clamp (by omega)
    have hQ : vp_in (nI (w0 * 24 + x0)) 960 := vp_in_nI (by omega) (by decide)
    have hlt : nI d0 < 30 ↔ d0 < 30 := nI_ltR (by decide) (by omega)
    simp only [px24, cP, cQ, cs, cv, cx, cw, cd, cn, hlt, nI_1, cd1, lg_eq0] at hpost ⊢
    refine ⟨¬ tl = 0 ∨ ¬ d0 < 30, ⟨fun h => Or.inl h, fun h => ⟨fun h2 => ?_, fun h2 => Or.inr h2⟩⟩, fun hj => (hpost _ _ _ _ _ _ _ _ _ _ _ _ _ _ _ _ _ _ _ _ _ _ _ _ ⟨false, rfl, ⟨Or.inr rfl, fun _ => rfl, fun G R lv hG hC hA => Ef.stop hA (hj.elim (fun q => Or.inl (htl.resolve_left q)) (fun q => Or.inr (by omega)))⟩, rfl, rfl, rfl, rfl, rfl, rfl, rfl, rfl, rfl, rfl, rfl, rfl, rfl, rfl, rfl, rfl, rfl, rfl, rfl⟩)⟩
    refine ⟨hQ, fun f g hh u => (u = 0 ∨ u = 1) ∧ ∀ (G : Sp) (R : Nat → Nat → Prop) (lv : Nat → Nat), (∃ va mk, G = gC ki co pr pa tw pn pl po pf pt ru le li bn n0 va mk) → Ctx G R lv → (¬ ch (w0 * 24 + x0) = 0 ∧ f = ch ∧ g = ma ∧ hh = br ∧ u = tl) ∨ (ch (w0 * 24 + x0) = 0 ∧ Wd G R lv x0 w0 (d0 + 1) ch ma br tl f g hh u), ⟨fun h3 => ⟨htl, fun G R lv _ _ => Or.inl ⟨h3, rfl, rfl, rfl, rfl⟩⟩, fun h3 => ⟨⟨n0, m0, x0, w0, d0 + 1, ⟨hnv, hns, hS, htl, rfl, rfl, rfl, hx, hw, by omega, by omega, by omega⟩, by omega⟩, fun f g hh u hpost => ⟨hpost.1, fun G R lv hG hC => Or.inr ⟨h3, hpost.2.2 G R lv hG hC⟩⟩⟩⟩, ?_⟩
    rintro f g hh u ⟨hu, hK⟩
    refine ⟨hQ, jn_t ?_⟩
    have h01 : (if nI d0 + f (w0 * 24 + x0) ≤ 30 then u else 1) = 0 ∨ (if nI d0 + f (w0 * 24 + x0) ≤ 30 then u else 1) = 1 := by
      split
      · exact hu
      · exact Or.inr rfl
    have htn : ¬ tl = 1 := fun q => by rw [h] at q; exact absurd q (by decide)
    refine ⟨hPv, hQ, hPv, hQ, fun h4 => (hpost _ _ _ _ _ _ _ _ _ _ _ _ _ _ _ _ _ _ _ _ _ _ _ _ ⟨false, rfl, ⟨h01, fun q => absurd q htn, fun G R lv hG hC hA => Ef.ask hC hA hd1 h2 (hK G R lv hG hC) rfl ⟨fun q => absurd q (by decide), fun q => absurd q h4⟩⟩, rfl, rfl, rfl, rfl, rfl, rfl, rfl, rfl, rfl, rfl, rfl, rfl, rfl, rfl, rfl, rfl, rfl, rfl, rfl⟩), fun h4 => (hpost _ _ _ _ _ _ _ _ _ _ _ _ _ _ _ _ _ _ _ _ _ _ _ _ ⟨true, rfl, ⟨h01, fun q => absurd q htn, fun G R lv hG hC hA => Ef.ask hC hA hd1 h2 (hK G R lv hG hC) rfl ⟨fun _ => h4, fun _ => rfl⟩⟩, rfl, rfl, rfl, rfl, rfl, rfl, rfl, rfl, rfl, rfl, rfl, rfl, rfl, rfl, rfl, rfl, rfl, rfl, rfl⟩)⟩
  exact main _ (fun _ _ _ _ _ _ _ _ _ _ _ _ _ _ _ _ _ _ _ _ _ _ _ _ h => h)
theorem c_Ju_ask (l : Launch) (D : va_G) (a : Nat → Nat) (cI cJ cZ : ClassId) (z : Nat) (HW : WQ l D a cI cJ cZ z) (ch : Nat → Int32) (ma : Nat → Int32) (br : Nat → Int64) (tl : Int32) (ki : Nat → Int32) (co : Nat → Int64) (pr : Nat → Int32) (pa : Nat → Int32) (tw : Nat → Int32) (nv : Int32) (sv : Int32) (ru : Nat → Int32) (le : Nat → Int32) (li : Nat → Int32) (bn : Nat → Int32) (ip : Nat → Int32) (aw : Nat → Int32) (ns : Int32) (pn : Nat → Int32) (pl : Nat → Int32) (po : Nat → Int32) (pf : Nat → Int32) (pt : Nat → Int32) (xs : Int32) (xv : Int32) (xx : Int32) (xw : Int32) (xd : Int32) (hpre : (∃ n0 m0 s0 v0 d0 : Nat, JP ki co pr pa pn po ru le li bn nv ns tl z xs xv xd n0 m0 s0 v0 d0 ∧ (∃ x0 : Nat, x0 < m0 ∧ xx = nI x0) ∧ ∃ w0 : Nat, w0 < n0 ∧ xw = nI w0)) : Em (S := Bool × (Nat → Int32) × (Nat → Int32) × (Nat → Int64) × Int32) l y_Ju_ask b_Ju_ask 8 (some .boolean) (5 * z + 10) (200 * z + 90) [.ref (a 20), .int xs, .int xv, .int xx, .int xw, .int xd] D (tyA cI cJ cZ) (wJ a cI cJ ch ma br tl ++ wV a cI cJ ki co pr pa tw nv sv ++ wS a cI ru le li bn ip aw ns ++ wL a ++ wP a cI cZ pn pl po pf pt) (fun uu => ((uu.2.2.2.2 = 0 ∨ uu.2.2.2.2 = 1) ∧ (tl = 1 → uu.2.2.2.2 = 1) ∧ ∀ (G : Sp) (R : Nat → Nat → Prop) (lv : Nat → Nat), (∃ va mk, G = gC ki co pr pa tw pn pl po pf pt ru le li bn nv.toNatClampNeg va mk) → Ctx G R lv → Ask G xs.toNatClampNeg xv.toNatClampNeg xx.toNatClampNeg xw.toNatClampNeg → Ef G R lv xs.toNatClampNeg xv.toNatClampNeg xd.toNatClampNeg (fun x' w' => x' = xx.toNatClampNeg ∧ w' = xw.toNatClampNeg) (fun _ => False) (fun _ => False) ((uu.1 = true ↔ gVa G xx.toNatClampNeg xw.toNatClampNeg) ∧ ∀ i, i < 32 → (bt (uu.2.2.1 (xw.toNatClampNeg * 24 + xx.toNatClampNeg)) i = true ↔ gMk G xx.toNatClampNeg xw.toNatClampNeg i)) ch ma br tl uu.2.1 uu.2.2.1 uu.2.2.2.1 uu.2.2.2.2)) (fun uu => some (.int (bI uu.1))) (fun uu => (wJ a cI cJ uu.2.1 uu.2.2.1 uu.2.2.2.1 uu.2.2.2.2 ++ wV a cI cJ ki co pr pa tw nv sv ++ wS a cI ru le li bn ip aw ns ++ wL a ++ wP a cI cZ pn pl po pf pt)) :=
  em_i (by decide) (fun _ _ => bI_nar _) (Nat.le_of_ble_eq_true rfl) (fun p e s m below meth c ls Q A S hK hP hD hA hS hX hl hret => g_Ju_ask S (Nat.le_refl _) (Nat.le_refl _) ⟨Nat.le_refl _, Nat.le_refl _⟩ D a cI cJ cZ HW ch ma br tl ki co pr pa tw nv sv ru le li bn ip aw ns pn pl po pf pt xs xv xx xw xd hK hP hD hA hS hX hl (v_Ju_ask z ch ma br tl ki co pr pa tw nv sv ru le li bn ip aw ns pn pl po pf pt xs xv xx xw xd hpre) (fun v ch' ma' br' tl' ki' co' pr' pa' tw' nv' sv' ru' le' li' bn' ip' aw' ns' pn' pl' po' pf' pt' ls1 pc H1 locs1 hd hv hP1 hD1 hS1 => by obtain ⟨rr, rfl, hp, rfl, rfl, rfl, rfl, rfl, rfl, rfl, rfl, rfl, rfl, rfl, rfl, rfl, rfl, rfl, rfl, rfl, rfl, rfl⟩ := hv; exact hret (rr, ch', ma', br', tl') _ ls1 pc H1 locs1 hd hp rfl hP1 hD1 hS1))
theorem hd_Ju_ask : y_Ju_ask.cls ≠ "java/lang/invoke/MethodHandle" ∧ y_Ju_ask.cls ≠ "java/lang/invoke/VarHandle" ∧ (parseMethodDescriptor y_Ju_ask.desc).map (fun d => d.parameters.length) = some 5 := ⟨by decide, by decide, by decide +kernel⟩
