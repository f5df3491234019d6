def lsh (x : Int64) (k : Int32) : Int64 := (x.toUInt64 >>> (k.toInt64.toUInt64 &&& Int64.toUInt64 63)).toInt64
def lB1 (x : Int64) : Int64 := x - (lsh x 1 &&& 6148914691236517205)
def lB2 (x : Int64) : Int64 := (x &&& 3689348814741910323) + (lsh x 2 &&& 3689348814741910323)
def lB3 (x : Int64) : Int64 := (x + lsh x 4) &&& 1085102592571150095
def lB4 (x : Int64) : Int64 := x + lsh x 8
def lB5 (x : Int64) : Int64 := x + lsh x 16
def lB6 (x : Int64) : Int64 := x + lsh x 32
def lBits (x : Int64) : Int32 := (lB6 (lB5 (lB4 (lB3 (lB2 (lB1 x)))))).toInt32 &&& 127
theorem lBits_0 : lBits 0 = 0 := by decide +kernel
def cntL (br : Nat → Int64) : Nat → Int32
  | 0 => 0
  | n + 1 => cntL br n + lBits (br n)
theorem cntL_0 {br : Nat → Int64} : ∀ n, (∀ j, j < n → br j = 0) → cntL br n = 0
  | 0, _ => rfl
  | n + 1, h => by
    rw [cntL, cntL_0 n (fun j hj => h j (by omega)), h n (by omega), lBits_0]; rfl
theorem pair_in {x y ns nv : Int32} (h1 : nv ≤ 40) (h2 : ns ≤ 24) (hx : sHas ns x = true) (hy : sHas nv y = true) : vp_in (y * 24 + x) 960 := by
  obtain ⟨r, hr, rfl, -⟩ := vp_nat (vp_sHas (N := 24) (Int32.le_iff_toInt_le.mp h2) hx) (by decide)
  obtain ⟨k, hk, rfl, -⟩ := vp_nat (vp_sHas (N := 40) (Int32.le_iff_toInt_le.mp h1) hy) (by decide)
  rw [show (24 : Int32) = nI 24 from rfl, pk_mul, nI_add]
  exact vp_in_nI (by omega) (by decide)
def V_Lo_bitCount (x : Int64) (post : Int32 → Prop) : Prop :=
  (∀ z1 : Int64, z1 = x - (((x.toUInt64 >>> ((1 : Int32).toInt64.toUInt64 &&& Int64.toUInt64 63)).toInt64) &&& 6148914691236517205) → (∀ z2 : Int64, z2 = (z1 &&& 3689348814741910323) + (((z1.toUInt64 >>> ((2 : Int32).toInt64.toUInt64 &&& Int64.toUInt64 63)).toInt64) &&& 3689348814741910323) → (∀ z3 : Int64, z3 = (z2 + ((z2.toUInt64 >>> ((4 : Int32).toInt64.toUInt64 &&& Int64.toUInt64 63)).toInt64)) &&& 1085102592571150095 → (∀ z4 : Int64, z4 = z3 + ((z3.toUInt64 >>> ((8 : Int32).toInt64.toUInt64 &&& Int64.toUInt64 63)).toInt64) → (∀ z5 : Int64, z5 = z4 + ((z4.toUInt64 >>> ((16 : Int32).toInt64.toUInt64 &&& Int64.toUInt64 63)).toInt64) → (∀ z6 : Int64, z6 = z5 + ((z5.toUInt64 >>> ((32 : Int32).toInt64.toUInt64 &&& Int64.toUInt64 63)).toInt64) → post (z6.toInt32 &&& 127)))))))
set_option maxHeartbeats 4000000 in
set_option maxRecDepth 100000 in
theorem g_Lo_bitCount {p : Program} {l : Launch} {e : Env} {R : Room} {s : State} {m : MethodId} {args : Array Value} {below : List Frame} {meth : Method} {c : Code} {H : Heap} {locs : List Loc} {cells slots : Nat} {Q : State → Prop} {ls : Array Slot} (S : CallFix p m c b_Lo_bitCount 2 s args W0 R_Lo) (hRf : 0 ≤ R.frames) (hRl : 0 ≤ R.locals) (hRc : cells ≤ R.cells ∧ slots ≤ R.slots) (x : Int64) (hl : lv_has ls 2 [(0, .long x)]) {post : Int32 → Prop} (vc : V_Lo_bitCount x post)
    (hret : ∀ (v : Int32) (ls : Array Slot) (pc : Nat), decode b_Lo_bitCount pc = .ok (.ireturn, 1) → post v → W p l e R s m args below meth c H locs cells slots Q (F0 m pc ls [.int v])) : W p l e R s m args below meth c H locs cells slots Q (F0 m 0 ls []) := by
  have hx := S.1
  have hb := S.2.1
  have hown := S.2.2.2.1
  have hts := S.2.2.2.2
  unfold V_Lo_bitCount at vc
  refine lv_lload_n hx hb d_Lo_bitCount_0 rfl (lv_at hl 0 rfl) ?_
  refine lv_lload_n hx hb d_Lo_bitCount_1 rfl (lv_at hl 0 rfl) ?_
  refine lv_iconst (v := 1) hx hb d_Lo_bitCount_2 (by decide) ?_
  refine lv_lushr hx hb d_Lo_bitCount_3 rfl ?_
  refine lv_ldc2 hx hb hown (hts _ cg_Lo_314) d_Lo_bitCount_4 ?_
  refine lv_land hx hb d_Lo_bitCount_7 ?_
  refine lv_lsub hx hb d_Lo_bitCount_8 ?_
  refine lv_topl (fun z1 ez1 => ?_)
  have vc := vc z1 ez1
  refine lv_lstore_n hx hb d_Lo_bitCount_9 rfl hl (by decide) (lv' := [(0, .long z1)]) rfl (fun ls hl => ?_)
  refine lv_lload_n hx hb d_Lo_bitCount_10 rfl (lv_at hl 0 rfl) ?_
  refine lv_ldc2 hx hb hown (hts _ cg_Lo_316) d_Lo_bitCount_11 ?_
  refine lv_land hx hb d_Lo_bitCount_14 ?_
  refine lv_lload_n hx hb d_Lo_bitCount_15 rfl (lv_at hl 0 rfl) ?_
  refine lv_iconst (v := 2) hx hb d_Lo_bitCount_16 (by decide) ?_
  refine lv_lushr hx hb d_Lo_bitCount_17 rfl ?_
  refine lv_ldc2 hx hb hown (hts _ cg_Lo_316) d_Lo_bitCount_18 ?_
  refine lv_land hx hb d_Lo_bitCount_21 ?_
  refine lv_ladd hx hb d_Lo_bitCount_22 ?_
  refine lv_topl (fun z2 ez2 => ?_)
  have vc := vc z2 ez2
  refine lv_lstore_n hx hb d_Lo_bitCount_23 rfl hl (by decide) (lv' := [(0, .long z2)]) rfl (fun ls hl => ?_)
  refine lv_lload_n hx hb d_Lo_bitCount_24 rfl (lv_at hl 0 rfl) ?_
  refine lv_lload_n hx hb d_Lo_bitCount_25 rfl (lv_at hl 0 rfl) ?_
  refine lv_iconst (v := 4) hx hb d_Lo_bitCount_26 (by decide) ?_
  refine lv_lushr hx hb d_Lo_bitCount_27 rfl ?_
  refine lv_ladd hx hb d_Lo_bitCount_28 ?_
  refine lv_ldc2 hx hb hown (hts _ cg_Lo_318) d_Lo_bitCount_29 ?_
  refine lv_land hx hb d_Lo_bitCount_32 ?_
  refine lv_topl (fun z3 ez3 => ?_)
  have vc := vc z3 ez3
  refine lv_lstore_n hx hb d_Lo_bitCount_33 rfl hl (by decide) (lv' := [(0, .long z3)]) rfl (fun ls hl => ?_)
  refine lv_lload_n hx hb d_Lo_bitCount_34 rfl (lv_at hl 0 rfl) ?_
  refine lv_lload_n hx hb d_Lo_bitCount_35 rfl (lv_at hl 0 rfl) ?_
  refine lv_bipush (v := 8) hx hb d_Lo_bitCount_36 (by decide) ?_
  refine lv_lushr hx hb d_Lo_bitCount_38 rfl ?_
  refine lv_ladd hx hb d_Lo_bitCount_39 ?_
  refine lv_topl (fun z4 ez4 => ?_)
  have vc := vc z4 ez4
  refine lv_lstore_n hx hb d_Lo_bitCount_40 rfl hl (by decide) (lv' := [(0, .long z4)]) rfl (fun ls hl => ?_)
  refine lv_lload_n hx hb d_Lo_bitCount_41 rfl (lv_at hl 0 rfl) ?_
  refine lv_lload_n hx hb d_Lo_bitCount_42 rfl (lv_at hl 0 rfl) ?_
  refine lv_bipush (v := 16) hx hb d_Lo_bitCount_43 (by decide) ?_
  refine lv_lushr hx hb d_Lo_bitCount_45 rfl ?_
  refine lv_ladd hx hb d_Lo_bitCount_46 ?_
  refine lv_topl (fun z5 ez5 => ?_)
  have vc := vc z5 ez5
  refine lv_lstore_n hx hb d_Lo_bitCount_47 rfl hl (by decide) (lv' := [(0, .long z5)]) rfl (fun ls hl => ?_)
  refine lv_lload_n hx hb d_Lo_bitCount_48 rfl (lv_at hl 0 rfl) ?_
  refine lv_lload_n hx hb d_Lo_bitCount_49 rfl (lv_at hl 0 rfl) ?_
  refine lv_bipush (v := 32) hx hb d_Lo_bitCount_50 (by decide) ?_
  refine lv_lushr hx hb d_Lo_bitCount_52 rfl ?_
  refine lv_ladd hx hb d_Lo_bitCount_53 ?_
  refine lv_topl (fun z6 ez6 => ?_)
  have vc := vc z6 ez6
  refine lv_lstore_n hx hb d_Lo_bitCount_54 rfl hl (by decide) (lv' := [(0, .long z6)]) rfl (fun ls hl => ?_)
  refine lv_lload_n hx hb d_Lo_bitCount_55 rfl (lv_at hl 0 rfl) ?_
  refine lv_l2i hx hb d_Lo_bitCount_56 rfl ?_
  refine lv_bipush (v := 127) hx hb d_Lo_bitCount_57 (by decide) ?_
  refine lv_iand hx hb d_Lo_bitCount_59 ?_
  exact hret _ ls _ d_Lo_bitCount_60 vc
theorem h_Lo_bitCount (l : Launch) (x : Int64) (r : Int32) (vc : V_Lo_bitCount x (fun v => v = r)) : Pm l y_Lo_bitCount b_Lo_bitCount 2 (some .int) 0 0 [.long x] wT (.int r) :=
  pm_i (by decide) rfl (Nat.le_of_ble_eq_true rfl) (fun p e s m below meth c ls Q S hB hl hret => g_Lo_bitCount S (Nat.le_refl _) (Nat.le_refl _) ⟨Nat.le_refl _, Nat.le_refl _⟩ x hl vc hret)
theorem c_Lo_bitCount (l : Launch) (x : Int64) : Pm l y_Lo_bitCount b_Lo_bitCount 2 (some .int) 0 0 [.long x] wT (.int (lBits x)) := h_Lo_bitCount l x _ (by
  unfold V_Lo_bitCount
  intro z1 h1 z2 h2 z3 h3 z4 h4 z5 h5 z6 h6
  subst h1 h2 h3 h4 h5 h6
  rfl)
theorem hd_Lo_bitCount : y_Lo_bitCount.cls ≠ "java/lang/invoke/MethodHandle" ∧ y_Lo_bitCount.cls ≠ "java/lang/invoke/VarHandle" ∧ (parseMethodDescriptor y_Lo_bitCount.desc).map (fun d => d.parameters.length) = some 1 := ⟨by decide, by decide, by decide +kernel⟩
def V_Ju_pairOf (x : Int32) (y : Int32) (post : Int32 → Prop) : Prop :=
  post ((y * 24) + x)
set_option maxHeartbeats 4000000 in
set_option maxRecDepth 100000 in
theorem g_Ju_pairOf {p : Program} {l : Launch} {e : Env} {R : Room} {s : State} {m : MethodId} {args : Array Value} {below : List Frame} {meth : Method} {c : Code} {H : Heap} {locs : List Loc} {cells slots : Nat} {Q : State → Prop} {ls : Array Slot} (S : CallFix p m c b_Ju_pairOf 2 s args W0 R_Ju) (hRf : 0 ≤ R.frames) (hRl : 0 ≤ R.locals) (hRc : cells ≤ R.cells ∧ slots ≤ R.slots) (x : Int32) (y : Int32) (hl : lv_has ls 2 [(0, .int x), (1, .int y)]) {post : Int32 → Prop} (vc : V_Ju_pairOf x y post)
    (hret : ∀ (v : Int32) (ls : Array Slot) (pc : Nat), decode b_Ju_pairOf pc = .ok (.ireturn, 1) → post v → W p l e R s m args below meth c H locs cells slots Q (F0 m pc ls [.int v])) : W p l e R s m args below meth c H locs cells slots Q (F0 m 0 ls []) := by
  have hx := S.1
  have hb := S.2.1
  have hown := S.2.2.2.1
  have hts := S.2.2.2.2
  unfold V_Ju_pairOf at vc
  refine lv_iload_n hx hb d_Ju_pairOf_0 rfl (lv_at hl 1 rfl) ?_
  refine lv_bipush (v := 24) hx hb d_Ju_pairOf_1 (by decide) ?_
  refine lv_imul hx hb d_Ju_pairOf_3 ?_
  refine lv_iload_n hx hb d_Ju_pairOf_4 rfl (lv_at hl 0 rfl) ?_
  refine lv_iadd hx hb d_Ju_pairOf_5 ?_
  exact hret _ ls _ d_Ju_pairOf_6 vc
theorem h_Ju_pairOf (l : Launch) (x : Int32) (y : Int32) (r : Int32) (vc : V_Ju_pairOf x y (fun v => v = r)) : Pm l y_Ju_pairOf b_Ju_pairOf 2 (some .int) 0 0 [.int x, .int y] wT (.int r) :=
  pm_i (by decide) rfl (Nat.le_of_ble_eq_true rfl) (fun p e s m below meth c ls Q S hB hl hret => g_Ju_pairOf S (Nat.le_refl _) (Nat.le_refl _) ⟨Nat.le_refl _, Nat.le_refl _⟩ x y hl vc hret)
theorem c_Ju_pairOf (l : Launch) (x : Int32) (y : Int32) : Pm l y_Ju_pairOf b_Ju_pairOf 2 (some .int) 0 0 [.int x, .int y] wT (.int (y * 24 + x)) := h_Ju_pairOf l x y _ (by
  unfold V_Ju_pairOf
  rfl)
theorem hd_Ju_pairOf : y_Ju_pairOf.cls ≠ "java/lang/invoke/MethodHandle" ∧ y_Ju_pairOf.cls ≠ "java/lang/invoke/VarHandle" ∧ (parseMethodDescriptor y_Ju_pairOf.desc).map (fun d => d.parameters.length) = some 2 := ⟨by decide, by decide, by decide +kernel⟩
def V_Ju_marksOf (ch : Nat → Int32) (ma : Nat → Int32) (br : Nat → Int64) (tl : Int32) (x : Int32) (y : Int32) (post : Int32 → Prop) : Prop :=
  (vp_in (y * 24 + x) 960 ∧ ((¬ (ch (y * 24 + x : Int32).toNatClampNeg) = 0 → (vp_in (y * 24 + x) 960 ∧ post (ma (y * 24 + x : Int32).toNatClampNeg))) ∧ ((ch (y * 24 + x : Int32).toNatClampNeg) = 0 → post (-1))))
set_option maxHeartbeats 4000000 in
set_option maxRecDepth 100000 in
theorem g_Ju_marksOf {p : Program} {l : Launch} {e : Env} {R : Room} {s : State} {m : MethodId} {args : Array Value} {below : List Frame} {meth : Method} {c : Code} {H : Heap} {locs : List Loc} {cells slots : Nat} {Q : State → Prop} {ls : Array Slot} (S : CallFix p m c b_Ju_marksOf 3 s args W0 R_Ju) (hRf : 1 ≤ R.frames) (hRl : 21 ≤ R.locals) (hRc : cells ≤ R.cells ∧ slots ≤ R.slots) (D : va_G) (a : Nat → Nat) (cI cJ cZ : ClassId) (ch : Nat → Int32) (ma : Nat → Int32) (br : Nat → Int64) (tl : Int32) (x : Int32) (y : Int32) (hK : va_K D vwCl (tyA cI cJ cZ) s) (hP : va_P D vwCl (wJ a cI cJ ch ma br tl) H) (hl : lv_has ls 3 [(0, .ref (a 20)), (1, .int x), (2, .int y)]) {post : Int32 → Prop} (vc : V_Ju_marksOf ch ma br tl x y post)
    (hret : ∀ (v : Int32) (ls : Array Slot) (pc : Nat), decode b_Ju_marksOf pc = .ok (.ireturn, 1) → post v → W p l e R s m args below meth c H locs cells slots Q (F0 m pc ls [.int v])) : W p l e R s m args below meth c H locs cells slots Q (F0 m 0 ls []) := by
  have hx := S.1
  have hb := S.2.1
  have hown := S.2.2.2.1
  have hts := S.2.2.2.2
  unfold V_Ju_marksOf at vc
  refine lv_aload_n hx hb d_Ju_marksOf_0 rfl (lv_at hl 0 rfl) ?_
  refine va_get (D := D) (ci := 0) (v := .ref (a 21)) (C := R_Ju) (T := F_Ju) (N := 7) hx hb hts in_Ju hown hK hP 0 rfl rfl 3 (by decide) (hts _ fl_Ju_25) (fun _ h => h) rfl d_Ju_marksOf_1 ?_
  refine lv_iload_n hx hb d_Ju_marksOf_4 rfl (lv_at hl 1 rfl) ?_
  refine lv_iload_n hx hb d_Ju_marksOf_5 rfl (lv_at hl 2 rfl) ?_
  refine pc_S (As := [.int x, .int y]) (rest := [.ref (a 21)]) S (c_Ju_pairOf l x y) wT_blind k_Ju_pairOf s_Ju_pairOf o_Ju ml_Ju_59 hd_Ju_pairOf (Nat.le_trans (by decide) hRf) (Nat.le_trans (by decide) hRl) hRc (fun _ _ _ => trivial) hl.1 rfl (Nat.le_of_ble_eq_true rfl) d_Ju_marksOf_6 ?_
  obtain ⟨vcb, vc⟩ := vc
  refine va_iald hx hb hK hP 1 0 rfl rfl vcb d_Ju_marksOf_9 ?_
  refine lv_if_ne (tgt := 17) hx hb d_Ju_marksOf_10 (by decide) (fun h => ?_) (fun h => ?_)
  · have vc := vc.1 h
    refine lv_aload_n hx hb d_Ju_marksOf_17 rfl (lv_at hl 0 rfl) ?_
    refine va_get (D := D) (ci := 0) (v := .ref (a 22)) (C := R_Ju) (T := F_Ju) (N := 7) hx hb hts in_Ju hown hK hP 0 rfl rfl 4 (by decide) (hts _ fl_Ju_29) (fun _ h => h) rfl d_Ju_marksOf_18 ?_
    refine lv_iload_n hx hb d_Ju_marksOf_21 rfl (lv_at hl 1 rfl) ?_
    refine lv_iload_n hx hb d_Ju_marksOf_22 rfl (lv_at hl 2 rfl) ?_
    refine pc_S (As := [.int x, .int y]) (rest := [.ref (a 22)]) S (c_Ju_pairOf l x y) wT_blind k_Ju_pairOf s_Ju_pairOf o_Ju ml_Ju_59 hd_Ju_pairOf (Nat.le_trans (by decide) hRf) (Nat.le_trans (by decide) hRl) hRc (fun _ _ _ => trivial) hl.1 rfl (Nat.le_of_ble_eq_true rfl) d_Ju_marksOf_23 ?_
    obtain ⟨vcb, vc⟩ := vc
    refine va_iald hx hb hK hP 2 0 rfl rfl vcb d_Ju_marksOf_26 ?_
    exact hret _ ls _ d_Ju_marksOf_27 vc
  · have vc := vc.2 h
    refine lv_iconst (v := (-1)) hx hb d_Ju_marksOf_13 (by decide) ?_
    refine lv_goto (tgt := 27) hx hb d_Ju_marksOf_14 (by decide) ?_
    exact hret _ ls _ d_Ju_marksOf_27 vc
theorem h_Ju_marksOf (l : Launch) (D : va_G) (a : Nat → Nat) (cI cJ cZ : ClassId) (ch : Nat → Int32) (ma : Nat → Int32) (br : Nat → Int64) (tl : Int32) (x : Int32) (y : Int32) (r : Int32) (vc : V_Ju_marksOf ch ma br tl x y (fun v => v = r)) : Pm l y_Ju_marksOf b_Ju_marksOf 3 (some .int) 1 21 [.ref (a 20), .int x, .int y] (wB D (tyA cI cJ cZ) (wJ a cI cJ ch ma br tl)) (.int r) :=
  pm_i (by decide) rfl (Nat.le_of_ble_eq_true rfl) (fun p e s m below meth c ls Q S hB hl hret => g_Ju_marksOf S (Nat.le_refl _) (Nat.le_refl _) ⟨Nat.le_refl _, Nat.le_refl _⟩ D a cI cJ cZ ch ma br tl x y hB.2 hB.1 hl vc hret)
theorem c_Ju_marksOf (l : Launch) (D : va_G) (a : Nat → Nat) (cI cJ cZ : ClassId) (ch : Nat → Int32) (ma : Nat → Int32) (br : Nat → Int64) (tl : Int32) (x : Int32) (y : Int32) (hpre : vp_in (y * 24 + x) 960) : Pm l y_Ju_marksOf b_Ju_marksOf 3 (some .int) 1 21 [.ref (a 20), .int x, .int y] (wB D (tyA cI cJ cZ) (wJ a cI cJ ch ma br tl)) (.int (if ch (y * 24 + x : Int32).toNatClampNeg = 0 then -1 else ma (y * 24 + x : Int32).toNatClampNeg)) := h_Ju_marksOf l D a cI cJ cZ ch ma br tl x y _ (by
  unfold V_Ju_marksOf
  exact ⟨hpre, fun h => ⟨hpre, by simp [h]⟩, fun h => by simp [h]⟩)
theorem hd_Ju_marksOf : y_Ju_marksOf.cls ≠ "java/lang/invoke/MethodHandle" ∧ y_Ju_marksOf.cls ≠ "java/lang/invoke/VarHandle" ∧ (parseMethodDescriptor y_Ju_marksOf.desc).map (fun d => d.parameters.length) = some 2 := ⟨by decide, by decide, by decide +kernel⟩
def V_Ju_countFaults (ch : Nat → Int32) (ma : Nat → Int32) (br : Nat → Int64) (tl : Int32) (post : Int32 → Prop) : Prop :=
  (∃ (I4 : Int32 → Int32 → Prop) (mI4 : Int32 → Int32 → Nat), I4 0 0 ∧ (∀ (x2 : Int32) (x3 : Int32), I4 x2 x3 → ((960 ≤ x3 → post x2) ∧ (¬ 960 ≤ x3 → (vp_in x3 960 ∧ (I4 (x2 + (lBits (br x3.toNatClampNeg))) (x3 + 1) ∧ mI4 (x2 + (lBits (br x3.toNatClampNeg))) (x3 + 1) < mI4 x2 x3))))))
set_option maxHeartbeats 4000000 in
set_option maxRecDepth 100000 in
theorem g_Ju_countFaults {p : Program} {l : Launch} {e : Env} {R : Room} {s : State} {m : MethodId} {args : Array Value} {below : List Frame} {meth : Method} {c : Code} {H : Heap} {locs : List Loc} {cells slots : Nat} {Q : State → Prop} {ls : Array Slot} (S : CallFix p m c b_Ju_countFaults 3 s args W0 R_Ju) (hRf : 1 ≤ R.frames) (hRl : 21 ≤ R.locals) (hRc : cells ≤ R.cells ∧ slots ≤ R.slots) (D : va_G) (a : Nat → Nat) (cI cJ cZ : ClassId) (ch : Nat → Int32) (ma : Nat → Int32) (br : Nat → Int64) (tl : Int32) (hK : va_K D vwCl (tyA cI cJ cZ) s) (hP : va_P D vwCl (wJ a cI cJ ch ma br tl) H) (hl : lv_has ls 3 [(0, .ref (a 20))]) {post : Int32 → Prop} (vc : V_Ju_countFaults ch ma br tl post)
    (hret : ∀ (v : Int32) (ls : Array Slot) (pc : Nat), decode b_Ju_countFaults pc = .ok (.ireturn, 1) → post v → W p l e R s m args below meth c H locs cells slots Q (F0 m pc ls [.int v])) : W p l e R s m args below meth c H locs cells slots Q (F0 m 0 ls []) := by
  have hx := S.1
  have hb := S.2.1
  have hown := S.2.2.2.1
  have hts := S.2.2.2.2
  unfold V_Ju_countFaults at vc
  refine lv_iconst (v := 0) hx hb d_Ju_countFaults_0 (by decide) ?_
  refine lv_istore_n hx hb d_Ju_countFaults_1 rfl hl (by decide) (lv' := [(1, .int 0), (0, .ref (a 20))]) rfl (fun ls hl => ?_)
  refine lv_iconst (v := 0) hx hb d_Ju_countFaults_2 (by decide) ?_
  refine lv_istore_n hx hb d_Ju_countFaults_3 rfl hl (by decide) (lv' := [(2, .int 0), (1, .int 0), (0, .ref (a 20))]) rfl (fun ls hl => ?_)
  obtain ⟨I4, mI4, vc0, vcs⟩ := vc
  have lI4 : ∀ n : Nat, ∀ (x2 : Int32) (x3 : Int32) (ls : Array Slot), I4 x2 x3 → mI4 x2 x3 < n → lv_has ls 3 [(0, .ref (a 20)), (1, .int x2), (2, .int x3)] → W p l e R s m args below meth c H locs cells slots Q (F0 m 4 ls []) := by
    intro n
    induction n with
    | zero => intro x2 x3 ls _ h; exact absurd h (Nat.not_lt_zero _)
    | succ n ihI4 =>
      intro x2 x3 ls vc hmI4 hl
      have vc := vcs x2 x3 vc
      refine lv_iload_n hx hb d_Ju_countFaults_4 rfl (lv_at hl 2 rfl) ?_
      refine lv_sipush (v := 960) hx hb d_Ju_countFaults_5 (by decide) ?_
      refine lv_icmp_ge (tgt := 29) hx hb d_Ju_countFaults_8 (by decide) (fun h => ?_) (fun h => ?_)
      · have vc := vc.1 h
        refine lv_iload_n hx hb d_Ju_countFaults_29 rfl (lv_at hl 1 rfl) ?_
        exact hret _ ls _ d_Ju_countFaults_30 vc
      · have vc := vc.2 h
        refine lv_iload_n hx hb d_Ju_countFaults_11 rfl (lv_at hl 1 rfl) ?_
        refine lv_aload_n hx hb d_Ju_countFaults_12 rfl (lv_at hl 0 rfl) ?_
        refine va_get (D := D) (ci := 0) (v := .ref (a 23)) (C := R_Ju) (T := F_Ju) (N := 7) hx hb hts in_Ju hown hK hP 0 rfl rfl 5 (by decide) (hts _ fl_Ju_32) (fun _ h => h) rfl d_Ju_countFaults_13 ?_
        refine lv_iload_n hx hb d_Ju_countFaults_16 rfl (lv_at hl 2 rfl) ?_
        obtain ⟨vcb, vc⟩ := vc
        refine va_lald hx hb hK hP 3 1 rfl rfl vcb d_Ju_countFaults_17 ?_
        refine pc_S (As := [.long (br x3.toNatClampNeg)]) (rest := [.int x2]) S (c_Lo_bitCount l (br x3.toNatClampNeg)) wT_blind k_Lo_bitCount s_Lo_bitCount o_Lo ml_Ju_63 hd_Lo_bitCount (Nat.le_trans (by decide) hRf) (Nat.le_trans (by decide) hRl) hRc (fun _ _ _ => trivial) hl.1 rfl (Nat.le_of_ble_eq_true rfl) d_Ju_countFaults_18 ?_
        refine lv_iadd hx hb d_Ju_countFaults_21 ?_
        refine lv_istore_n hx hb d_Ju_countFaults_22 rfl hl (by decide) (lv' := [(1, .int (x2 + (lBits (br x3.toNatClampNeg)))), (0, .ref (a 20)), (2, .int x3)]) rfl (fun ls hl => ?_)
        refine lv_iinc (k := 2) (v := x3 + 1) hx hb d_Ju_countFaults_23 hl rfl rfl (by decide) (lv' := [(2, .int (x3 + 1)), (1, .int (x2 + (lBits (br x3.toNatClampNeg)))), (0, .ref (a 20))]) rfl (fun ls hl => ?_)
        refine lv_goto (tgt := 4) hx hb d_Ju_countFaults_26 (by decide) ?_
        exact ihI4 (x2 + (lBits (br x3.toNatClampNeg))) (x3 + 1) ls vc.1 (Nat.lt_of_lt_of_le vc.2 (Nat.le_of_lt_succ hmI4)) (lv_sub hl [2, 1, 0] rfl)
  exact lI4 _ 0 0 ls vc0 (Nat.lt_succ_self _) (lv_sub hl [2, 1, 0] rfl)
theorem h_Ju_countFaults (l : Launch) (D : va_G) (a : Nat → Nat) (cI cJ cZ : ClassId) (ch : Nat → Int32) (ma : Nat → Int32) (br : Nat → Int64) (tl : Int32) (r : Int32) (vc : V_Ju_countFaults ch ma br tl (fun v => v = r)) : Pm l y_Ju_countFaults b_Ju_countFaults 3 (some .int) 1 21 [.ref (a 20)] (wB D (tyA cI cJ cZ) (wJ a cI cJ ch ma br tl)) (.int r) :=
  pm_i (by decide) rfl (Nat.le_of_ble_eq_true rfl) (fun p e s m below meth c ls Q S hB hl hret => g_Ju_countFaults S (Nat.le_refl _) (Nat.le_refl _) ⟨Nat.le_refl _, Nat.le_refl _⟩ D a cI cJ cZ ch ma br tl hB.2 hB.1 hl vc hret)
theorem c_Ju_countFaults (l : Launch) (D : va_G) (a : Nat → Nat) (cI cJ cZ : ClassId) (ch : Nat → Int32) (ma : Nat → Int32) (br : Nat → Int64) (tl : Int32) : Pm l y_Ju_countFaults b_Ju_countFaults 3 (some .int) 1 21 [.ref (a 20)] (wB D (tyA cI cJ cZ) (wJ a cI cJ ch ma br tl)) (.int (cntL br 960)) := h_Ju_countFaults l D a cI cJ cZ ch ma br tl _ (by
  unfold V_Ju_countFaults
  refine ⟨fun v i => ∃ k : Nat, k ≤ 960 ∧ i = nI k ∧ v = cntL br k, fun _ i => 960 - i.toInt.toNat, ⟨0, by decide, rfl, rfl⟩, ?_⟩
  rintro v i ⟨k, hk, rfl, rfl⟩
  refine ⟨fun h => ?_, fun h => ?_⟩
  · obtain rfl := fill_end (N := 960) h (by decide) hk; rfl
  · have hk2 := fill_step (N := 960) h (by decide) hk
    exact ⟨vp_in_nI hk2 (by decide), ⟨k + 1, hk2, nI_1 k, by rw [nI_clamp (by omega)]; rfl⟩, fill_mu hk2 (by decide)⟩)
theorem hd_Ju_countFaults : y_Ju_countFaults.cls ≠ "java/lang/invoke/MethodHandle" ∧ y_Ju_countFaults.cls ≠ "java/lang/invoke/VarHandle" ∧ (parseMethodDescriptor y_Ju_countFaults.desc).map (fun d => d.parameters.length) = some 0 := ⟨by decide, by decide, by decide +kernel⟩
def V_Sj_faults (ch : Nat → Int32) (ma : Nat → Int32) (br : Nat → Int64) (tl : Int32) (post : Int32 → Prop) : Prop :=
  post (cntL br 960)
set_option maxHeartbeats 4000000 in
set_option maxRecDepth 100000 in
theorem g_Sj_faults {p : Program} {l : Launch} {e : Env} {R : Room} {s : State} {m : MethodId} {args : Array Value} {below : List Frame} {meth : Method} {c : Code} {H : Heap} {locs : List Loc} {cells slots : Nat} {Q : State → Prop} {ls : Array Slot} (S : CallFix p m c b_Sj_faults 1 s args W0 R_Sj) (hRf : 2 ≤ R.frames) (hRl : 43 ≤ R.locals) (hRc : cells ≤ R.cells ∧ slots ≤ R.slots) (D : va_G) (a : Nat → Nat) (cI cJ cZ : ClassId) (ch : Nat → Int32) (ma : Nat → Int32) (br : Nat → Int64) (tl : Int32) (hK : va_K D vwCl (tyA cI cJ cZ) s) (hP : va_P D vwCl (wX a ++ wJ a cI cJ ch ma br tl) H) (hl : lv_has ls 1 [(0, .ref (a 24))]) {post : Int32 → Prop} (vc : V_Sj_faults ch ma br tl post)
    (hret : ∀ (v : Int32) (ls : Array Slot) (pc : Nat), decode b_Sj_faults pc = .ok (.ireturn, 1) → post v → W p l e R s m args below meth c H locs cells slots Q (F0 m pc ls [.int v])) : W p l e R s m args below meth c H locs cells slots Q (F0 m 0 ls []) := by
  have hx := S.1
  have hb := S.2.1
  have hown := S.2.2.2.1
  have hts := S.2.2.2.2
  unfold V_Sj_faults at vc
  refine lv_aload_n hx hb d_Sj_faults_0 rfl (lv_at hl 0 rfl) ?_
  refine va_get (D := D) (ci := 5) (v := .ref (a 20)) (C := R_Sj) (T := F_Sj) (N := 4) hx hb hts in_Sj hown hK hP 0 rfl rfl 3 (by decide) (hts _ fl_Sj_40) (fun _ h => h) rfl d_Sj_faults_1 ?_
  refine pc_V (As := []) (rest := []) S (c_Ju_countFaults l D a cI cJ cZ ch ma br tl) wB_blind k_Ju_countFaults i_Ju_countFaults e_Ju_countFaults o_Ju ml_Sj_184 hd_Ju_countFaults (Nat.le_trans (by decide) hRf) (Nat.le_trans (by decide) hRl) hRc (va_recv hK hP (q0 := 1) (ci := 0) rfl rfl) (wB_at (hP.sub (ws' := (wJ a cI cJ ch ma br tl)) [1, 2, 3, 4] rfl) hK) hl.1 rfl (Nat.le_of_ble_eq_true rfl) d_Sj_faults_4 ?_
  exact hret _ ls _ d_Sj_faults_7 vc
theorem h_Sj_faults (l : Launch) (D : va_G) (a : Nat → Nat) (cI cJ cZ : ClassId) (ch : Nat → Int32) (ma : Nat → Int32) (br : Nat → Int64) (tl : Int32) (r : Int32) (vc : V_Sj_faults ch ma br tl (fun v => v = r)) : Pm l y_Sj_faults b_Sj_faults 1 (some .int) 2 43 [.ref (a 24)] (wB D (tyA cI cJ cZ) (wX a ++ wJ a cI cJ ch ma br tl)) (.int r) :=
  pm_i (by decide) rfl (Nat.le_of_ble_eq_true rfl) (fun p e s m below meth c ls Q S hB hl hret => g_Sj_faults S (Nat.le_refl _) (Nat.le_refl _) ⟨Nat.le_refl _, Nat.le_refl _⟩ D a cI cJ cZ ch ma br tl hB.2 hB.1 hl vc hret)
theorem c_Sj_faults (l : Launch) (D : va_G) (a : Nat → Nat) (cI cJ cZ : ClassId) (ch : Nat → Int32) (ma : Nat → Int32) (br : Nat → Int64) (tl : Int32) : Pm l y_Sj_faults b_Sj_faults 1 (some .int) 2 43 [.ref (a 24)] (wB D (tyA cI cJ cZ) (wX a ++ wJ a cI cJ ch ma br tl)) (.int (cntL br 960)) := h_Sj_faults l D a cI cJ cZ ch ma br tl _ (by
  unfold V_Sj_faults
  rfl)
theorem hd_Sj_faults : y_Sj_faults.cls ≠ "java/lang/invoke/MethodHandle" ∧ y_Sj_faults.cls ≠ "java/lang/invoke/VarHandle" ∧ (parseMethodDescriptor y_Sj_faults.desc).map (fun d => d.parameters.length) = some 0 := ⟨by decide, by decide, by decide +kernel⟩
def V_Sj_marks (ki : Nat → Int32) (co : Nat → Int64) (pr : Nat → Int32) (pa : Nat → Int32) (tw : Nat → Int32) (nv : Int32) (sv : Int32) (ru : Nat → Int32) (le : Nat → Int32) (li : Nat → Int32) (bn : Nat → Int32) (ip : Nat → Int32) (aw : Nat → Int32) (ns : Int32) (ch : Nat → Int32) (ma : Nat → Int32) (br : Nat → Int64) (tl : Int32) (x : Int32) (y : Int32) (post : Int32 → (Nat → Int32) → (Nat → Int64) → (Nat → Int32) → (Nat → Int32) → (Nat → Int32) → Int32 → Int32 → (Nat → Int32) → (Nat → Int32) → (Nat → Int32) → (Nat → Int32) → (Nat → Int32) → (Nat → Int32) → Int32 → (Nat → Int32) → (Nat → Int32) → (Nat → Int64) → Int32 → Prop) (px : String → (Nat → Int32) → (Nat → Int64) → (Nat → Int32) → (Nat → Int32) → (Nat → Int32) → Int32 → Int32 → (Nat → Int32) → (Nat → Int32) → (Nat → Int32) → (Nat → Int32) → (Nat → Int32) → (Nat → Int32) → Int32 → (Nat → Int32) → (Nat → Int32) → (Nat → Int64) → Int32 → Prop) : Prop :=
  (∃ J1 : Prop, (((bI (sHas ns x)) = 0 → J1) ∧ (¬ (bI (sHas ns x)) = 0 → ((¬ (bI (sHas nv y)) = 0 → (vp_in (y * 24 + x) 960 ∧ post (if ch (y * 24 + x : Int32).toNatClampNeg = 0 then -1 else ma (y * 24 + x : Int32).toNatClampNeg) ki co pr pa tw nv sv ru le li bn ip aw ns ch ma br tl)) ∧ ((bI (sHas nv y)) = 0 → J1)))) ∧ (J1 → px IAE ki co pr pa tw nv sv ru le li bn ip aw ns ch ma br tl))
set_option maxHeartbeats 4000000 in
set_option maxRecDepth 100000 in
theorem g_Sj_marks {p : Program} {l : Launch} {e : Env} {R : Room} {s : State} {m : MethodId} {args : Array Value} {below : List Frame} {meth : Method} {c : Code} {H : Heap} {locs : List Loc} {Q : State → Prop} {ls : Array Slot} {A : Nat → Prop} (hls : l.stackTraces = false) (S : CallFix p m c b_Sj_marks 3 s args W0 R_Sj) (hRf : 6 ≤ R.frames) (hRl : 90 ≤ R.locals) (hRc : 0 + 1 ≤ R.cells ∧ 0 + 6 ≤ R.slots) (D : va_G) (a : Nat → Nat) (cI cJ cZ : ClassId) (ki : Nat → Int32) (co : Nat → Int64) (pr : Nat → Int32) (pa : Nat → Int32) (tw : Nat → Int32) (nv : Int32) (sv : Int32) (ru : Nat → Int32) (le : Nat → Int32) (li : Nat → Int32) (bn : Nat → Int32) (ip : Nat → Int32) (aw : Nat → Int32) (ns : Int32) (ch : Nat → Int32) (ma : Nat → Int32) (br : Nat → Int64) (tl : Int32) (x : Int32) (y : Int32) (hK : va_K D vwCl (tyA cI cJ cZ) s) (hP : va_P D vwCl (wX a ++ wV a cI cJ ki co pr pa tw nv sv ++ wS a cI ru le li bn ip aw ns ++ wJ a cI cJ ch ma br tl) H) (hD : va_D A (wX a ++ wV a cI cJ ki co pr pa tw nv sv ++ wS a cI ru le li bn ip aw ns ++ wJ a cI cJ ch ma br tl)) (hA : ∀ q, s.heap.size ≤ q → A q) (hS : va_S A s.heap H locs) (hX : eX A s s.heap) (hl : lv_has ls 3 [(0, .ref (a 24)), (1, .int x), (2, .int y)]) {post : Int32 → (Nat → Int32) → (Nat → Int64) → (Nat → Int32) → (Nat → Int32) → (Nat → Int32) → Int32 → Int32 → (Nat → Int32) → (Nat → Int32) → (Nat → Int32) → (Nat → Int32) → (Nat → Int32) → (Nat → Int32) → Int32 → (Nat → Int32) → (Nat → Int32) → (Nat → Int64) → Int32 → Prop} {px : String → (Nat → Int32) → (Nat → Int64) → (Nat → Int32) → (Nat → Int32) → (Nat → Int32) → Int32 → Int32 → (Nat → Int32) → (Nat → Int32) → (Nat → Int32) → (Nat → Int32) → (Nat → Int32) → (Nat → Int32) → Int32 → (Nat → Int32) → (Nat → Int32) → (Nat → Int64) → Int32 → Prop} (vc : V_Sj_marks ki co pr pa tw nv sv ru le li bn ip aw ns ch ma br tl x y post px)
    (hret : ∀ (v : Int32) (ki : Nat → Int32) (co : Nat → Int64) (pr : Nat → Int32) (pa : Nat → Int32) (tw : Nat → Int32) (nv : Int32) (sv : Int32) (ru : Nat → Int32) (le : Nat → Int32) (li : Nat → Int32) (bn : Nat → Int32) (ip : Nat → Int32) (aw : Nat → Int32) (ns : Int32) (ch : Nat → Int32) (ma : Nat → Int32) (br : Nat → Int64) (tl : Int32) (ls : Array Slot) (pc : Nat) (H : Heap) (locs : List Loc) (k j : Nat), decode b_Sj_marks pc = .ok (.ireturn, 1) → k ≤ 1 → j ≤ 6 → post v ki co pr pa tw nv sv ru le li bn ip aw ns ch ma br tl → va_P D vwCl (wX a ++ wV a cI cJ ki co pr pa tw nv sv ++ wS a cI ru le li bn ip aw ns ++ wJ a cI cJ ch ma br tl) H → va_D A (wX a ++ wV a cI cJ ki co pr pa tw nv sv ++ wS a cI ru le li bn ip aw ns ++ wJ a cI cJ ch ma br tl) → va_S A s.heap H locs → W p l e R s m args below meth c H locs k j Q (F0 m pc ls [.int v]))
    (hthr : ∀ (ki : Nat → Int32) (co : Nat → Int64) (pr : Nat → Int32) (pa : Nat → Int32) (tw : Nat → Int32) (nv : Int32) (sv : Int32) (ru : Nat → Int32) (le : Nat → Int32) (li : Nat → Int32) (bn : Nat → Int32) (ip : Nat → Int32) (aw : Nat → Int32) (ns : Int32) (ch : Nat → Int32) (ma : Nat → Int32) (br : Nat → Int64) (tl : Int32) (E : String) (ik is ic : Nat) (tx : String) (pc : Nat) (ls : Array Slot) (rest : List Value) (H : Heap) (locs : List Loc), ThrOK E ik is ic tx b_Sj_marks pc → ls.size = 3 → (rest.map fun v => v.category).sum ≤ 8 → px E ki co pr pa tw nv sv ru le li bn ip aw ns ch ma br tl → va_P D vwCl (wX a ++ wV a cI cJ ki co pr pa tw nv sv ++ wS a cI ru le li bn ip aw ns ++ wJ a cI cJ ch ma br tl) H → va_D A (wX a ++ wV a cI cJ ki co pr pa tw nv sv ++ wS a cI ru le li bn ip aw ns ++ wJ a cI cJ ch ma br tl) → va_S A s.heap H locs → W p l e R s m args below meth c H locs 0 0 Q (F0 m pc ls rest))
    (hout : ∀ (ki : Nat → Int32) (co : Nat → Int64) (pr : Nat → Int32) (pa : Nat → Int32) (tw : Nat → Int32) (nv : Int32) (sv : Int32) (ru : Nat → Int32) (le : Nat → Int32) (li : Nat → Int32) (bn : Nat → Int32) (ip : Nat → Int32) (aw : Nat → Int32) (ns : Int32) (ch : Nat → Int32) (ma : Nat → Int32) (br : Nat → Int64) (tl : Int32) (E : String) (ce : Cell) (q : Addr) (pc : Nat) (ls : Array Slot) (rest : List Value) (H : Heap) (locs : List Loc) (k j : Nat), k ≤ 1 → j ≤ 6 → H[q]? = some ce → ce.vm = .none → s.vm.findClass E = some ce.cls → px E ki co pr pa tw nv sv ru le li bn ip aw ns ch ma br tl → va_P D vwCl (wX a ++ wV a cI cJ ki co pr pa tw nv sv ++ wS a cI ru le li bn ip aw ns ++ wJ a cI cJ ch ma br tl) H → va_D A (wX a ++ wV a cI cJ ki co pr pa tw nv sv ++ wS a cI ru le li bn ip aw ns ++ wJ a cI cJ ch ma br tl) → va_S A s.heap H locs → vx_W p l e R s m args below meth c H locs k j Q (F0 m pc ls rest) q) : W p l e R s m args below meth c H locs 0 0 Q (F0 m 0 ls []) := by
  have hx := S.1
  have hb := S.2.1
  have hown := S.2.2.2.1
  have hts := S.2.2.2.2
  unfold V_Sj_marks at vc
  refine lv_aload_n hx hb d_Sj_marks_0 rfl (lv_at hl 0 rfl) ?_
  refine va_get (D := D) (ci := 5) (v := .ref (a 12)) (C := R_Sj) (T := F_Sj) (N := 4) hx hb hts in_Sj hown hK hP 0 rfl rfl 2 (by decide) (hts _ fl_Sj_26) (fun _ h => h) rfl d_Sj_marks_1 ?_
  refine lv_iload_n hx hb d_Sj_marks_4 rfl (lv_at hl 1 rfl) ?_
  refine pc_V (As := [.int x]) (rest := []) S (c_Sc_has l D a cI cJ cZ ru le li bn ip aw ns x) wB_blind k_Sc_has i_Sc_has e_Sc_has o_Sc ml_Sj_131 hd_Sc_has (Nat.le_trans (by decide) hRf) (Nat.le_trans (by decide) hRl) ⟨Nat.zero_le _, Nat.zero_le _⟩ (va_recv hK hP (q0 := 7) (ci := 3) rfl rfl) (wB_at (hP.sub (ws' := (wS a cI ru le li bn ip aw ns)) [7, 8, 9, 10, 11, 12, 13] rfl) hK) hl.1 rfl (Nat.le_of_ble_eq_true rfl) d_Sj_marks_5 ?_
  obtain ⟨J1, vc, vc2⟩ := vc
  have jJ1 : ∀ (ls : Array Slot) (H : Heap) (locs : List Loc), J1 → lv_has ls 3 [(0, .ref (a 24)), (1, .int x), (2, .int y)] → va_P D vwCl (wX a ++ wV a cI cJ ki co pr pa tw nv sv ++ wS a cI ru le li bn ip aw ns ++ wJ a cI cJ ch ma br tl) H → va_D A (wX a ++ wV a cI cJ ki co pr pa tw nv sv ++ wS a cI ru le li bn ip aw ns ++ wJ a cI cJ ch ma br tl) → va_S A s.heap H locs → W p l e R s m args below meth c H locs 0 0 Q (F0 m 22 ls []) := by
    intro  ls H locs vc hl hP hD hS
    have vc := vc2  vc
    exact hthr _ _ _ _ _ _ _ _ _ _ _ _ _ _ _ _ _ _ _ _ _ _ _ _ ls _ H locs ⟨x_IAE, (show ((160, "there is no such schema or value") : Nat × String) ∈ STRS by decide +kernel), d_Sj_marks_22, d_Sj_marks_25, d_Sj_marks_26, d_Sj_marks_28, d_Sj_marks_31⟩ hl.1 (Nat.le_of_ble_eq_true rfl) vc hP hD hS
  clear vc2
  refine lv_if_eq (tgt := 22) hx hb d_Sj_marks_8 (by decide) (fun h => ?_) (fun h => ?_)
  · have vc := vc.1 h
    exact jJ1 ls H locs vc (lv_sub hl [0, 1, 2] rfl) hP hD hS
  · have vc := vc.2 h
    refine lv_aload_n hx hb d_Sj_marks_11 rfl (lv_at hl 0 rfl) ?_
    refine va_get (D := D) (ci := 5) (v := .ref (a 0)) (C := R_Sj) (T := F_Sj) (N := 4) hx hb hts in_Sj hown hK hP 0 rfl rfl 0 (by decide) (hts _ fl_Sj_10) (fun _ h => h) rfl d_Sj_marks_12 ?_
    refine lv_iload_n hx hb d_Sj_marks_15 rfl (lv_at hl 2 rfl) ?_
    refine pc_V (As := [.int y]) (rest := []) S (c_Va_has l D a cI cJ cZ ki co pr pa tw nv sv y) wB_blind k_Va_has i_Va_has e_Va_has o_Va ml_Sj_159 hd_Va_has (Nat.le_trans (by decide) hRf) (Nat.le_trans (by decide) hRl) ⟨Nat.zero_le _, Nat.zero_le _⟩ (va_recv hK hP (q0 := 1) (ci := 4) rfl rfl) (wB_at (hP.sub (ws' := (wV a cI cJ ki co pr pa tw nv sv)) [1, 2, 3, 4, 5, 6] rfl) hK) hl.1 rfl (Nat.le_of_ble_eq_true rfl) d_Sj_marks_16 ?_
    refine lv_if_ne (tgt := 32) hx hb d_Sj_marks_19 (by decide) (fun h => ?_) (fun h => ?_)
    · have vc := vc.1 h
      refine lv_aload_n hx hb d_Sj_marks_32 rfl (lv_at hl 0 rfl) ?_
      refine va_get (D := D) (ci := 5) (v := .ref (a 20)) (C := R_Sj) (T := F_Sj) (N := 4) hx hb hts in_Sj hown hK hP 0 rfl rfl 3 (by decide) (hts _ fl_Sj_40) (fun _ h => h) rfl d_Sj_marks_33 ?_
      refine lv_iload_n hx hb d_Sj_marks_36 rfl (lv_at hl 1 rfl) ?_
      refine lv_iload_n hx hb d_Sj_marks_37 rfl (lv_at hl 2 rfl) ?_
      obtain ⟨hpre, vc⟩ := vc
      refine pc_V (As := [.int x, .int y]) (rest := []) S (c_Ju_marksOf l D a cI cJ cZ ch ma br tl x y hpre) wB_blind k_Ju_marksOf i_Ju_marksOf e_Ju_marksOf o_Ju ml_Sj_181 hd_Ju_marksOf (Nat.le_trans (by decide) hRf) (Nat.le_trans (by decide) hRl) ⟨Nat.zero_le _, Nat.zero_le _⟩ (va_recv hK hP (q0 := 14) (ci := 0) rfl rfl) (wB_at (hP.sub (ws' := (wJ a cI cJ ch ma br tl)) [14, 15, 16, 17] rfl) hK) hl.1 rfl (Nat.le_of_ble_eq_true rfl) d_Sj_marks_38 ?_
      exact hret _ _ _ _ _ _ _ _ _ _ _ _ _ _ _ _ _ _ _ ls _ H locs _ _ d_Sj_marks_41 (by decide) (by decide) vc hP hD hS
    · have vc := vc.2 h
      exact jJ1 ls H locs vc (lv_sub hl [0, 1, 2] rfl) hP hD hS
theorem h_Sj_marks (l : Launch) (hls : l.stackTraces = false) (D : va_G) (a : Nat → Nat) (cI cJ cZ : ClassId) (ki : Nat → Int32) (co : Nat → Int64) (pr : Nat → Int32) (pa : Nat → Int32) (tw : Nat → Int32) (nv : Int32) (sv : Int32) (ru : Nat → Int32) (le : Nat → Int32) (li : Nat → Int32) (bn : Nat → Int32) (ip : Nat → Int32) (aw : Nat → Int32) (ns : Int32) (ch : Nat → Int32) (ma : Nat → Int32) (br : Nat → Int64) (tl : Int32) (x : Int32) (y : Int32) (ok : Prop) (bad : String → Prop) (r : Int32) (ki' : Nat → Int32) (co' : Nat → Int64) (pr' : Nat → Int32) (pa' : Nat → Int32) (tw' : Nat → Int32) (nv' : Int32) (sv' : Int32) (ru' : Nat → Int32) (le' : Nat → Int32) (li' : Nat → Int32) (bn' : Nat → Int32) (ip' : Nat → Int32) (aw' : Nat → Int32) (ns' : Int32) (ch' : Nat → Int32) (ma' : Nat → Int32) (br' : Nat → Int64) (tl' : Int32) (ki'' : Nat → Int32) (co'' : Nat → Int64) (pr'' : Nat → Int32) (pa'' : Nat → Int32) (tw'' : Nat → Int32) (nv'' : Int32) (sv'' : Int32) (ru'' : Nat → Int32) (le'' : Nat → Int32) (li'' : Nat → Int32) (bn'' : Nat → Int32) (ip'' : Nat → Int32) (aw'' : Nat → Int32) (ns'' : Int32) (ch'' : Nat → Int32) (ma'' : Nat → Int32) (br'' : Nat → Int64) (tl'' : Int32) (vc : V_Sj_marks ki co pr pa tw nv sv ru le li bn ip aw ns ch ma br tl x y (fun v ki co pr pa tw nv sv ru le li bn ip aw ns ch ma br tl => ok ∧ v = r ∧ ki = ki' ∧ co = co' ∧ pr = pr' ∧ pa = pa' ∧ tw = tw' ∧ nv = nv' ∧ sv = sv' ∧ ru = ru' ∧ le = le' ∧ li = li' ∧ bn = bn' ∧ ip = ip' ∧ aw = aw' ∧ ns = ns' ∧ ch = ch' ∧ ma = ma' ∧ br = br' ∧ tl = tl') (fun E ki co pr pa tw nv sv ru le li bn ip aw ns ch ma br tl => bad E ∧ ki = ki'' ∧ co = co'' ∧ pr = pr'' ∧ pa = pa'' ∧ tw = tw'' ∧ nv = nv'' ∧ sv = sv'' ∧ ru = ru'' ∧ le = le'' ∧ li = li'' ∧ bn = bn'' ∧ ip = ip'' ∧ aw = aw'' ∧ ns = ns'' ∧ ch = ch'' ∧ ma = ma'' ∧ br = br'' ∧ tl = tl'')) : Tm (S := Unit) (SX := Unit) l y_Sj_marks b_Sj_marks 3 (some .int) 6 90 [.ref (a 24), .int x, .int y] D (tyA cI cJ cZ) (wX a ++ wV a cI cJ ki co pr pa tw nv sv ++ wS a cI ru le li bn ip aw ns ++ wJ a cI cJ ch ma br tl) (fun _ => ok) (fun _ => some (.int r)) (fun _ => (wX a ++ wV a cI cJ ki' co' pr' pa' tw' nv' sv' ++ wS a cI ru' le' li' bn' ip' aw' ns' ++ wJ a cI cJ ch' ma' br' tl')) (fun E _ => bad E) (fun _ => (wX a ++ wV a cI cJ ki'' co'' pr'' pa'' tw'' nv'' sv'' ++ wS a cI ru'' le'' li'' bn'' ip'' aw'' ns'' ++ wJ a cI cJ ch'' ma'' br'' tl'')) :=
  tm_of hls (by decide) rfl (Or.inr ⟨.int, fun _ => r, rfl, fun _ => rfl, fun _ _ => rfl⟩) (Nat.le_of_ble_eq_true rfl) (by decide) (by decide) (fun p e s m below meth c ls Q A S hK hP hD hA hS hX hl hret hthr hout => g_Sj_marks hls S (Nat.le_refl _) (Nat.le_refl _) ⟨Nat.le_refl _, Nat.le_refl _⟩ D a cI cJ cZ ki co pr pa tw nv sv ru le li bn ip aw ns ch ma br tl x y hK hP hD hA hS hX hl vc
    (fun v ki co pr pa tw nv sv ru le li bn ip aw ns ch ma br tl ls pc H locs k j hd hk hj hv hP hD hS => by obtain ⟨hok, rfl, rfl, rfl, rfl, rfl, rfl, rfl, rfl, rfl, rfl, rfl, rfl, rfl, rfl, rfl, rfl, rfl, rfl, rfl⟩ := hv; exact hret () ls pc H locs k j _ (Or.inr ⟨_, rfl, rfl, hd⟩) hk hj hok hP hD hS)
    (fun ki co pr pa tw nv sv ru le li bn ip aw ns ch ma br tl E ik is ic tx pc ls rest H locs T hs hw hv hP hD hS => by obtain ⟨hbd, rfl, rfl, rfl, rfl, rfl, rfl, rfl, rfl, rfl, rfl, rfl, rfl, rfl, rfl, rfl, rfl, rfl, rfl⟩ := hv; exact hthr () E ik is ic tx pc ls rest H locs T hs hw hbd hP hD hS)
    (fun ki co pr pa tw nv sv ru le li bn ip aw ns ch ma br tl E ce q pc ls rest H locs k j hk hj h1 h2 h3 hv hP hD hS => by obtain ⟨hbd, rfl, rfl, rfl, rfl, rfl, rfl, rfl, rfl, rfl, rfl, rfl, rfl, rfl, rfl, rfl, rfl, rfl, rfl⟩ := hv; exact hout () E ce q pc ls rest H locs k j hk hj h1 h2 h3 hbd hP hD hS))
theorem c_Sj_marks (l : Launch) (hls : l.stackTraces = false) (D : va_G) (a : Nat → Nat) (cI cJ cZ : ClassId) (ki : Nat → Int32) (co : Nat → Int64) (pr : Nat → Int32) (pa : Nat → Int32) (tw : Nat → Int32) (nv : Int32) (sv : Int32) (ru : Nat → Int32) (le : Nat → Int32) (li : Nat → Int32) (bn : Nat → Int32) (ip : Nat → Int32) (aw : Nat → Int32) (ns : Int32) (ch : Nat → Int32) (ma : Nat → Int32) (br : Nat → Int64) (tl : Int32) (x : Int32) (y : Int32) (hpre : (nv ≤ 40 ∧ ns ≤ 24)) : Tm (S := Unit) (SX := Unit) l y_Sj_marks b_Sj_marks 3 (some .int) 6 90 [.ref (a 24), .int x, .int y] D (tyA cI cJ cZ) (wX a ++ wV a cI cJ ki co pr pa tw nv sv ++ wS a cI ru le li bn ip aw ns ++ wJ a cI cJ ch ma br tl) (fun _ => (sHas ns x && sHas nv y) = true) (fun _ => some (.int (if ch (y * 24 + x : Int32).toNatClampNeg = 0 then -1 else ma (y * 24 + x : Int32).toNatClampNeg))) (fun _ => (wX a ++ wV a cI cJ ki co pr pa tw nv sv ++ wS a cI ru le li bn ip aw ns ++ wJ a cI cJ ch ma br tl)) (fun E _ => E = IAE ∧ ¬ (sHas ns x && sHas nv y) = true) (fun _ => (wX a ++ wV a cI cJ ki co pr pa tw nv sv ++ wS a cI ru le li bn ip aw ns ++ wJ a cI cJ ch ma br tl)) := h_Sj_marks l hls D a cI cJ cZ ki co pr pa tw nv sv ru le li bn ip aw ns ch ma br tl x y ((sHas ns x && sHas nv y) = true) (fun E => E = IAE ∧ ¬ (sHas ns x && sHas nv y) = true) (if ch (y * 24 + x : Int32).toNatClampNeg = 0 then -1 else ma (y * 24 + x : Int32).toNatClampNeg) ki co pr pa tw nv sv ru le li bn ip aw ns ch ma br tl ki co pr pa tw nv sv ru le li bn ip aw ns ch ma br tl (by
  unfold V_Sj_marks
  refine ⟨¬ (sHas ns x && sHas nv y) = true, ⟨fun h => ?_, fun h => ⟨fun h2 => ⟨pair_in hpre.1 hpre.2 (bI_ne.mp h) (bI_ne.mp h2), and2.mpr ⟨bI_ne.mp h, bI_ne.mp h2⟩, by simp⟩, fun h2 => ?_⟩⟩, fun h => ⟨⟨rfl, h⟩, by simp⟩⟩
  · intro hb; exact bI_eq.mp h (and2.mp hb).1
  · intro hb; exact bI_eq.mp h2 (and2.mp hb).2)
theorem hd_Sj_marks : y_Sj_marks.cls ≠ "java/lang/invoke/MethodHandle" ∧ y_Sj_marks.cls ≠ "java/lang/invoke/VarHandle" ∧ (parseMethodDescriptor y_Sj_marks.desc).map (fun d => d.parameters.length) = some 2 := ⟨by decide, by decide, by decide +kernel⟩
def V_Sj_rule (ki : Nat → Int32) (co : Nat → Int64) (pr : Nat → Int32) (pa : Nat → Int32) (tw : Nat → Int32) (nv : Int32) (sv : Int32) (pn : Nat → Int32) (pl : Nat → Int32) (po : Nat → Int32) (pf : Nat → Int32) (pt : Nat → Int32) (ru : Nat → Int32) (le : Nat → Int32) (li : Nat → Int32) (bn : Nat → Int32) (ip : Nat → Int32) (aw : Nat → Int32) (ns : Int32) (x : Int32) (y : Int32) (z : Int32) (post : (Nat → Int32) → (Nat → Int64) → (Nat → Int32) → (Nat → Int32) → (Nat → Int32) → Int32 → Int32 → (Nat → Int32) → (Nat → Int32) → (Nat → Int32) → (Nat → Int32) → (Nat → Int32) → (Nat → Int32) → (Nat → Int32) → (Nat → Int32) → (Nat → Int32) → (Nat → Int32) → (Nat → Int32) → Int32 → Prop) (px : String → (Nat → Int32) → (Nat → Int64) → (Nat → Int32) → (Nat → Int32) → (Nat → Int32) → Int32 → Int32 → (Nat → Int32) → (Nat → Int32) → (Nat → Int32) → (Nat → Int32) → (Nat → Int32) → (Nat → Int32) → (Nat → Int32) → (Nat → Int32) → (Nat → Int32) → (Nat → Int32) → (Nat → Int32) → Int32 → Prop) : Prop :=
  (∃ J1 : Prop, (((bI (sHas ns x)) = 0 → J1) ∧ (¬ (bI (sHas ns x)) = 0 → ((¬ (bI (sIn y 0 28)) = 0 → (∃ J2 : Prop, ((z = (-1) → J2) ∧ (¬ z = (-1) → (nv ≤ 40 ∧ ((¬ (bI (sTakes ki co nv ns y z)) = 0 → J2) ∧ ((bI (sTakes ki co nv ns y z)) = 0 → px IAE ki co pr pa tw nv sv pn pl po pf pt ru le li bn ip aw ns))))) ∧ (J2 → (vp_in (x * 29 + y) 696 ∧ post ki co pr pa tw nv sv pn pl po pf pt (upd ru (x * 29 + y : Int32).toNatClampNeg z) le li bn ip aw ns)))) ∧ ((bI (sIn y 0 28)) = 0 → J1)))) ∧ (J1 → px IAE ki co pr pa tw nv sv pn pl po pf pt ru le li bn ip aw ns))
set_option maxHeartbeats 4000000 in
set_option maxRecDepth 100000 in
theorem g_Sj_rule {p : Program} {l : Launch} {e : Env} {R : Room} {s : State} {m : MethodId} {args : Array Value} {below : List Frame} {meth : Method} {c : Code} {H : Heap} {locs : List Loc} {Q : State → Prop} {ls : Array Slot} {A : Nat → Prop} (hls : l.stackTraces = false) (S : CallFix p m c b_Sj_rule 4 s args W0 R_Sj) (hRf : 6 ≤ R.frames) (hRl : 90 ≤ R.locals) (hRc : 0 + 1 ≤ R.cells ∧ 0 + 6 ≤ R.slots) (D : va_G) (a : Nat → Nat) (cI cJ cZ : ClassId) (ki : Nat → Int32) (co : Nat → Int64) (pr : Nat → Int32) (pa : Nat → Int32) (tw : Nat → Int32) (nv : Int32) (sv : Int32) (pn : Nat → Int32) (pl : Nat → Int32) (po : Nat → Int32) (pf : Nat → Int32) (pt : Nat → Int32) (ru : Nat → Int32) (le : Nat → Int32) (li : Nat → Int32) (bn : Nat → Int32) (ip : Nat → Int32) (aw : Nat → Int32) (ns : Int32) (x : Int32) (y : Int32) (z : Int32) (hK : va_K D vwCl (tyA cI cJ cZ) s) (hP : va_P D vwCl (wX a ++ wV a cI cJ ki co pr pa tw nv sv ++ wP a cI cZ pn pl po pf pt ++ wS a cI ru le li bn ip aw ns) H) (hD : va_D A (wX a ++ wV a cI cJ ki co pr pa tw nv sv ++ wP a cI cZ pn pl po pf pt ++ wS a cI ru le li bn ip aw ns)) (hA : ∀ q, s.heap.size ≤ q → A q) (hS : va_S A s.heap H locs) (hX : eX A s s.heap) (hl : lv_has ls 4 [(0, .ref (a 24)), (1, .int x), (2, .int y), (3, .int z)]) {post : (Nat → Int32) → (Nat → Int64) → (Nat → Int32) → (Nat → Int32) → (Nat → Int32) → Int32 → Int32 → (Nat → Int32) → (Nat → Int32) → (Nat → Int32) → (Nat → Int32) → (Nat → Int32) → (Nat → Int32) → (Nat → Int32) → (Nat → Int32) → (Nat → Int32) → (Nat → Int32) → (Nat → Int32) → Int32 → Prop} {px : String → (Nat → Int32) → (Nat → Int64) → (Nat → Int32) → (Nat → Int32) → (Nat → Int32) → Int32 → Int32 → (Nat → Int32) → (Nat → Int32) → (Nat → Int32) → (Nat → Int32) → (Nat → Int32) → (Nat → Int32) → (Nat → Int32) → (Nat → Int32) → (Nat → Int32) → (Nat → Int32) → (Nat → Int32) → Int32 → Prop} (vc : V_Sj_rule ki co pr pa tw nv sv pn pl po pf pt ru le li bn ip aw ns x y z post px)
    (hret : ∀ (ki : Nat → Int32) (co : Nat → Int64) (pr : Nat → Int32) (pa : Nat → Int32) (tw : Nat → Int32) (nv : Int32) (sv : Int32) (pn : Nat → Int32) (pl : Nat → Int32) (po : Nat → Int32) (pf : Nat → Int32) (pt : Nat → Int32) (ru : Nat → Int32) (le : Nat → Int32) (li : Nat → Int32) (bn : Nat → Int32) (ip : Nat → Int32) (aw : Nat → Int32) (ns : Int32) (ls : Array Slot) (pc : Nat) (H : Heap) (locs : List Loc) (k j : Nat), decode b_Sj_rule pc = .ok (.return_, 1) → k ≤ 1 → j ≤ 6 → post ki co pr pa tw nv sv pn pl po pf pt ru le li bn ip aw ns → va_P D vwCl (wX a ++ wV a cI cJ ki co pr pa tw nv sv ++ wP a cI cZ pn pl po pf pt ++ wS a cI ru le li bn ip aw ns) H → va_D A (wX a ++ wV a cI cJ ki co pr pa tw nv sv ++ wP a cI cZ pn pl po pf pt ++ wS a cI ru le li bn ip aw ns) → va_S A s.heap H locs → W p l e R s m args below meth c H locs k j Q (F0 m pc ls []))
    (hthr : ∀ (ki : Nat → Int32) (co : Nat → Int64) (pr : Nat → Int32) (pa : Nat → Int32) (tw : Nat → Int32) (nv : Int32) (sv : Int32) (pn : Nat → Int32) (pl : Nat → Int32) (po : Nat → Int32) (pf : Nat → Int32) (pt : Nat → Int32) (ru : Nat → Int32) (le : Nat → Int32) (li : Nat → Int32) (bn : Nat → Int32) (ip : Nat → Int32) (aw : Nat → Int32) (ns : Int32) (E : String) (ik is ic : Nat) (tx : String) (pc : Nat) (ls : Array Slot) (rest : List Value) (H : Heap) (locs : List Loc), ThrOK E ik is ic tx b_Sj_rule pc → ls.size = 4 → (rest.map fun v => v.category).sum ≤ 8 → px E ki co pr pa tw nv sv pn pl po pf pt ru le li bn ip aw ns → va_P D vwCl (wX a ++ wV a cI cJ ki co pr pa tw nv sv ++ wP a cI cZ pn pl po pf pt ++ wS a cI ru le li bn ip aw ns) H → va_D A (wX a ++ wV a cI cJ ki co pr pa tw nv sv ++ wP a cI cZ pn pl po pf pt ++ wS a cI ru le li bn ip aw ns) → va_S A s.heap H locs → W p l e R s m args below meth c H locs 0 0 Q (F0 m pc ls rest))
    (hout : ∀ (ki : Nat → Int32) (co : Nat → Int64) (pr : Nat → Int32) (pa : Nat → Int32) (tw : Nat → Int32) (nv : Int32) (sv : Int32) (pn : Nat → Int32) (pl : Nat → Int32) (po : Nat → Int32) (pf : Nat → Int32) (pt : Nat → Int32) (ru : Nat → Int32) (le : Nat → Int32) (li : Nat → Int32) (bn : Nat → Int32) (ip : Nat → Int32) (aw : Nat → Int32) (ns : Int32) (E : String) (ce : Cell) (q : Addr) (pc : Nat) (ls : Array Slot) (rest : List Value) (H : Heap) (locs : List Loc) (k j : Nat), k ≤ 1 → j ≤ 6 → H[q]? = some ce → ce.vm = .none → s.vm.findClass E = some ce.cls → px E ki co pr pa tw nv sv pn pl po pf pt ru le li bn ip aw ns → va_P D vwCl (wX a ++ wV a cI cJ ki co pr pa tw nv sv ++ wP a cI cZ pn pl po pf pt ++ wS a cI ru le li bn ip aw ns) H → va_D A (wX a ++ wV a cI cJ ki co pr pa tw nv sv ++ wP a cI cZ pn pl po pf pt ++ wS a cI ru le li bn ip aw ns) → va_S A s.heap H locs → vx_W p l e R s m args below meth c H locs k j Q (F0 m pc ls rest) q) : W p l e R s m args below meth c H locs 0 0 Q (F0 m 0 ls []) := by
  have hx := S.1
  have hb := S.2.1
  have hown := S.2.2.2.1
  have hts := S.2.2.2.2
  unfold V_Sj_rule at vc
  refine lv_aload_n hx hb d_Sj_rule_0 rfl (lv_at hl 0 rfl) ?_
  refine va_get (D := D) (ci := 5) (v := .ref (a 12)) (C := R_Sj) (T := F_Sj) (N := 4) hx hb hts in_Sj hown hK hP 0 rfl rfl 2 (by decide) (hts _ fl_Sj_26) (fun _ h => h) rfl d_Sj_rule_1 ?_
  refine lv_iload_n hx hb d_Sj_rule_4 rfl (lv_at hl 1 rfl) ?_
  refine pc_V (As := [.int x]) (rest := []) S (c_Sc_has l D a cI cJ cZ ru le li bn ip aw ns x) wB_blind k_Sc_has i_Sc_has e_Sc_has o_Sc ml_Sj_131 hd_Sc_has (Nat.le_trans (by decide) hRf) (Nat.le_trans (by decide) hRl) ⟨Nat.zero_le _, Nat.zero_le _⟩ (va_recv hK hP (q0 := 13) (ci := 3) rfl rfl) (wB_at (hP.sub (ws' := (wS a cI ru le li bn ip aw ns)) [13, 14, 15, 16, 17, 18, 19] rfl) hK) hl.1 rfl (Nat.le_of_ble_eq_true rfl) d_Sj_rule_5 ?_
  obtain ⟨J1, vc, vc2⟩ := vc
  have jJ1 : ∀ (ls : Array Slot) (H : Heap) (locs : List Loc), J1 → lv_has ls 4 [(0, .ref (a 24)), (1, .int x), (2, .int y), (3, .int z)] → va_P D vwCl (wX a ++ wV a cI cJ ki co pr pa tw nv sv ++ wP a cI cZ pn pl po pf pt ++ wS a cI ru le li bn ip aw ns) H → va_D A (wX a ++ wV a cI cJ ki co pr pa tw nv sv ++ wP a cI cZ pn pl po pf pt ++ wS a cI ru le li bn ip aw ns) → va_S A s.heap H locs → W p l e R s m args below meth c H locs 0 0 Q (F0 m 21 ls []) := by
    intro  ls H locs vc hl hP hD hS
    have vc := vc2  vc
    exact hthr _ _ _ _ _ _ _ _ _ _ _ _ _ _ _ _ _ _ _ _ _ _ _ _ _ ls _ H locs ⟨x_IAE, (show ((134, "there is no such schema or keyword") : Nat × String) ∈ STRS by decide +kernel), d_Sj_rule_21, d_Sj_rule_24, d_Sj_rule_25, d_Sj_rule_27, d_Sj_rule_30⟩ hl.1 (Nat.le_of_ble_eq_true rfl) vc hP hD hS
  clear vc2
  refine lv_if_eq (tgt := 21) hx hb d_Sj_rule_8 (by decide) (fun h => ?_) (fun h => ?_)
  · have vc := vc.1 h
    exact jJ1 ls H locs vc (lv_sub hl [0, 1, 2, 3] rfl) hP hD hS
  · have vc := vc.2 h
    refine lv_iload_n hx hb d_Sj_rule_11 rfl (lv_at hl 2 rfl) ?_
    refine lv_iconst (v := 0) hx hb d_Sj_rule_12 (by decide) ?_
    refine lv_bipush (v := 28) hx hb d_Sj_rule_13 (by decide) ?_
    refine pc_S (As := [.int y, .int 0, .int 28]) (rest := []) S (c_Sj_isWithin l y 0 28) wT_blind k_Sj_isWithin s_Sj_isWithin o_Sj ml_Sj_59 hd_Sj_isWithin (Nat.le_trans (by decide) hRf) (Nat.le_trans (by decide) hRl) ⟨Nat.zero_le _, Nat.zero_le _⟩ (fun _ _ _ => trivial) hl.1 rfl (Nat.le_of_ble_eq_true rfl) d_Sj_rule_15 ?_
    refine lv_if_ne (tgt := 31) hx hb d_Sj_rule_18 (by decide) (fun h => ?_) (fun h => ?_)
    · have vc := vc.1 h
      refine lv_iload_n hx hb d_Sj_rule_31 rfl (lv_at hl 3 rfl) ?_
      refine lv_iconst (v := (-1)) hx hb d_Sj_rule_32 (by decide) ?_
      obtain ⟨J2, vc, vc2⟩ := vc
      have jJ2 : ∀ (ls : Array Slot) (H : Heap) (locs : List Loc), J2 → lv_has ls 4 [(0, .ref (a 24)), (1, .int x), (2, .int y), (3, .int z)] → va_P D vwCl (wX a ++ wV a cI cJ ki co pr pa tw nv sv ++ wP a cI cZ pn pl po pf pt ++ wS a cI ru le li bn ip aw ns) H → va_D A (wX a ++ wV a cI cJ ki co pr pa tw nv sv ++ wP a cI cZ pn pl po pf pt ++ wS a cI ru le li bn ip aw ns) → va_S A s.heap H locs → W p l e R s m args below meth c H locs 0 0 Q (F0 m 55 ls []) := by
        intro  ls H locs vc hl hP hD hS
        have vc := vc2  vc
        refine lv_aload_n hx hb d_Sj_rule_55 rfl (lv_at hl 0 rfl) ?_
        refine va_get (D := D) (ci := 5) (v := .ref (a 12)) (C := R_Sj) (T := F_Sj) (N := 4) hx hb hts in_Sj hown hK hP 0 rfl rfl 2 (by decide) (hts _ fl_Sj_26) (fun _ h => h) rfl d_Sj_rule_56 ?_
        refine lv_iload_n hx hb d_Sj_rule_59 rfl (lv_at hl 1 rfl) ?_
        refine lv_iload_n hx hb d_Sj_rule_60 rfl (lv_at hl 2 rfl) ?_
        refine lv_iload_n hx hb d_Sj_rule_61 rfl (lv_at hl 3 rfl) ?_
        obtain ⟨hpre, vc⟩ := vc
        refine wc_V (As := [.int x, .int y, .int z]) (rest := []) (wr := (wX a ++ wV a cI cJ ki co pr pa tw nv sv ++ wP a cI cZ pn pl po pf pt)) S (c_Sc_setRule l D a cI cJ cZ ru le li bn ip aw ns x y z hpre) k_Sc_setRule i_Sc_setRule e_Sc_setRule o_Sc ml_Sj_141 hd_Sc_setRule (Nat.le_trans (by decide) hRf) (Nat.le_trans (by decide) hRl) ⟨Nat.zero_le _, Nat.zero_le _⟩ (va_recv hK hP (q0 := 13) (ci := 3) rfl rfl) hK hP hD hS hA [13, 14, 15, 16, 17, 18, 19] [0, 1, 2, 3, 4, 5, 6, 7, 8, 9, 10, 11, 12] rfl rfl rfl (by decide) (by decide) (by decide) hl.1 rfl (Nat.le_of_ble_eq_true rfl) d_Sj_rule_62 (fun _ H locs _ hP hD hS => ?_)
        have hP : va_P D vwCl (wX a ++ wV a cI cJ ki co pr pa tw nv sv ++ wP a cI cZ pn pl po pf pt ++ wS a cI (upd ru (x * 29 + y : Int32).toNatClampNeg z) le li bn ip aw ns) H := hP.sub [0, 1, 2, 3, 4, 5, 6, 7, 8, 9, 10, 11, 12, 13, 14, 15, 16, 17, 18, 19] rfl
        have hD : va_D A (wX a ++ wV a cI cJ ki co pr pa tw nv sv ++ wP a cI cZ pn pl po pf pt ++ wS a cI (upd ru (x * 29 + y : Int32).toNatClampNeg z) le li bn ip aw ns) := hD.sub [0, 1, 2, 3, 4, 5, 6, 7, 8, 9, 10, 11, 12, 13, 14, 15, 16, 17, 18, 19] (by decide) rfl
        exact hret _ _ _ _ _ _ _ _ _ _ _ _ _ _ _ _ _ _ _ ls _ H locs _ _ d_Sj_rule_65 (by decide) (by decide) vc hP hD hS
      clear vc2
      refine lv_icmp_eq (tgt := 55) hx hb d_Sj_rule_33 (by decide) (fun h => ?_) (fun h => ?_)
      · have vc := vc.1 h
        exact jJ2 ls H locs vc (lv_sub hl [0, 1, 2, 3] rfl) hP hD hS
      · have vc := vc.2 h
        refine lv_aload_n hx hb d_Sj_rule_36 rfl (lv_at hl 0 rfl) ?_
        refine lv_iload_n hx hb d_Sj_rule_37 rfl (lv_at hl 2 rfl) ?_
        refine lv_iload_n hx hb d_Sj_rule_38 rfl (lv_at hl 3 rfl) ?_
        obtain ⟨hpre, vc⟩ := vc
        refine pc_V (As := [.int y, .int z]) (rest := []) S (c_Sj_isTaken l D a cI cJ cZ ki co pr pa tw nv sv pn pl po pf pt ru le li bn ip aw ns y z hpre) wB_blind k_Sj_isTaken i_Sj_isTaken e_Sj_isTaken o_Sj ml_Sj_136 hd_Sj_isTaken (Nat.le_trans (by decide) hRf) (Nat.le_trans (by decide) hRl) ⟨Nat.zero_le _, Nat.zero_le _⟩ (va_recv hK hP (q0 := 0) (ci := 5) rfl rfl) (wB_at hP hK) hl.1 rfl (Nat.le_of_ble_eq_true rfl) d_Sj_rule_39 ?_
        refine lv_if_ne (tgt := 55) hx hb d_Sj_rule_42 (by decide) (fun h => ?_) (fun h => ?_)
        · have vc := vc.1 h
          exact jJ2 ls H locs vc (lv_sub hl [0, 1, 2, 3] rfl) hP hD hS
        · have vc := vc.2 h
          exact hthr _ _ _ _ _ _ _ _ _ _ _ _ _ _ _ _ _ _ _ _ _ _ _ _ _ ls _ H locs ⟨x_IAE, (show ((139, "x is neither -1 nor what the keyword takes") : Nat × String) ∈ STRS by decide +kernel), d_Sj_rule_45, d_Sj_rule_48, d_Sj_rule_49, d_Sj_rule_51, d_Sj_rule_54⟩ hl.1 (Nat.le_of_ble_eq_true rfl) vc hP hD hS
    · have vc := vc.2 h
      exact jJ1 ls H locs vc (lv_sub hl [0, 1, 2, 3] rfl) hP hD hS
theorem h_Sj_rule (l : Launch) (hls : l.stackTraces = false) (D : va_G) (a : Nat → Nat) (cI cJ cZ : ClassId) (ki : Nat → Int32) (co : Nat → Int64) (pr : Nat → Int32) (pa : Nat → Int32) (tw : Nat → Int32) (nv : Int32) (sv : Int32) (pn : Nat → Int32) (pl : Nat → Int32) (po : Nat → Int32) (pf : Nat → Int32) (pt : Nat → Int32) (ru : Nat → Int32) (le : Nat → Int32) (li : Nat → Int32) (bn : Nat → Int32) (ip : Nat → Int32) (aw : Nat → Int32) (ns : Int32) (x : Int32) (y : Int32) (z : Int32) (ok : Prop) (bad : String → Prop) (ki' : Nat → Int32) (co' : Nat → Int64) (pr' : Nat → Int32) (pa' : Nat → Int32) (tw' : Nat → Int32) (nv' : Int32) (sv' : Int32) (pn' : Nat → Int32) (pl' : Nat → Int32) (po' : Nat → Int32) (pf' : Nat → Int32) (pt' : Nat → Int32) (ru' : Nat → Int32) (le' : Nat → Int32) (li' : Nat → Int32) (bn' : Nat → Int32) (ip' : Nat → Int32) (aw' : Nat → Int32) (ns' : Int32) (ki'' : Nat → Int32) (co'' : Nat → Int64) (pr'' : Nat → Int32) (pa'' : Nat → Int32) (tw'' : Nat → Int32) (nv'' : Int32) (sv'' : Int32) (pn'' : Nat → Int32) (pl'' : Nat → Int32) (po'' : Nat → Int32) (pf'' : Nat → Int32) (pt'' : Nat → Int32) (ru'' : Nat → Int32) (le'' : Nat → Int32) (li'' : Nat → Int32) (bn'' : Nat → Int32) (ip'' : Nat → Int32) (aw'' : Nat → Int32) (ns'' : Int32) (vc : V_Sj_rule ki co pr pa tw nv sv pn pl po pf pt ru le li bn ip aw ns x y z (fun ki co pr pa tw nv sv pn pl po pf pt ru le li bn ip aw ns => ok ∧ ki = ki' ∧ co = co' ∧ pr = pr' ∧ pa = pa' ∧ tw = tw' ∧ nv = nv' ∧ sv = sv' ∧ pn = pn' ∧ pl = pl' ∧ po = po' ∧ pf = pf' ∧ pt = pt' ∧ ru = ru' ∧ le = le' ∧ li = li' ∧ bn = bn' ∧ ip = ip' ∧ aw = aw' ∧ ns = ns') (fun E ki co pr pa tw nv sv pn pl po pf pt ru le li bn ip aw ns => bad E ∧ ki = ki'' ∧ co = co'' ∧ pr = pr'' ∧ pa = pa'' ∧ tw = tw'' ∧ nv = nv'' ∧ sv = sv'' ∧ pn = pn'' ∧ pl = pl'' ∧ po = po'' ∧ pf = pf'' ∧ pt = pt'' ∧ ru = ru'' ∧ le = le'' ∧ li = li'' ∧ bn = bn'' ∧ ip = ip'' ∧ aw = aw'' ∧ ns = ns'')) : Tm (S := Unit) (SX := Unit) l y_Sj_rule b_Sj_rule 4 none 6 90 [.ref (a 24), .int x, .int y, .int z] D (tyA cI cJ cZ) (wX a ++ wV a cI cJ ki co pr pa tw nv sv ++ wP a cI cZ pn pl po pf pt ++ wS a cI ru le li bn ip aw ns) (fun _ => ok) (fun _ => none) (fun _ => (wX a ++ wV a cI cJ ki' co' pr' pa' tw' nv' sv' ++ wP a cI cZ pn' pl' po' pf' pt' ++ wS a cI ru' le' li' bn' ip' aw' ns')) (fun E _ => bad E) (fun _ => (wX a ++ wV a cI cJ ki'' co'' pr'' pa'' tw'' nv'' sv'' ++ wP a cI cZ pn'' pl'' po'' pf'' pt'' ++ wS a cI ru'' le'' li'' bn'' ip'' aw'' ns'')) :=
  tm_of hls (by decide) rfl (Or.inl ⟨rfl, fun _ => rfl⟩) (Nat.le_of_ble_eq_true rfl) (by decide) (by decide) (fun p e s m below meth c ls Q A S hK hP hD hA hS hX hl hret hthr hout => g_Sj_rule hls S (Nat.le_refl _) (Nat.le_refl _) ⟨Nat.le_refl _, Nat.le_refl _⟩ D a cI cJ cZ ki co pr pa tw nv sv pn pl po pf pt ru le li bn ip aw ns x y z hK hP hD hA hS hX hl vc
    (fun  ki co pr pa tw nv sv pn pl po pf pt ru le li bn ip aw ns ls pc H locs k j hd hk hj hv hP hD hS => by obtain ⟨hok, rfl, rfl, rfl, rfl, rfl, rfl, rfl, rfl, rfl, rfl, rfl, rfl, rfl, rfl, rfl, rfl, rfl, rfl, rfl⟩ := hv; exact hret () ls pc H locs k j _ (Or.inl ⟨rfl, rfl, hd⟩) hk hj hok hP hD hS)
    (fun ki co pr pa tw nv sv pn pl po pf pt ru le li bn ip aw ns E ik is ic tx pc ls rest H locs T hs hw hv hP hD hS => by obtain ⟨hbd, rfl, rfl, rfl, rfl, rfl, rfl, rfl, rfl, rfl, rfl, rfl, rfl, rfl, rfl, rfl, rfl, rfl, rfl, rfl⟩ := hv; exact hthr () E ik is ic tx pc ls rest H locs T hs hw hbd hP hD hS)
    (fun ki co pr pa tw nv sv pn pl po pf pt ru le li bn ip aw ns E ce q pc ls rest H locs k j hk hj h1 h2 h3 hv hP hD hS => by obtain ⟨hbd, rfl, rfl, rfl, rfl, rfl, rfl, rfl, rfl, rfl, rfl, rfl, rfl, rfl, rfl, rfl, rfl, rfl, rfl, rfl⟩ := hv; exact hout () E ce q pc ls rest H locs k j hk hj h1 h2 h3 hbd hP hD hS))
theorem c_Sj_rule (l : Launch) (hls : l.stackTraces = false) (D : va_G) (a : Nat → Nat) (cI cJ cZ : ClassId) (ki : Nat → Int32) (co : Nat → Int64) (pr : Nat → Int32) (pa : Nat → Int32) (tw : Nat → Int32) (nv : Int32) (sv : Int32) (pn : Nat → Int32) (pl : Nat → Int32) (po : Nat → Int32) (pf : Nat → Int32) (pt : Nat → Int32) (ru : Nat → Int32) (le : Nat → Int32) (li : Nat → Int32) (bn : Nat → Int32) (ip : Nat → Int32) (aw : Nat → Int32) (ns : Int32) (x : Int32) (y : Int32) (z : Int32) (hpre : (nv ≤ 40 ∧ ns ≤ 24)) : Tm (S := Unit) (SX := Unit) l y_Sj_rule b_Sj_rule 4 none 6 90 [.ref (a 24), .int x, .int y, .int z] D (tyA cI cJ cZ) (wX a ++ wV a cI cJ ki co pr pa tw nv sv ++ wP a cI cZ pn pl po pf pt ++ wS a cI ru le li bn ip aw ns) (fun _ => (sHas ns x && (sIn y 0 28)) = true ∧ (z = -1 ∨ sTakes ki co nv ns y z = true)) (fun _ => none) (fun _ => (wX a ++ wV a cI cJ ki co pr pa tw nv sv ++ wP a cI cZ pn pl po pf pt ++ wS a cI (upd ru (x * 29 + y : Int32).toNatClampNeg z) le li bn ip aw ns)) (fun E _ => E = IAE ∧ ¬ ((sHas ns x && (sIn y 0 28)) = true ∧ (z = -1 ∨ sTakes ki co nv ns y z = true))) (fun _ => (wX a ++ wV a cI cJ ki co pr pa tw nv sv ++ wP a cI cZ pn pl po pf pt ++ wS a cI ru le li bn ip aw ns)) := h_Sj_rule l hls D a cI cJ cZ ki co pr pa tw nv sv pn pl po pf pt ru le li bn ip aw ns x y z ((sHas ns x && (sIn y 0 28)) = true ∧ (z = -1 ∨ sTakes ki co nv ns y z = true)) (fun E => E = IAE ∧ ¬ ((sHas ns x && (sIn y 0 28)) = true ∧ (z = -1 ∨ sTakes ki co nv ns y z = true))) ki co pr pa tw nv sv pn pl po pf pt (upd ru (x * 29 + y : Int32).toNatClampNeg z) le li bn ip aw ns ki co pr pa tw nv sv pn pl po pf pt ru le li bn ip aw ns (by
  unfold V_Sj_rule
  refine ⟨¬ (sHas ns x && sIn y 0 28) = true, ⟨fun h => ?_, fun h => ⟨fun h2 => ⟨z = -1 ∨ sTakes ki co nv ns y z = true, ⟨fun h3 => Or.inl h3, fun h3 => ⟨hpre.1, fun h4 => Or.inr (bI_ne.mp h4), fun h4 => ⟨⟨rfl, fun hb => hb.2.elim h3 (bI_eq.mp h4)⟩, by simp⟩⟩⟩, fun h3 => ⟨?_, ⟨and2.mpr ⟨bI_ne.mp h, bI_ne.mp h2⟩, h3⟩, by simp⟩⟩, fun h2 => ?_⟩⟩, fun h => ⟨⟨rfl, fun hb => h hb.1⟩, by simp⟩⟩
  · intro hb; exact bI_eq.mp h (and2.mp hb).1
  · obtain ⟨r, hr, rfl, -⟩ := vp_nat (vp_sHas (N := 24) (Int32.le_iff_toInt_le.mp hpre.2) (bI_ne.mp h)) (by decide)
    obtain ⟨k, h4, h5, rfl⟩ := sIn_nat (lo := 0) (hi := 28) (by decide) (by decide) (bI_ne.mp h2)
    rw [show (29 : Int32) = nI 29 from rfl, pk_mul, nI_add]
    exact vp_in_nI (by omega) (by decide)
  · intro hb; exact bI_eq.mp h2 (and2.mp hb).2)
theorem hd_Sj_rule : y_Sj_rule.cls ≠ "java/lang/invoke/MethodHandle" ∧ y_Sj_rule.cls ≠ "java/lang/invoke/VarHandle" ∧ (parseMethodDescriptor y_Sj_rule.desc).map (fun d => d.parameters.length) = some 3 := ⟨by decide, by decide, by decide +kernel⟩
def V_Sj_judge (ki : Nat → Int32) (co : Nat → Int64) (pr : Nat → Int32) (pa : Nat → Int32) (tw : Nat → Int32) (nv : Int32) (sv : Int32) (ru : Nat → Int32) (le : Nat → Int32) (li : Nat → Int32) (bn : Nat → Int32) (ip : Nat → Int32) (aw : Nat → Int32) (ns : Int32) (ch : Nat → Int32) (ma : Nat → Int32) (br : Nat → Int64) (tl : Int32) (x : Int32) (y : Int32) (post : Int32 → (Nat → Int32) → (Nat → Int64) → (Nat → Int32) → (Nat → Int32) → (Nat → Int32) → Int32 → Int32 → (Nat → Int32) → (Nat → Int32) → (Nat → Int32) → (Nat → Int32) → (Nat → Int32) → (Nat → Int32) → Int32 → (Nat → Int32) → (Nat → Int32) → (Nat → Int64) → Int32 → Prop) (px : String → (Nat → Int32) → (Nat → Int64) → (Nat → Int32) → (Nat → Int32) → (Nat → Int32) → Int32 → Int32 → (Nat → Int32) → (Nat → Int32) → (Nat → Int32) → (Nat → Int32) → (Nat → Int32) → (Nat → Int32) → Int32 → (Nat → Int32) → (Nat → Int32) → (Nat → Int64) → Int32 → Prop) : Prop :=
  (∃ J1 : Prop, (((bI (sHas ns x)) = 0 → J1) ∧ (¬ (bI (sHas ns x)) = 0 → ((¬ (bI (sHas nv y)) = 0 → False) ∧ ((bI (sHas nv y)) = 0 → J1)))) ∧ (J1 → px IAE ki co pr pa tw nv sv ru le li bn ip aw ns ch ma br tl))
set_option maxHeartbeats 4000000 in
set_option maxRecDepth 100000 in
theorem g_Sj_judge {p : Program} {l : Launch} {e : Env} {R : Room} {s : State} {m : MethodId} {args : Array Value} {below : List Frame} {meth : Method} {c : Code} {H : Heap} {locs : List Loc} {Q : State → Prop} {ls : Array Slot} {A : Nat → Prop} (hls : l.stackTraces = false) (S : CallFix p m c b_Sj_judge 3 s args W0 R_Sj) (hRf : 6 ≤ R.frames) (hRl : 90 ≤ R.locals) (hRc : 0 + 1 ≤ R.cells ∧ 0 + 6 ≤ R.slots) (D : va_G) (a : Nat → Nat) (cI cJ cZ : ClassId) (ki : Nat → Int32) (co : Nat → Int64) (pr : Nat → Int32) (pa : Nat → Int32) (tw : Nat → Int32) (nv : Int32) (sv : Int32) (ru : Nat → Int32) (le : Nat → Int32) (li : Nat → Int32) (bn : Nat → Int32) (ip : Nat → Int32) (aw : Nat → Int32) (ns : Int32) (ch : Nat → Int32) (ma : Nat → Int32) (br : Nat → Int64) (tl : Int32) (x : Int32) (y : Int32) (hK : va_K D vwCl (tyA cI cJ cZ) s) (hP : va_P D vwCl (wX a ++ wV a cI cJ ki co pr pa tw nv sv ++ wS a cI ru le li bn ip aw ns ++ wJ a cI cJ ch ma br tl) H) (hD : va_D A (wX a ++ wV a cI cJ ki co pr pa tw nv sv ++ wS a cI ru le li bn ip aw ns ++ wJ a cI cJ ch ma br tl)) (hA : ∀ q, s.heap.size ≤ q → A q) (hS : va_S A s.heap H locs) (hX : eX A s s.heap) (hl : lv_has ls 3 [(0, .ref (a 24)), (1, .int x), (2, .int y)]) {post : Int32 → (Nat → Int32) → (Nat → Int64) → (Nat → Int32) → (Nat → Int32) → (Nat → Int32) → Int32 → Int32 → (Nat → Int32) → (Nat → Int32) → (Nat → Int32) → (Nat → Int32) → (Nat → Int32) → (Nat → Int32) → Int32 → (Nat → Int32) → (Nat → Int32) → (Nat → Int64) → Int32 → Prop} {px : String → (Nat → Int32) → (Nat → Int64) → (Nat → Int32) → (Nat → Int32) → (Nat → Int32) → Int32 → Int32 → (Nat → Int32) → (Nat → Int32) → (Nat → Int32) → (Nat → Int32) → (Nat → Int32) → (Nat → Int32) → Int32 → (Nat → Int32) → (Nat → Int32) → (Nat → Int64) → Int32 → Prop} (vc : V_Sj_judge ki co pr pa tw nv sv ru le li bn ip aw ns ch ma br tl x y post px)
    (hret : ∀ (v : Int32) (ki : Nat → Int32) (co : Nat → Int64) (pr : Nat → Int32) (pa : Nat → Int32) (tw : Nat → Int32) (nv : Int32) (sv : Int32) (ru : Nat → Int32) (le : Nat → Int32) (li : Nat → Int32) (bn : Nat → Int32) (ip : Nat → Int32) (aw : Nat → Int32) (ns : Int32) (ch : Nat → Int32) (ma : Nat → Int32) (br : Nat → Int64) (tl : Int32) (ls : Array Slot) (pc : Nat) (H : Heap) (locs : List Loc) (k j : Nat), decode b_Sj_judge pc = .ok (.ireturn, 1) → k ≤ 1 → j ≤ 6 → post v ki co pr pa tw nv sv ru le li bn ip aw ns ch ma br tl → va_P D vwCl (wX a ++ wV a cI cJ ki co pr pa tw nv sv ++ wS a cI ru le li bn ip aw ns ++ wJ a cI cJ ch ma br tl) H → va_D A (wX a ++ wV a cI cJ ki co pr pa tw nv sv ++ wS a cI ru le li bn ip aw ns ++ wJ a cI cJ ch ma br tl) → va_S A s.heap H locs → W p l e R s m args below meth c H locs k j Q (F0 m pc ls [.int v]))
    (hthr : ∀ (ki : Nat → Int32) (co : Nat → Int64) (pr : Nat → Int32) (pa : Nat → Int32) (tw : Nat → Int32) (nv : Int32) (sv : Int32) (ru : Nat → Int32) (le : Nat → Int32) (li : Nat → Int32) (bn : Nat → Int32) (ip : Nat → Int32) (aw : Nat → Int32) (ns : Int32) (ch : Nat → Int32) (ma : Nat → Int32) (br : Nat → Int64) (tl : Int32) (E : String) (ik is ic : Nat) (tx : String) (pc : Nat) (ls : Array Slot) (rest : List Value) (H : Heap) (locs : List Loc), ThrOK E ik is ic tx b_Sj_judge pc → ls.size = 3 → (rest.map fun v => v.category).sum ≤ 8 → px E ki co pr pa tw nv sv ru le li bn ip aw ns ch ma br tl → va_P D vwCl (wX a ++ wV a cI cJ ki co pr pa tw nv sv ++ wS a cI ru le li bn ip aw ns ++ wJ a cI cJ ch ma br tl) H → va_D A (wX a ++ wV a cI cJ ki co pr pa tw nv sv ++ wS a cI ru le li bn ip aw ns ++ wJ a cI cJ ch ma br tl) → va_S A s.heap H locs → W p l e R s m args below meth c H locs 0 0 Q (F0 m pc ls rest))
    (hout : ∀ (ki : Nat → Int32) (co : Nat → Int64) (pr : Nat → Int32) (pa : Nat → Int32) (tw : Nat → Int32) (nv : Int32) (sv : Int32) (ru : Nat → Int32) (le : Nat → Int32) (li : Nat → Int32) (bn : Nat → Int32) (ip : Nat → Int32) (aw : Nat → Int32) (ns : Int32) (ch : Nat → Int32) (ma : Nat → Int32) (br : Nat → Int64) (tl : Int32) (E : String) (ce : Cell) (q : Addr) (pc : Nat) (ls : Array Slot) (rest : List Value) (H : Heap) (locs : List Loc) (k j : Nat), k ≤ 1 → j ≤ 6 → H[q]? = some ce → ce.vm = .none → s.vm.findClass E = some ce.cls → px E ki co pr pa tw nv sv ru le li bn ip aw ns ch ma br tl → va_P D vwCl (wX a ++ wV a cI cJ ki co pr pa tw nv sv ++ wS a cI ru le li bn ip aw ns ++ wJ a cI cJ ch ma br tl) H → va_D A (wX a ++ wV a cI cJ ki co pr pa tw nv sv ++ wS a cI ru le li bn ip aw ns ++ wJ a cI cJ ch ma br tl) → va_S A s.heap H locs → vx_W p l e R s m args below meth c H locs k j Q (F0 m pc ls rest) q) : W p l e R s m args below meth c H locs 0 0 Q (F0 m 0 ls []) := by
  have hx := S.1
  have hb := S.2.1
  have hown := S.2.2.2.1
  have hts := S.2.2.2.2
  unfold V_Sj_judge at vc
  refine lv_aload_n hx hb d_Sj_judge_0 rfl (lv_at hl 0 rfl) ?_
  refine va_get (D := D) (ci := 5) (v := .ref (a 12)) (C := R_Sj) (T := F_Sj) (N := 4) hx hb hts in_Sj hown hK hP 0 rfl rfl 2 (by decide) (hts _ fl_Sj_26) (fun _ h => h) rfl d_Sj_judge_1 ?_
  refine lv_iload_n hx hb d_Sj_judge_4 rfl (lv_at hl 1 rfl) ?_
  refine pc_V (As := [.int x]) (rest := []) S (c_Sc_has l D a cI cJ cZ ru le li bn ip aw ns x) wB_blind k_Sc_has i_Sc_has e_Sc_has o_Sc ml_Sj_131 hd_Sc_has (Nat.le_trans (by decide) hRf) (Nat.le_trans (by decide) hRl) ⟨Nat.zero_le _, Nat.zero_le _⟩ (va_recv hK hP (q0 := 7) (ci := 3) rfl rfl) (wB_at (hP.sub (ws' := (wS a cI ru le li bn ip aw ns)) [7, 8, 9, 10, 11, 12, 13] rfl) hK) hl.1 rfl (Nat.le_of_ble_eq_true rfl) d_Sj_judge_5 ?_
  obtain ⟨J1, vc, vc2⟩ := vc
  have jJ1 : ∀ (ls : Array Slot) (H : Heap) (locs : List Loc), J1 → lv_has ls 3 [(0, .ref (a 24)), (1, .int x), (2, .int y)] → va_P D vwCl (wX a ++ wV a cI cJ ki co pr pa tw nv sv ++ wS a cI ru le li bn ip aw ns ++ wJ a cI cJ ch ma br tl) H → va_D A (wX a ++ wV a cI cJ ki co pr pa tw nv sv ++ wS a cI ru le li bn ip aw ns ++ wJ a cI cJ ch ma br tl) → va_S A s.heap H locs → W p l e R s m args below meth c H locs 0 0 Q (F0 m 22 ls []) := by
    intro  ls H locs vc hl hP hD hS
    have vc := vc2  vc
    exact hthr _ _ _ _ _ _ _ _ _ _ _ _ _ _ _ _ _ _ _ _ _ _ _ _ ls _ H locs ⟨x_IAE, (show ((160, "there is no such schema or value") : Nat × String) ∈ STRS by decide +kernel), d_Sj_judge_22, d_Sj_judge_25, d_Sj_judge_26, d_Sj_judge_28, d_Sj_judge_31⟩ hl.1 (Nat.le_of_ble_eq_true rfl) vc hP hD hS
  clear vc2
  refine lv_if_eq (tgt := 22) hx hb d_Sj_judge_8 (by decide) (fun h => ?_) (fun h => ?_)
  · have vc := vc.1 h
    exact jJ1 ls H locs vc (lv_sub hl [0, 1, 2] rfl) hP hD hS
  · have vc := vc.2 h
    refine lv_aload_n hx hb d_Sj_judge_11 rfl (lv_at hl 0 rfl) ?_
    refine va_get (D := D) (ci := 5) (v := .ref (a 0)) (C := R_Sj) (T := F_Sj) (N := 4) hx hb hts in_Sj hown hK hP 0 rfl rfl 0 (by decide) (hts _ fl_Sj_10) (fun _ h => h) rfl d_Sj_judge_12 ?_
    refine lv_iload_n hx hb d_Sj_judge_15 rfl (lv_at hl 2 rfl) ?_
    refine pc_V (As := [.int y]) (rest := []) S (c_Va_has l D a cI cJ cZ ki co pr pa tw nv sv y) wB_blind k_Va_has i_Va_has e_Va_has o_Va ml_Sj_159 hd_Va_has (Nat.le_trans (by decide) hRf) (Nat.le_trans (by decide) hRl) ⟨Nat.zero_le _, Nat.zero_le _⟩ (va_recv hK hP (q0 := 1) (ci := 4) rfl rfl) (wB_at (hP.sub (ws' := (wV a cI cJ ki co pr pa tw nv sv)) [1, 2, 3, 4, 5, 6] rfl) hK) hl.1 rfl (Nat.le_of_ble_eq_true rfl) d_Sj_judge_16 ?_
    refine lv_if_ne (tgt := 32) hx hb d_Sj_judge_19 (by decide) (fun h => ?_) (fun h => ?_)
    · have vc := vc.1 h
      refine lv_aload_n hx hb d_Sj_judge_32 rfl (lv_at hl 0 rfl) ?_
      refine va_get (D := D) (ci := 5) (v := .ref (a 20)) (C := R_Sj) (T := F_Sj) (N := 4) hx hb hts in_Sj hown hK hP 0 rfl rfl 3 (by decide) (hts _ fl_Sj_40) (fun _ h => h) rfl d_Sj_judge_33 ?_
      exact vc.elim
    · have vc := vc.2 h
      exact jJ1 ls H locs vc (lv_sub hl [0, 1, 2] rfl) hP hD hS
theorem h_Sj_judge (l : Launch) (hls : l.stackTraces = false) (D : va_G) (a : Nat → Nat) (cI cJ cZ : ClassId) (ki : Nat → Int32) (co : Nat → Int64) (pr : Nat → Int32) (pa : Nat → Int32) (tw : Nat → Int32) (nv : Int32) (sv : Int32) (ru : Nat → Int32) (le : Nat → Int32) (li : Nat → Int32) (bn : Nat → Int32) (ip : Nat → Int32) (aw : Nat → Int32) (ns : Int32) (ch : Nat → Int32) (ma : Nat → Int32) (br : Nat → Int64) (tl : Int32) (x : Int32) (y : Int32) (ok : Prop) (bad : String → Prop) (r : Int32) (hr : narrow .boolean (.int r) = .int r) (ki' : Nat → Int32) (co' : Nat → Int64) (pr' : Nat → Int32) (pa' : Nat → Int32) (tw' : Nat → Int32) (nv' : Int32) (sv' : Int32) (ru' : Nat → Int32) (le' : Nat → Int32) (li' : Nat → Int32) (bn' : Nat → Int32) (ip' : Nat → Int32) (aw' : Nat → Int32) (ns' : Int32) (ch' : Nat → Int32) (ma' : Nat → Int32) (br' : Nat → Int64) (tl' : Int32) (ki'' : Nat → Int32) (co'' : Nat → Int64) (pr'' : Nat → Int32) (pa'' : Nat → Int32) (tw'' : Nat → Int32) (nv'' : Int32) (sv'' : Int32) (ru'' : Nat → Int32) (le'' : Nat → Int32) (li'' : Nat → Int32) (bn'' : Nat → Int32) (ip'' : Nat → Int32) (aw'' : Nat → Int32) (ns'' : Int32) (ch'' : Nat → Int32) (ma'' : Nat → Int32) (br'' : Nat → Int64) (tl'' : Int32) (vc : V_Sj_judge ki co pr pa tw nv sv ru le li bn ip aw ns ch ma br tl x y (fun v ki co pr pa tw nv sv ru le li bn ip aw ns ch ma br tl => ok ∧ v = r ∧ ki = ki' ∧ co = co' ∧ pr = pr' ∧ pa = pa' ∧ tw = tw' ∧ nv = nv' ∧ sv = sv' ∧ ru = ru' ∧ le = le' ∧ li = li' ∧ bn = bn' ∧ ip = ip' ∧ aw = aw' ∧ ns = ns' ∧ ch = ch' ∧ ma = ma' ∧ br = br' ∧ tl = tl') (fun E ki co pr pa tw nv sv ru le li bn ip aw ns ch ma br tl => bad E ∧ ki = ki'' ∧ co = co'' ∧ pr = pr'' ∧ pa = pa'' ∧ tw = tw'' ∧ nv = nv'' ∧ sv = sv'' ∧ ru = ru'' ∧ le = le'' ∧ li = li'' ∧ bn = bn'' ∧ ip = ip'' ∧ aw = aw'' ∧ ns = ns'' ∧ ch = ch'' ∧ ma = ma'' ∧ br = br'' ∧ tl = tl'')) : Tm (S := Unit) (SX := Unit) l y_Sj_judge b_Sj_judge 3 (some .boolean) 6 90 [.ref (a 24), .int x, .int y] D (tyA cI cJ cZ) (wX a ++ wV a cI cJ ki co pr pa tw nv sv ++ wS a cI ru le li bn ip aw ns ++ wJ a cI cJ ch ma br tl) (fun _ => ok) (fun _ => some (.int r)) (fun _ => (wX a ++ wV a cI cJ ki' co' pr' pa' tw' nv' sv' ++ wS a cI ru' le' li' bn' ip' aw' ns' ++ wJ a cI cJ ch' ma' br' tl')) (fun E _ => bad E) (fun _ => (wX a ++ wV a cI cJ ki'' co'' pr'' pa'' tw'' nv'' sv'' ++ wS a cI ru'' le'' li'' bn'' ip'' aw'' ns'' ++ wJ a cI cJ ch'' ma'' br'' tl'')) :=
  tm_of hls (by decide) rfl (Or.inr ⟨.boolean, fun _ => r, rfl, fun _ => rfl, fun _ _ => hr⟩) (Nat.le_of_ble_eq_true rfl) (by decide) (by decide) (fun p e s m below meth c ls Q A S hK hP hD hA hS hX hl hret hthr hout => g_Sj_judge hls S (Nat.le_refl _) (Nat.le_refl _) ⟨Nat.le_refl _, Nat.le_refl _⟩ D a cI cJ cZ ki co pr pa tw nv sv ru le li bn ip aw ns ch ma br tl x y hK hP hD hA hS hX hl vc
    (fun v ki co pr pa tw nv sv ru le li bn ip aw ns ch ma br tl ls pc H locs k j hd hk hj hv hP hD hS => by obtain ⟨hok, rfl, rfl, rfl, rfl, rfl, rfl, rfl, rfl, rfl, rfl, rfl, rfl, rfl, rfl, rfl, rfl, rfl, rfl, rfl⟩ := hv; exact hret () ls pc H locs k j _ (Or.inr ⟨_, rfl, rfl, hd⟩) hk hj hok hP hD hS)
    (fun ki co pr pa tw nv sv ru le li bn ip aw ns ch ma br tl E ik is ic tx pc ls rest H locs T hs hw hv hP hD hS => by obtain ⟨hbd, rfl, rfl, rfl, rfl, rfl, rfl, rfl, rfl, rfl, rfl, rfl, rfl, rfl, rfl, rfl, rfl, rfl, rfl⟩ := hv; exact hthr () E ik is ic tx pc ls rest H locs T hs hw hbd hP hD hS)
    (fun ki co pr pa tw nv sv ru le li bn ip aw ns ch ma br tl E ce q pc ls rest H locs k j hk hj h1 h2 h3 hv hP hD hS => by obtain ⟨hbd, rfl, rfl, rfl, rfl, rfl, rfl, rfl, rfl, rfl, rfl, rfl, rfl, rfl, rfl, rfl, rfl, rfl, rfl⟩ := hv; exact hout () E ce q pc ls rest H locs k j hk hj h1 h2 h3 hbd hP hD hS))
theorem c_Sj_judge (l : Launch) (hls : l.stackTraces = false) (D : va_G) (a : Nat → Nat) (cI cJ cZ : ClassId) (ki : Nat → Int32) (co : Nat → Int64) (pr : Nat → Int32) (pa : Nat → Int32) (tw : Nat → Int32) (nv : Int32) (sv : Int32) (ru : Nat → Int32) (le : Nat → Int32) (li : Nat → Int32) (bn : Nat → Int32) (ip : Nat → Int32) (aw : Nat → Int32) (ns : Int32) (ch : Nat → Int32) (ma : Nat → Int32) (br : Nat → Int64) (tl : Int32) (x : Int32) (y : Int32) (hpre : ¬ (sHas ns x && sHas nv y) = true) : Tm (S := Unit) (SX := Unit) l y_Sj_judge b_Sj_judge 3 (some .boolean) 6 90 [.ref (a 24), .int x, .int y] D (tyA cI cJ cZ) (wX a ++ wV a cI cJ ki co pr pa tw nv sv ++ wS a cI ru le li bn ip aw ns ++ wJ a cI cJ ch ma br tl) (fun _ => False) (fun _ => some (.int (bI false))) (fun _ => (wX a ++ wV a cI cJ ki co pr pa tw nv sv ++ wS a cI ru le li bn ip aw ns ++ wJ a cI cJ ch ma br tl)) (fun E _ => E = IAE) (fun _ => (wX a ++ wV a cI cJ ki co pr pa tw nv sv ++ wS a cI ru le li bn ip aw ns ++ wJ a cI cJ ch ma br tl)) := h_Sj_judge l hls D a cI cJ cZ ki co pr pa tw nv sv ru le li bn ip aw ns ch ma br tl x y False (fun E => E = IAE) (bI false) (bI_nar _) ki co pr pa tw nv sv ru le li bn ip aw ns ch ma br tl ki co pr pa tw nv sv ru le li bn ip aw ns ch ma br tl (by
  unfold V_Sj_judge
  exact ⟨True, ⟨fun _ => trivial, fun h => ⟨fun h2 => hpre (and2.mpr ⟨bI_ne.mp h, bI_ne.mp h2⟩), fun _ => trivial⟩⟩, fun _ => ⟨rfl, by simp⟩⟩)
theorem hd_Sj_judge : y_Sj_judge.cls ≠ "java/lang/invoke/MethodHandle" ∧ y_Sj_judge.cls ≠ "java/lang/invoke/VarHandle" ∧ (parseMethodDescriptor y_Sj_judge.desc).map (fun d => d.parameters.length) = some 2 := ⟨by decide, by decide, by decide +kernel⟩
def V_Sj_equal (ki : Nat → Int32) (co : Nat → Int64) (pr : Nat → Int32) (pa : Nat → Int32) (tw : Nat → Int32) (nv : Int32) (sv : Int32) (x : Int32) (y : Int32) (post : Int32 → (Nat → Int32) → (Nat → Int64) → (Nat → Int32) → (Nat → Int32) → (Nat → Int32) → Int32 → Int32 → Prop) (px : String → (Nat → Int32) → (Nat → Int64) → (Nat → Int32) → (Nat → Int32) → (Nat → Int32) → Int32 → Int32 → Prop) : Prop :=
  (∃ J1 : Prop, (((bI (sHas nv x)) = 0 → J1) ∧ (¬ (bI (sHas nv x)) = 0 → ((¬ (bI (sHas nv y)) = 0 → False) ∧ ((bI (sHas nv y)) = 0 → J1)))) ∧ (J1 → px IAE ki co pr pa tw nv sv))
set_option maxHeartbeats 4000000 in
set_option maxRecDepth 100000 in
theorem g_Sj_equal {p : Program} {l : Launch} {e : Env} {R : Room} {s : State} {m : MethodId} {args : Array Value} {below : List Frame} {meth : Method} {c : Code} {H : Heap} {locs : List Loc} {Q : State → Prop} {ls : Array Slot} {A : Nat → Prop} (hls : l.stackTraces = false) (S : CallFix p m c b_Sj_equal 3 s args W0 R_Sj) (hRf : 6 ≤ R.frames) (hRl : 90 ≤ R.locals) (hRc : 0 + 1 ≤ R.cells ∧ 0 + 6 ≤ R.slots) (D : va_G) (a : Nat → Nat) (cI cJ cZ : ClassId) (ki : Nat → Int32) (co : Nat → Int64) (pr : Nat → Int32) (pa : Nat → Int32) (tw : Nat → Int32) (nv : Int32) (sv : Int32) (x : Int32) (y : Int32) (hK : va_K D vwCl (tyA cI cJ cZ) s) (hP : va_P D vwCl (wX a ++ wV a cI cJ ki co pr pa tw nv sv) H) (hD : va_D A (wX a ++ wV a cI cJ ki co pr pa tw nv sv)) (hA : ∀ q, s.heap.size ≤ q → A q) (hS : va_S A s.heap H locs) (hX : eX A s s.heap) (hl : lv_has ls 3 [(0, .ref (a 24)), (1, .int x), (2, .int y)]) {post : Int32 → (Nat → Int32) → (Nat → Int64) → (Nat → Int32) → (Nat → Int32) → (Nat → Int32) → Int32 → Int32 → Prop} {px : String → (Nat → Int32) → (Nat → Int64) → (Nat → Int32) → (Nat → Int32) → (Nat → Int32) → Int32 → Int32 → Prop} (vc : V_Sj_equal ki co pr pa tw nv sv x y post px)
    (hret : ∀ (v : Int32) (ki : Nat → Int32) (co : Nat → Int64) (pr : Nat → Int32) (pa : Nat → Int32) (tw : Nat → Int32) (nv : Int32) (sv : Int32) (ls : Array Slot) (pc : Nat) (H : Heap) (locs : List Loc) (k j : Nat), decode b_Sj_equal pc = .ok (.ireturn, 1) → k ≤ 1 → j ≤ 6 → post v ki co pr pa tw nv sv → va_P D vwCl (wX a ++ wV a cI cJ ki co pr pa tw nv sv) H → va_D A (wX a ++ wV a cI cJ ki co pr pa tw nv sv) → va_S A s.heap H locs → W p l e R s m args below meth c H locs k j Q (F0 m pc ls [.int v]))
    (hthr : ∀ (ki : Nat → Int32) (co : Nat → Int64) (pr : Nat → Int32) (pa : Nat → Int32) (tw : Nat → Int32) (nv : Int32) (sv : Int32) (E : String) (ik is ic : Nat) (tx : String) (pc : Nat) (ls : Array Slot) (rest : List Value) (H : Heap) (locs : List Loc), ThrOK E ik is ic tx b_Sj_equal pc → ls.size = 3 → (rest.map fun v => v.category).sum ≤ 8 → px E ki co pr pa tw nv sv → va_P D vwCl (wX a ++ wV a cI cJ ki co pr pa tw nv sv) H → va_D A (wX a ++ wV a cI cJ ki co pr pa tw nv sv) → va_S A s.heap H locs → W p l e R s m args below meth c H locs 0 0 Q (F0 m pc ls rest))
    (hout : ∀ (ki : Nat → Int32) (co : Nat → Int64) (pr : Nat → Int32) (pa : Nat → Int32) (tw : Nat → Int32) (nv : Int32) (sv : Int32) (E : String) (ce : Cell) (q : Addr) (pc : Nat) (ls : Array Slot) (rest : List Value) (H : Heap) (locs : List Loc) (k j : Nat), k ≤ 1 → j ≤ 6 → H[q]? = some ce → ce.vm = .none → s.vm.findClass E = some ce.cls → px E ki co pr pa tw nv sv → va_P D vwCl (wX a ++ wV a cI cJ ki co pr pa tw nv sv) H → va_D A (wX a ++ wV a cI cJ ki co pr pa tw nv sv) → va_S A s.heap H locs → vx_W p l e R s m args below meth c H locs k j Q (F0 m pc ls rest) q) : W p l e R s m args below meth c H locs 0 0 Q (F0 m 0 ls []) := by
  have hx := S.1
  have hb := S.2.1
  have hown := S.2.2.2.1
  have hts := S.2.2.2.2
  unfold V_Sj_equal at vc
  refine lv_aload_n hx hb d_Sj_equal_0 rfl (lv_at hl 0 rfl) ?_
  refine va_get (D := D) (ci := 5) (v := .ref (a 0)) (C := R_Sj) (T := F_Sj) (N := 4) hx hb hts in_Sj hown hK hP 0 rfl rfl 0 (by decide) (hts _ fl_Sj_10) (fun _ h => h) rfl d_Sj_equal_1 ?_
  refine lv_iload_n hx hb d_Sj_equal_4 rfl (lv_at hl 1 rfl) ?_
  refine pc_V (As := [.int x]) (rest := []) S (c_Va_has l D a cI cJ cZ ki co pr pa tw nv sv x) wB_blind k_Va_has i_Va_has e_Va_has o_Va ml_Sj_159 hd_Va_has (Nat.le_trans (by decide) hRf) (Nat.le_trans (by decide) hRl) ⟨Nat.zero_le _, Nat.zero_le _⟩ (va_recv hK hP (q0 := 1) (ci := 4) rfl rfl) (wB_at (hP.sub (ws' := (wV a cI cJ ki co pr pa tw nv sv)) [1, 2, 3, 4, 5, 6] rfl) hK) hl.1 rfl (Nat.le_of_ble_eq_true rfl) d_Sj_equal_5 ?_
  obtain ⟨J1, vc, vc2⟩ := vc
  have jJ1 : ∀ (ls : Array Slot) (H : Heap) (locs : List Loc), J1 → lv_has ls 3 [(0, .ref (a 24)), (1, .int x), (2, .int y)] → va_P D vwCl (wX a ++ wV a cI cJ ki co pr pa tw nv sv) H → va_D A (wX a ++ wV a cI cJ ki co pr pa tw nv sv) → va_S A s.heap H locs → W p l e R s m args below meth c H locs 0 0 Q (F0 m 22 ls []) := by
    intro  ls H locs vc hl hP hD hS
    have vc := vc2  vc
    exact hthr _ _ _ _ _ _ _ _ _ _ _ _ _ ls _ H locs ⟨x_IAE, (show ((195, "there is no such value") : Nat × String) ∈ STRS by decide +kernel), d_Sj_equal_22, d_Sj_equal_25, d_Sj_equal_26, d_Sj_equal_28, d_Sj_equal_31⟩ hl.1 (Nat.le_of_ble_eq_true rfl) vc hP hD hS
  clear vc2
  refine lv_if_eq (tgt := 22) hx hb d_Sj_equal_8 (by decide) (fun h => ?_) (fun h => ?_)
  · have vc := vc.1 h
    exact jJ1 ls H locs vc (lv_sub hl [0, 1, 2] rfl) hP hD hS
  · have vc := vc.2 h
    refine lv_aload_n hx hb d_Sj_equal_11 rfl (lv_at hl 0 rfl) ?_
    refine va_get (D := D) (ci := 5) (v := .ref (a 0)) (C := R_Sj) (T := F_Sj) (N := 4) hx hb hts in_Sj hown hK hP 0 rfl rfl 0 (by decide) (hts _ fl_Sj_10) (fun _ h => h) rfl d_Sj_equal_12 ?_
    refine lv_iload_n hx hb d_Sj_equal_15 rfl (lv_at hl 2 rfl) ?_
    refine pc_V (As := [.int y]) (rest := []) S (c_Va_has l D a cI cJ cZ ki co pr pa tw nv sv y) wB_blind k_Va_has i_Va_has e_Va_has o_Va ml_Sj_159 hd_Va_has (Nat.le_trans (by decide) hRf) (Nat.le_trans (by decide) hRl) ⟨Nat.zero_le _, Nat.zero_le _⟩ (va_recv hK hP (q0 := 1) (ci := 4) rfl rfl) (wB_at (hP.sub (ws' := (wV a cI cJ ki co pr pa tw nv sv)) [1, 2, 3, 4, 5, 6] rfl) hK) hl.1 rfl (Nat.le_of_ble_eq_true rfl) d_Sj_equal_16 ?_
    refine lv_if_ne (tgt := 32) hx hb d_Sj_equal_19 (by decide) (fun h => ?_) (fun h => ?_)
    · have vc := vc.1 h
      refine lv_aload_n hx hb d_Sj_equal_32 rfl (lv_at hl 0 rfl) ?_
      refine va_get (D := D) (ci := 5) (v := .ref (a 0)) (C := R_Sj) (T := F_Sj) (N := 4) hx hb hts in_Sj hown hK hP 0 rfl rfl 0 (by decide) (hts _ fl_Sj_10) (fun _ h => h) rfl d_Sj_equal_33 ?_
      exact vc.elim
    · have vc := vc.2 h
      exact jJ1 ls H locs vc (lv_sub hl [0, 1, 2] rfl) hP hD hS
theorem h_Sj_equal (l : Launch) (hls : l.stackTraces = false) (D : va_G) (a : Nat → Nat) (cI cJ cZ : ClassId) (ki : Nat → Int32) (co : Nat → Int64) (pr : Nat → Int32) (pa : Nat → Int32) (tw : Nat → Int32) (nv : Int32) (sv : Int32) (x : Int32) (y : Int32) (ok : Prop) (bad : String → Prop) (r : Int32) (hr : narrow .boolean (.int r) = .int r) (ki' : Nat → Int32) (co' : Nat → Int64) (pr' : Nat → Int32) (pa' : Nat → Int32) (tw' : Nat → Int32) (nv' : Int32) (sv' : Int32) (ki'' : Nat → Int32) (co'' : Nat → Int64) (pr'' : Nat → Int32) (pa'' : Nat → Int32) (tw'' : Nat → Int32) (nv'' : Int32) (sv'' : Int32) (vc : V_Sj_equal ki co pr pa tw nv sv x y (fun v ki co pr pa tw nv sv => ok ∧ v = r ∧ ki = ki' ∧ co = co' ∧ pr = pr' ∧ pa = pa' ∧ tw = tw' ∧ nv = nv' ∧ sv = sv') (fun E ki co pr pa tw nv sv => bad E ∧ ki = ki'' ∧ co = co'' ∧ pr = pr'' ∧ pa = pa'' ∧ tw = tw'' ∧ nv = nv'' ∧ sv = sv'')) : Tm (S := Unit) (SX := Unit) l y_Sj_equal b_Sj_equal 3 (some .boolean) 6 90 [.ref (a 24), .int x, .int y] D (tyA cI cJ cZ) (wX a ++ wV a cI cJ ki co pr pa tw nv sv) (fun _ => ok) (fun _ => some (.int r)) (fun _ => (wX a ++ wV a cI cJ ki' co' pr' pa' tw' nv' sv')) (fun E _ => bad E) (fun _ => (wX a ++ wV a cI cJ ki'' co'' pr'' pa'' tw'' nv'' sv'')) :=
  tm_of hls (by decide) rfl (Or.inr ⟨.boolean, fun _ => r, rfl, fun _ => rfl, fun _ _ => hr⟩) (Nat.le_of_ble_eq_true rfl) (by decide) (by decide) (fun p e s m below meth c ls Q A S hK hP hD hA hS hX hl hret hthr hout => g_Sj_equal hls S (Nat.le_refl _) (Nat.le_refl _) ⟨Nat.le_refl _, Nat.le_refl _⟩ D a cI cJ cZ ki co pr pa tw nv sv x y hK hP hD hA hS hX hl vc
    (fun v ki co pr pa tw nv sv ls pc H locs k j hd hk hj hv hP hD hS => by obtain ⟨hok, rfl, rfl, rfl, rfl, rfl, rfl, rfl, rfl⟩ := hv; exact hret () ls pc H locs k j _ (Or.inr ⟨_, rfl, rfl, hd⟩) hk hj hok hP hD hS)
    (fun ki co pr pa tw nv sv E ik is ic tx pc ls rest H locs T hs hw hv hP hD hS => by obtain ⟨hbd, rfl, rfl, rfl, rfl, rfl, rfl, rfl⟩ := hv; exact hthr () E ik is ic tx pc ls rest H locs T hs hw hbd hP hD hS)
    (fun ki co pr pa tw nv sv E ce q pc ls rest H locs k j hk hj h1 h2 h3 hv hP hD hS => by obtain ⟨hbd, rfl, rfl, rfl, rfl, rfl, rfl, rfl⟩ := hv; exact hout () E ce q pc ls rest H locs k j hk hj h1 h2 h3 hbd hP hD hS))
theorem c_Sj_equal (l : Launch) (hls : l.stackTraces = false) (D : va_G) (a : Nat → Nat) (cI cJ cZ : ClassId) (ki : Nat → Int32) (co : Nat → Int64) (pr : Nat → Int32) (pa : Nat → Int32) (tw : Nat → Int32) (nv : Int32) (sv : Int32) (x : Int32) (y : Int32) (hpre : ¬ (sHas nv x && sHas nv y) = true) : Tm (S := Unit) (SX := Unit) l y_Sj_equal b_Sj_equal 3 (some .boolean) 6 90 [.ref (a 24), .int x, .int y] D (tyA cI cJ cZ) (wX a ++ wV a cI cJ ki co pr pa tw nv sv) (fun _ => False) (fun _ => some (.int (bI false))) (fun _ => (wX a ++ wV a cI cJ ki co pr pa tw nv sv)) (fun E _ => E = IAE) (fun _ => (wX a ++ wV a cI cJ ki co pr pa tw nv sv)) := h_Sj_equal l hls D a cI cJ cZ ki co pr pa tw nv sv x y False (fun E => E = IAE) (bI false) (bI_nar _) ki co pr pa tw nv sv ki co pr pa tw nv sv (by
  unfold V_Sj_equal
  exact ⟨True, ⟨fun _ => trivial, fun h => ⟨fun h2 => hpre (and2.mpr ⟨bI_ne.mp h, bI_ne.mp h2⟩), fun _ => trivial⟩⟩, fun _ => ⟨rfl, by simp⟩⟩)
theorem hd_Sj_equal : y_Sj_equal.cls ≠ "java/lang/invoke/MethodHandle" ∧ y_Sj_equal.cls ≠ "java/lang/invoke/VarHandle" ∧ (parseMethodDescriptor y_Sj_equal.desc).map (fun d => d.parameters.length) = some 2 := ⟨by decide, by decide, by decide +kernel⟩
def V_Sj_fault (ch : Nat → Int32) (ma : Nat → Int32) (br : Nat → Int64) (tl : Int32) (x : Int32) (post : Int32 → (Nat → Int32) → (Nat → Int32) → (Nat → Int64) → Int32 → Prop) (px : String → (Nat → Int32) → (Nat → Int32) → (Nat → Int64) → Int32 → Prop) : Prop :=
  ((¬ (bI (sIn x 0 ((cntL br 960) - 1))) = 0 → False) ∧ ((bI (sIn x 0 ((cntL br 960) - 1))) = 0 → px IOB ch ma br tl))
set_option maxHeartbeats 4000000 in
set_option maxRecDepth 100000 in
theorem g_Sj_fault {p : Program} {l : Launch} {e : Env} {R : Room} {s : State} {m : MethodId} {args : Array Value} {below : List Frame} {meth : Method} {c : Code} {H : Heap} {locs : List Loc} {Q : State → Prop} {ls : Array Slot} {A : Nat → Prop} (hls : l.stackTraces = false) (S : CallFix p m c b_Sj_fault 2 s args W0 R_Sj) (hRf : 6 ≤ R.frames) (hRl : 90 ≤ R.locals) (hRc : 0 + 1 ≤ R.cells ∧ 0 + 6 ≤ R.slots) (D : va_G) (a : Nat → Nat) (cI cJ cZ : ClassId) (ch : Nat → Int32) (ma : Nat → Int32) (br : Nat → Int64) (tl : Int32) (x : Int32) (hK : va_K D vwCl (tyA cI cJ cZ) s) (hP : va_P D vwCl (wX a ++ wJ a cI cJ ch ma br tl) H) (hD : va_D A (wX a ++ wJ a cI cJ ch ma br tl)) (hA : ∀ q, s.heap.size ≤ q → A q) (hS : va_S A s.heap H locs) (hX : eX A s s.heap) (hl : lv_has ls 2 [(0, .ref (a 24)), (1, .int x)]) {post : Int32 → (Nat → Int32) → (Nat → Int32) → (Nat → Int64) → Int32 → Prop} {px : String → (Nat → Int32) → (Nat → Int32) → (Nat → Int64) → Int32 → Prop} (vc : V_Sj_fault ch ma br tl x post px)
    (hret : ∀ (v : Int32) (ch : Nat → Int32) (ma : Nat → Int32) (br : Nat → Int64) (tl : Int32) (ls : Array Slot) (pc : Nat) (H : Heap) (locs : List Loc) (k j : Nat), decode b_Sj_fault pc = .ok (.ireturn, 1) → k ≤ 1 → j ≤ 6 → post v ch ma br tl → va_P D vwCl (wX a ++ wJ a cI cJ ch ma br tl) H → va_D A (wX a ++ wJ a cI cJ ch ma br tl) → va_S A s.heap H locs → W p l e R s m args below meth c H locs k j Q (F0 m pc ls [.int v]))
    (hthr : ∀ (ch : Nat → Int32) (ma : Nat → Int32) (br : Nat → Int64) (tl : Int32) (E : String) (ik is ic : Nat) (tx : String) (pc : Nat) (ls : Array Slot) (rest : List Value) (H : Heap) (locs : List Loc), ThrOK E ik is ic tx b_Sj_fault pc → ls.size = 2 → (rest.map fun v => v.category).sum ≤ 8 → px E ch ma br tl → va_P D vwCl (wX a ++ wJ a cI cJ ch ma br tl) H → va_D A (wX a ++ wJ a cI cJ ch ma br tl) → va_S A s.heap H locs → W p l e R s m args below meth c H locs 0 0 Q (F0 m pc ls rest))
    (hout : ∀ (ch : Nat → Int32) (ma : Nat → Int32) (br : Nat → Int64) (tl : Int32) (E : String) (ce : Cell) (q : Addr) (pc : Nat) (ls : Array Slot) (rest : List Value) (H : Heap) (locs : List Loc) (k j : Nat), k ≤ 1 → j ≤ 6 → H[q]? = some ce → ce.vm = .none → s.vm.findClass E = some ce.cls → px E ch ma br tl → va_P D vwCl (wX a ++ wJ a cI cJ ch ma br tl) H → va_D A (wX a ++ wJ a cI cJ ch ma br tl) → va_S A s.heap H locs → vx_W p l e R s m args below meth c H locs k j Q (F0 m pc ls rest) q) : W p l e R s m args below meth c H locs 0 0 Q (F0 m 0 ls []) := by
  have hx := S.1
  have hb := S.2.1
  have hown := S.2.2.2.1
  have hts := S.2.2.2.2
  unfold V_Sj_fault at vc
  refine lv_iload_n hx hb d_Sj_fault_0 rfl (lv_at hl 1 rfl) ?_
  refine lv_iconst (v := 0) hx hb d_Sj_fault_1 (by decide) ?_
  refine lv_aload_n hx hb d_Sj_fault_2 rfl (lv_at hl 0 rfl) ?_
  refine va_get (D := D) (ci := 5) (v := .ref (a 20)) (C := R_Sj) (T := F_Sj) (N := 4) hx hb hts in_Sj hown hK hP 0 rfl rfl 3 (by decide) (hts _ fl_Sj_40) (fun _ h => h) rfl d_Sj_fault_3 ?_
  refine pc_V (As := []) (rest := [.int 0, .int x]) S (c_Ju_countFaults l D a cI cJ cZ ch ma br tl) wB_blind k_Ju_countFaults i_Ju_countFaults e_Ju_countFaults o_Ju ml_Sj_184 hd_Ju_countFaults (Nat.le_trans (by decide) hRf) (Nat.le_trans (by decide) hRl) ⟨Nat.zero_le _, Nat.zero_le _⟩ (va_recv hK hP (q0 := 1) (ci := 0) rfl rfl) (wB_at (hP.sub (ws' := (wJ a cI cJ ch ma br tl)) [1, 2, 3, 4] rfl) hK) hl.1 rfl (Nat.le_of_ble_eq_true rfl) d_Sj_fault_6 ?_
  refine lv_iconst (v := 1) hx hb d_Sj_fault_9 (by decide) ?_
  refine lv_isub hx hb d_Sj_fault_10 ?_
  refine pc_S (As := [.int x, .int 0, .int ((cntL br 960) - 1)]) (rest := []) S (c_Sj_isWithin l x 0 ((cntL br 960) - 1)) wT_blind k_Sj_isWithin s_Sj_isWithin o_Sj ml_Sj_59 hd_Sj_isWithin (Nat.le_trans (by decide) hRf) (Nat.le_trans (by decide) hRl) ⟨Nat.zero_le _, Nat.zero_le _⟩ (fun _ _ _ => trivial) hl.1 rfl (Nat.le_of_ble_eq_true rfl) d_Sj_fault_11 ?_
  refine lv_if_ne (tgt := 27) hx hb d_Sj_fault_14 (by decide) (fun h => ?_) (fun h => ?_)
  · have vc := vc.1 h
    refine lv_aload_n hx hb d_Sj_fault_27 rfl (lv_at hl 0 rfl) ?_
    refine va_get (D := D) (ci := 5) (v := .ref (a 20)) (C := R_Sj) (T := F_Sj) (N := 4) hx hb hts in_Sj hown hK hP 0 rfl rfl 3 (by decide) (hts _ fl_Sj_40) (fun _ h => h) rfl d_Sj_fault_28 ?_
    refine lv_iload_n hx hb d_Sj_fault_31 rfl (lv_at hl 1 rfl) ?_
    exact vc.elim
  · have vc := vc.2 h
    exact hthr _ _ _ _ _ _ _ _ _ _ ls _ H locs ⟨x_IOB, (show ((189, "there is no such fault") : Nat × String) ∈ STRS by decide +kernel), d_Sj_fault_17, d_Sj_fault_20, d_Sj_fault_21, d_Sj_fault_23, d_Sj_fault_26⟩ hl.1 (Nat.le_of_ble_eq_true rfl) vc hP hD hS
theorem h_Sj_fault (l : Launch) (hls : l.stackTraces = false) (D : va_G) (a : Nat → Nat) (cI cJ cZ : ClassId) (ch : Nat → Int32) (ma : Nat → Int32) (br : Nat → Int64) (tl : Int32) (x : Int32) (ok : Prop) (bad : String → Prop) (r : Int32) (ch' : Nat → Int32) (ma' : Nat → Int32) (br' : Nat → Int64) (tl' : Int32) (ch'' : Nat → Int32) (ma'' : Nat → Int32) (br'' : Nat → Int64) (tl'' : Int32) (vc : V_Sj_fault ch ma br tl x (fun v ch ma br tl => ok ∧ v = r ∧ ch = ch' ∧ ma = ma' ∧ br = br' ∧ tl = tl') (fun E ch ma br tl => bad E ∧ ch = ch'' ∧ ma = ma'' ∧ br = br'' ∧ tl = tl'')) : Tm (S := Unit) (SX := Unit) l y_Sj_fault b_Sj_fault 2 (some .int) 6 90 [.ref (a 24), .int x] D (tyA cI cJ cZ) (wX a ++ wJ a cI cJ ch ma br tl) (fun _ => ok) (fun _ => some (.int r)) (fun _ => (wX a ++ wJ a cI cJ ch' ma' br' tl')) (fun E _ => bad E) (fun _ => (wX a ++ wJ a cI cJ ch'' ma'' br'' tl'')) :=
  tm_of hls (by decide) rfl (Or.inr ⟨.int, fun _ => r, rfl, fun _ => rfl, fun _ _ => rfl⟩) (Nat.le_of_ble_eq_true rfl) (by decide) (by decide) (fun p e s m below meth c ls Q A S hK hP hD hA hS hX hl hret hthr hout => g_Sj_fault hls S (Nat.le_refl _) (Nat.le_refl _) ⟨Nat.le_refl _, Nat.le_refl _⟩ D a cI cJ cZ ch ma br tl x hK hP hD hA hS hX hl vc
    (fun v ch ma br tl ls pc H locs k j hd hk hj hv hP hD hS => by obtain ⟨hok, rfl, rfl, rfl, rfl, rfl⟩ := hv; exact hret () ls pc H locs k j _ (Or.inr ⟨_, rfl, rfl, hd⟩) hk hj hok hP hD hS)
    (fun ch ma br tl E ik is ic tx pc ls rest H locs T hs hw hv hP hD hS => by obtain ⟨hbd, rfl, rfl, rfl, rfl⟩ := hv; exact hthr () E ik is ic tx pc ls rest H locs T hs hw hbd hP hD hS)
    (fun ch ma br tl E ce q pc ls rest H locs k j hk hj h1 h2 h3 hv hP hD hS => by obtain ⟨hbd, rfl, rfl, rfl, rfl⟩ := hv; exact hout () E ce q pc ls rest H locs k j hk hj h1 h2 h3 hbd hP hD hS))
theorem c_Sj_fault (l : Launch) (hls : l.stackTraces = false) (D : va_G) (a : Nat → Nat) (cI cJ cZ : ClassId) (ch : Nat → Int32) (ma : Nat → Int32) (br : Nat → Int64) (tl : Int32) (x : Int32) (hpre : ¬ sIn x 0 (cntL br 960 - 1) = true) : Tm (S := Unit) (SX := Unit) l y_Sj_fault b_Sj_fault 2 (some .int) 6 90 [.ref (a 24), .int x] D (tyA cI cJ cZ) (wX a ++ wJ a cI cJ ch ma br tl) (fun _ => False) (fun _ => some (.int 0)) (fun _ => (wX a ++ wJ a cI cJ ch ma br tl)) (fun E _ => E = IOB) (fun _ => (wX a ++ wJ a cI cJ ch ma br tl)) := h_Sj_fault l hls D a cI cJ cZ ch ma br tl x False (fun E => E = IOB) 0 ch ma br tl ch ma br tl (by
  unfold V_Sj_fault
  exact ⟨fun h => hpre (bI_ne.mp h), fun _ => ⟨rfl, by simp⟩⟩)
theorem hd_Sj_fault : y_Sj_fault.cls ≠ "java/lang/invoke/MethodHandle" ∧ y_Sj_fault.cls ≠ "java/lang/invoke/VarHandle" ∧ (parseMethodDescriptor y_Sj_fault.desc).map (fun d => d.parameters.length) = some 1 := ⟨by decide, by decide, by decide +kernel⟩
