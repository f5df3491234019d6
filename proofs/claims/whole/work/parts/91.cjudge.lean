/-! ===== fault, equal and judge of the class ===== -/
def BC (br : Nat → Int64) (p k : Nat) : Prop := bL (br p) k = true
def Hi0 (br : Nat → Int64) : Prop := ∀ p, p < 960 → ∀ k, 36 ≤ k → k < 64 → bL (br p) k = false
theorem lBits36 {x : Int64} (h : ∀ k, 36 ≤ k → k < 64 → bL x k = false) : lBits x = nI (cN (fun k => bL x k = true) 36) := by
  rw [lBits_cN, cN_off (L := 36) 64 (by decide) (fun i h1 h2 q => by rw [h i h1 h2] at q; exact absurd q (by decide))]
theorem cntL_sum {br : Nat → Int64} : ∀ n, (∀ p, p < n → ∀ k, 36 ≤ k → k < 64 → bL (br p) k = false) → cntL br n = nI (sumN (FS (BC br)) n)
  | 0, _ => rfl
  | n + 1, h => by
    rw [cntL, cntL_sum n (fun p hp => h p (by omega)), lBits36 (h n (by omega)), nI_add]; rfl
theorem sIn_has {n : Nat} (hn : n < 2 ^ 30) {x : Int32} : sIn x 0 (nI n - 1) = true ↔ sHas (nI n) x = true := by
  rw [sIn_iff, sHas_i]
  have e : (nI n - 1).toInt = (n : Int) - 1 := by
    rcases Nat.eq_zero_or_pos n with rfl | q
    · decide
    · rw [m1_nI n q, nI_toInt (by omega)]; omega
  rw [e, Int32.lt_iff_toInt_lt, Int32.lt_iff_toInt_lt, nI_toInt (by omega), show (0 : Int32).toInt = 0 from rfl]
  omega
def V_Ju_bitAt (x : Int64) (y : Int32) (post : Int32 → Prop) : Prop :=
  (∃ (I4 : Int64 → Int32 → Prop) (mI4 : Int64 → Int32 → Nat), I4 x 0 ∧ (∀ (y2 : Int64) (x3 : Int32), I4 y2 x3 → ((y ≤ x3 → post (lTz y2)) ∧ (¬ y ≤ x3 → (I4 (y2 &&& (y2 - 1)) (x3 + 1) ∧ mI4 (y2 &&& (y2 - 1)) (x3 + 1) < mI4 y2 x3)))))
set_option maxHeartbeats 4000000 in
set_option maxRecDepth 100000 in
theorem g_Ju_bitAt {p : Program} {l : Launch} {e : Env} {R : Room} {s : State} {m : MethodId} {args : Array Value} {below : List Frame} {meth : Method} {c : Code} {H : Heap} {locs : List Loc} {cells slots : Nat} {Q : State → Prop} {ls : Array Slot} (S : CallFix p m c b_Ju_bitAt 6 s args W0 R_Ju) (hRf : 2 ≤ R.frames) (hRl : 43 ≤ R.locals) (hRc : cells ≤ R.cells ∧ slots ≤ R.slots) (x : Int64) (y : Int32) (hl : lv_has ls 6 [(0, .long x), (2, .int y)]) {post : Int32 → Prop} (vc : V_Ju_bitAt x y post)
    (hret : ∀ (v : Int32) (ls : Array Slot) (pc : Nat), decode b_Ju_bitAt pc = .ok (.ireturn, 1) → post v → W p l e R s m args below meth c H locs cells slots Q (F0 m pc ls [.int v])) : W p l e R s m args below meth c H locs cells slots Q (F0 m 0 ls []) := by
  have hx := S.1
  have hb := S.2.1
  have hown := S.2.2.2.1
  have hts := S.2.2.2.2
  unfold V_Ju_bitAt at vc
  refine lv_lload_n hx hb d_Ju_bitAt_0 rfl (lv_at hl 0 rfl) ?_
  refine lv_lstore_n hx hb d_Ju_bitAt_1 rfl hl (by decide) (lv' := [(3, .long x), (0, .long x), (2, .int y)]) rfl (fun ls hl => ?_)
  refine lv_iconst (v := 0) hx hb d_Ju_bitAt_2 (by decide) ?_
  refine lv_istore hx hb d_Ju_bitAt_3 hl (by decide) (lv' := [(5, .int 0), (3, .long x), (0, .long x), (2, .int y)]) rfl (fun ls hl => ?_)
  obtain ⟨I4, mI4, vc0, vcs⟩ := vc
  have lI4 : ∀ n : Nat, ∀ (y2 : Int64) (x3 : Int32) (ls : Array Slot), I4 y2 x3 → mI4 y2 x3 < n → lv_has ls 6 [(0, .long x), (2, .int y), (3, .long y2), (5, .int x3)] → W p l e R s m args below meth c H locs cells slots Q (F0 m 5 ls []) := by
    intro n
    induction n with
    | zero => intro y2 x3 ls _ h; exact absurd h (Nat.not_lt_zero _)
    | succ n ihI4 =>
      intro y2 x3 ls vc hmI4 hl
      have vc := vcs y2 x3 vc
      refine lv_iload hx hb d_Ju_bitAt_5 (lv_at hl 3 rfl) ?_
      refine lv_iload_n hx hb d_Ju_bitAt_7 rfl (lv_at hl 1 rfl) ?_
      refine lv_icmp_ge (tgt := 23) hx hb d_Ju_bitAt_8 (by decide) (fun h => ?_) (fun h => ?_)
      · have vc := vc.1 h
        refine lv_lload_n hx hb d_Ju_bitAt_23 rfl (lv_at hl 2 rfl) ?_
        refine pc_S (As := [.long y2]) (rest := []) S (c_Lo_numberOfTrailingZeros l y2) wT_blind k_Lo_numberOfTrailingZeros s_Lo_numberOfTrailingZeros o_Lo ml_Ju_73 hd_Lo_numberOfTrailingZeros (Nat.le_trans (by decide) hRf) (Nat.le_trans (by decide) hRl) hRc (fun _ _ _ => trivial) hl.1 rfl (Nat.le_of_ble_eq_true rfl) d_Ju_bitAt_24 ?_
        exact hret _ ls _ d_Ju_bitAt_27 vc
      · have vc := vc.2 h
        refine lv_lload_n hx hb d_Ju_bitAt_11 rfl (lv_at hl 2 rfl) ?_
        refine lv_lload_n hx hb d_Ju_bitAt_12 rfl (lv_at hl 2 rfl) ?_
        refine lv_lconst (v := 1) hx hb d_Ju_bitAt_13 (by decide) ?_
        refine lv_lsub hx hb d_Ju_bitAt_14 ?_
        refine lv_land hx hb d_Ju_bitAt_15 ?_
        refine lv_lstore_n hx hb d_Ju_bitAt_16 rfl hl (by decide) (lv' := [(3, .long (y2 &&& (y2 - 1))), (0, .long x), (2, .int y), (5, .int x3)]) rfl (fun ls hl => ?_)
        refine lv_iinc (k := 3) (v := x3 + 1) hx hb d_Ju_bitAt_17 hl rfl rfl (by decide) (lv' := [(5, .int (x3 + 1)), (3, .long (y2 &&& (y2 - 1))), (0, .long x), (2, .int y)]) rfl (fun ls hl => ?_)
        refine lv_goto (tgt := 5) hx hb d_Ju_bitAt_20 (by decide) ?_
        exact ihI4 (y2 &&& (y2 - 1)) (x3 + 1) ls vc.1 (Nat.lt_of_lt_of_le vc.2 (Nat.le_of_lt_succ hmI4)) (lv_sub hl [2, 3, 1, 0] rfl)
  exact lI4 _ x 0 ls vc0 (Nat.lt_succ_self _) (lv_sub hl [2, 3, 1, 0] rfl)
theorem h_Ju_bitAt (l : Launch) (x : Int64) (y : Int32) (r : Int32) (vc : V_Ju_bitAt x y (fun v => v = r)) : Pm l y_Ju_bitAt b_Ju_bitAt 6 (some .int) 2 43 [.long x, .int y] wT (.int r) :=
  pm_i (by decide) rfl (Nat.le_of_ble_eq_true rfl) (fun p e s m below meth c ls Q S hB hl hret => g_Ju_bitAt S (Nat.le_refl _) (Nat.le_refl _) ⟨Nat.le_refl _, Nat.le_refl _⟩ x y hl vc hret)
theorem c_Ju_bitAt (l : Launch) (x : Int64) (y : Int32) (hpre : vp_in y 64) : Pm l y_Ju_bitAt b_Ju_bitAt 6 (some .int) 2 43 [.long x, .int y] wT (.int (lTz (clrN y.toNatClampNeg x))) := h_Ju_bitAt l x y _ (by
  unfold V_Ju_bitAt
  obtain ⟨n, hn, rfl, cn⟩ := vp_nat hpre (by decide)
  rw [cn]
  refine ⟨fun z j => ∃ k, k ≤ n ∧ j = nI k ∧ z = clrN k x, fun _ j => n - j.toInt.toNat, ⟨0, Nat.zero_le _, rfl, rfl⟩, ?_⟩
  rintro z j ⟨k, hk, rfl, rfl⟩
  refine ⟨fun h => ?_, fun h => ?_⟩
  · obtain rfl := fill_end (N := n) h (by omega) hk
    rfl
  · have hk2 := fill_step (N := n) h (by omega) hk
    exact ⟨⟨k + 1, hk2, nI_1 k, rfl⟩, fill_mu (N := n) hk2 (by omega)⟩)
theorem hd_Ju_bitAt : y_Ju_bitAt.cls ≠ "java/lang/invoke/MethodHandle" ∧ y_Ju_bitAt.cls ≠ "java/lang/invoke/VarHandle" ∧ (parseMethodDescriptor y_Ju_bitAt.desc).map (fun d => d.parameters.length) = some 2 := ⟨by decide, by decide, by decide +kernel⟩
def V_Ju_faultAt (ch : Nat → Int32) (ma : Nat → Int32) (br : Nat → Int64) (tl : Int32) (x : Int32) (post : Int32 → (Nat → Int32) → (Nat → Int32) → (Nat → Int64) → Int32 → Prop) : Prop :=
  (∃ (I4 : Int32 → Int32 → Prop) (mI4 : Int32 → Int32 → Nat), I4 x 0 ∧ (∀ (x2 : Int32) (x3 : Int32), I4 x2 x3 → ((960 ≤ x3 → post (-1) ch ma br tl) ∧ (¬ 960 ≤ x3 → (vp_in x3 960 ∧ (((lBits (br x3.toNatClampNeg)) ≤ x2 → (I4 (x2 - (lBits (br x3.toNatClampNeg))) (x3 + 1) ∧ mI4 (x2 - (lBits (br x3.toNatClampNeg))) (x3 + 1) < mI4 x2 x3)) ∧ (¬ (lBits (br x3.toNatClampNeg)) ≤ x2 → (vp_in x3 960 ∧ (vp_in x2 64 ∧ post (((10000 * (x3 / 24)) + (100 * (x3 - x3 / 24 * 24))) + (lTz (clrN x2.toNatClampNeg (br x3.toNatClampNeg)))) ch ma br tl)))))))))
set_option maxHeartbeats 4000000 in
set_option maxRecDepth 100000 in
theorem g_Ju_faultAt {p : Program} {l : Launch} {e : Env} {R : Room} {s : State} {m : MethodId} {args : Array Value} {below : List Frame} {meth : Method} {c : Code} {H : Heap} {locs : List Loc} {cells slots : Nat} {Q : State → Prop} {ls : Array Slot} {A : Nat → Prop} (S : CallFix p m c b_Ju_faultAt 5 s args W0 R_Ju) (hRf : 3 ≤ R.frames) (hRl : 68 ≤ R.locals) (hRc : cells ≤ R.cells ∧ slots ≤ R.slots) (D : va_G) (a : Nat → Nat) (cI cJ cZ : ClassId) (ch : Nat → Int32) (ma : Nat → Int32) (br : Nat → Int64) (tl : Int32) (x : Int32) (hK : va_K D vwCl (tyA cI cJ cZ) s) (hP : va_P D vwCl (wJ a cI cJ ch ma br tl) H) (hD : va_D A (wJ a cI cJ ch ma br tl)) (hA : ∀ q, s.heap.size ≤ q → A q) (hS : va_S A s.heap H locs) (hl : lv_has ls 5 [(0, .ref (a 20)), (1, .int x)]) {post : Int32 → (Nat → Int32) → (Nat → Int32) → (Nat → Int64) → Int32 → Prop} (vc : V_Ju_faultAt ch ma br tl x post)
    (hret : ∀ (v : Int32) (ch : Nat → Int32) (ma : Nat → Int32) (br : Nat → Int64) (tl : Int32) (ls : Array Slot) (pc : Nat) (H : Heap) (locs : List Loc), decode b_Ju_faultAt pc = .ok (.ireturn, 1) → post v ch ma br tl → va_P D vwCl (wJ a cI cJ ch ma br tl) H → va_D A (wJ a cI cJ ch ma br tl) → va_S A s.heap H locs → W p l e R s m args below meth c H locs cells slots Q (F0 m pc ls [.int v])) : W p l e R s m args below meth c H locs cells slots Q (F0 m 0 ls []) := by
  have hx := S.1
  have hb := S.2.1
  have hown := S.2.2.2.1
  have hts := S.2.2.2.2
  unfold V_Ju_faultAt at vc
  refine lv_iload_n hx hb d_Ju_faultAt_0 rfl (lv_at hl 1 rfl) ?_
  refine lv_istore_n hx hb d_Ju_faultAt_1 rfl hl (by decide) (lv' := [(2, .int x), (0, .ref (a 20)), (1, .int x)]) rfl (fun ls hl => ?_)
  refine lv_iconst (v := 0) hx hb d_Ju_faultAt_2 (by decide) ?_
  refine lv_istore_n hx hb d_Ju_faultAt_3 rfl hl (by decide) (lv' := [(3, .int 0), (2, .int x), (0, .ref (a 20)), (1, .int x)]) rfl (fun ls hl => ?_)
  obtain ⟨I4, mI4, vc0, vcs⟩ := vc
  have lI4 : ∀ n : Nat, ∀ (x2 : Int32) (x3 : Int32) (ls : Array Slot) (H : Heap) (locs : List Loc), I4 x2 x3 → mI4 x2 x3 < n → lv_has ls 5 [(0, .ref (a 20)), (1, .int x), (2, .int x2), (3, .int x3)] → va_P D vwCl (wJ a cI cJ ch ma br tl) H → va_D A (wJ a cI cJ ch ma br tl) → va_S A s.heap H locs → W p l e R s m args below meth c H locs cells slots Q (F0 m 4 ls []) := by
    intro n
    induction n with
    | zero => intro x2 x3 ls H locs _ h; exact absurd h (Nat.not_lt_zero _)
    | succ n ihI4 =>
      intro x2 x3 ls H locs vc hmI4 hl hP hD hS
      have vc := vcs x2 x3 vc
      refine lv_iload_n hx hb d_Ju_faultAt_4 rfl (lv_at hl 3 rfl) ?_
      refine lv_sipush (v := 960) hx hb d_Ju_faultAt_5 (by decide) ?_
      refine lv_icmp_ge (tgt := 67) hx hb d_Ju_faultAt_8 (by decide) (fun h => ?_) (fun h => ?_)
      · have vc := vc.1 h
        refine lv_iconst (v := (-1)) hx hb d_Ju_faultAt_67 (by decide) ?_
        exact hret _ _ _ _ _ ls _ H locs d_Ju_faultAt_68 vc hP hD hS
      · have vc := vc.2 h
        refine lv_aload_n hx hb d_Ju_faultAt_11 rfl (lv_at hl 0 rfl) ?_
        refine va_get (D := D) (ci := 0) (v := .ref (a 23)) (C := R_Ju) (T := F_Ju) (N := 7) hx hb hts in_Ju hown hK hP 0 rfl rfl 5 (by decide) (hts _ fl_Ju_32) (fun _ h => h) rfl d_Ju_faultAt_12 ?_
        refine lv_iload_n hx hb d_Ju_faultAt_15 rfl (lv_at hl 3 rfl) ?_
        obtain ⟨vcb, vc⟩ := vc
        refine va_lald hx hb hK hP 3 1 rfl rfl vcb d_Ju_faultAt_16 ?_
        refine pc_S (As := [.long (br x3.toNatClampNeg)]) (rest := []) S (c_Lo_bitCount l (br x3.toNatClampNeg)) wT_blind k_Lo_bitCount s_Lo_bitCount o_Lo ml_Ju_63 hd_Lo_bitCount (Nat.le_trans (by decide) hRf) (Nat.le_trans (by decide) hRl) hRc (fun _ _ _ => trivial) hl.1 rfl (Nat.le_of_ble_eq_true rfl) d_Ju_faultAt_17 ?_
        refine lv_istore hx hb d_Ju_faultAt_20 hl (by decide) (lv' := [(4, .int (lBits (br x3.toNatClampNeg))), (0, .ref (a 20)), (1, .int x), (2, .int x2), (3, .int x3)]) rfl (fun ls hl => ?_)
        refine lv_iload_n hx hb d_Ju_faultAt_22 rfl (lv_at hl 3 rfl) ?_
        refine lv_iload hx hb d_Ju_faultAt_23 (lv_at hl 0 rfl) ?_
        refine lv_icmp_ge (tgt := 56) hx hb d_Ju_faultAt_25 (by decide) (fun h => ?_) (fun h => ?_)
        · have vc := vc.1 h
          refine lv_iload_n hx hb d_Ju_faultAt_56 rfl (lv_at hl 3 rfl) ?_
          refine lv_iload hx hb d_Ju_faultAt_57 (lv_at hl 0 rfl) ?_
          refine lv_isub hx hb d_Ju_faultAt_59 ?_
          refine lv_istore_n hx hb d_Ju_faultAt_60 rfl hl (by decide) (lv' := [(2, .int (x2 - (lBits (br x3.toNatClampNeg)))), (4, .int (lBits (br x3.toNatClampNeg))), (0, .ref (a 20)), (1, .int x), (3, .int x3)]) rfl (fun ls hl => ?_)
          refine lv_iinc (k := 4) (v := x3 + 1) hx hb d_Ju_faultAt_61 hl rfl rfl (by decide) (lv' := [(3, .int (x3 + 1)), (2, .int (x2 - (lBits (br x3.toNatClampNeg)))), (4, .int (lBits (br x3.toNatClampNeg))), (0, .ref (a 20)), (1, .int x)]) rfl (fun ls hl => ?_)
          refine lv_goto (tgt := 4) hx hb d_Ju_faultAt_64 (by decide) ?_
          exact ihI4 (x2 - (lBits (br x3.toNatClampNeg))) (x3 + 1) ls H locs vc.1 (Nat.lt_of_lt_of_le vc.2 (Nat.le_of_lt_succ hmI4)) (lv_sub hl [3, 4, 1, 0] rfl) hP hD hS
        · have vc := vc.2 h
          refine lv_sipush (v := 10000) hx hb d_Ju_faultAt_28 (by decide) ?_
          refine lv_iload_n hx hb d_Ju_faultAt_31 rfl (lv_at hl 4 rfl) ?_
          refine lv_bipush (v := 24) hx hb d_Ju_faultAt_32 (by decide) ?_
          refine lv_idiv hx hb d_Ju_faultAt_34 (by decide) ?_
          refine lv_imul hx hb d_Ju_faultAt_35 ?_
          refine lv_bipush (v := 100) hx hb d_Ju_faultAt_36 (by decide) ?_
          refine lv_iload_n hx hb d_Ju_faultAt_38 rfl (lv_at hl 4 rfl) ?_
          refine lv_bipush (v := 24) hx hb d_Ju_faultAt_39 (by decide) ?_
          refine lv_irem hx hb d_Ju_faultAt_41 (by decide) ?_
          refine lv_imul hx hb d_Ju_faultAt_42 ?_
          refine lv_iadd hx hb d_Ju_faultAt_43 ?_
          refine lv_aload_n hx hb d_Ju_faultAt_44 rfl (lv_at hl 1 rfl) ?_
          refine va_get (D := D) (ci := 0) (v := .ref (a 23)) (C := R_Ju) (T := F_Ju) (N := 7) hx hb hts in_Ju hown hK hP 0 rfl rfl 5 (by decide) (hts _ fl_Ju_32) (fun _ h => h) rfl d_Ju_faultAt_45 ?_
          refine lv_iload_n hx hb d_Ju_faultAt_48 rfl (lv_at hl 4 rfl) ?_
          obtain ⟨vcb, vc⟩ := vc
          refine va_lald hx hb hK hP 3 1 rfl rfl vcb d_Ju_faultAt_49 ?_
          refine lv_iload_n hx hb d_Ju_faultAt_50 rfl (lv_at hl 3 rfl) ?_
          obtain ⟨hpre, vc⟩ := vc
          refine pc_S (As := [.long (br x3.toNatClampNeg), .int x2]) (rest := [.int ((10000 * (x3 / 24)) + (100 * (x3 - x3 / 24 * 24)))]) S (c_Ju_bitAt l (br x3.toNatClampNeg) x2 hpre) wT_blind k_Ju_bitAt s_Ju_bitAt o_Ju ml_Ju_69 hd_Ju_bitAt (Nat.le_trans (by decide) hRf) (Nat.le_trans (by decide) hRl) hRc (fun _ _ _ => trivial) hl.1 rfl (Nat.le_of_ble_eq_true rfl) d_Ju_faultAt_51 ?_
          refine lv_iadd hx hb d_Ju_faultAt_54 ?_
          exact hret _ _ _ _ _ ls _ H locs d_Ju_faultAt_55 vc hP hD hS
  exact lI4 _ x 0 ls H locs vc0 (Nat.lt_succ_self _) (lv_sub hl [2, 3, 1, 0] rfl) hP hD hS
set_option maxHeartbeats 4000000 in
theorem v_Ju_faultAt (ch : Nat → Int32) (ma : Nat → Int32) (br : Nat → Int64) (tl : Int32) (x : Int32) (hpre : (∃ i : Nat, x = nI i ∧ i < sumN (FS (BC br)) 960 ∧ Hi0 br)) : V_Ju_faultAt ch ma br tl x (fun v ch' ma' br' tl' => ((∃ i p k : Nat, x = nI i ∧ FaAt (BC br) i p k ∧ v = nI (10000 * (p / 24) + 100 * (p % 24) + k))) ∧ ch' = ch ∧ ma' = ma ∧ br' = br ∧ tl' = tl) := by
  have main : ∀ post : Int32 → (Nat → Int32) → (Nat → Int32) → (Nat → Int64) → Int32 → Prop, (∀ v ch' ma' br' tl', (fun v ch' ma' br' tl' => ((∃ i p k : Nat, x = nI i ∧ FaAt (BC br) i p k ∧ v = nI (10000 * (p / 24) + 100 * (p % 24) + k))) ∧ ch' = ch ∧ ma' = ma ∧ br' = br ∧ tl' = tl) v ch' ma' br' tl' → post v ch' ma' br' tl') → V_Ju_faultAt ch ma br tl x post := by
    intro post hpost
    unfold V_Ju_faultAt
    obtain ⟨i, rfl, hi, hH⟩ := hpre
    have hbd : ∀ b, sumN (FS (BC br)) b ≤ 36 * b := sumN_bd (fun p => cN_le _ _)
    refine ⟨fun xl xp => ∃ p, p ≤ 960 ∧ xp = nI p ∧ sumN (FS (BC br)) p ≤ i ∧ xl = nI (i - sumN (FS (BC br)) p), fun _ xp => 960 - xp.toInt.toNat, ⟨0, Nat.zero_le _, rfl, Nat.zero_le _, rfl⟩, ?_⟩
    rintro xl xp ⟨p, hp, rfl, hle, rfl⟩
    have hT := hbd 960
    refine ⟨fun h => ?_, fun h => ?_⟩
    · obtain rfl := (fill_end (N := 960) h (by omega) hp).symm
      omega
    have hp2 := fill_step (N := 960) h (by omega) hp
    have mu1 := fill_mu (N := 960) hp2 (by omega)
    have cp : (nI p).toNatClampNeg = p := nI_clamp (by omega)
    have vp : vp_in (nI p) 960 := vp_in_nI hp2 (by decide)
    have hb1 := hbd p
    have hc36 := cN_le (BC br p) 36
    have hlb : lBits (br p) = nI (cN (BC br p) 36) := lBits36 (hH p hp2)
    rw [cp, hlb, nI_leI (by omega) (by omega)]
    refine ⟨vp, fun h2 => ⟨⟨p + 1, hp2, nI_1 p, ?_, ?_⟩, mu1⟩, fun h2 => ?_⟩
    · show sumN (FS (BC br)) p + cN (BC br p) 36 ≤ i
      omega
    · rw [nI_sub h2]; congr 1
      show i - sumN (FS (BC br)) p - cN (BC br p) 36 = i - (sumN (FS (BC br)) p + cN (BC br p) 36)
      omega
    · obtain ⟨k, k1, k2, k3⟩ := cN_find (p := BC br p) (b := i - sumN (FS (BC br)) p) 36 (by omega)
      have hcb : (nI (i - sumN (FS (BC br)) p)).toNatClampNeg = i - sumN (FS (BC br)) p := nI_clamp (by omega)
      refine ⟨vp, vp_in_nI (by omega) (by decide), ?_⟩
      refine (hpost _ _ _ _ _ ⟨⟨i, p, k, rfl, ⟨hp2, k1, k2, by omega⟩, ?_⟩, rfl, rfl, rfl, rfl⟩)
      rw [hcb, lTz_clr (k := k) (by omega) k2 k3, rem24 (by omega), div24 (by omega), nI_mulL, nI_mulL, nI_add, nI_add]
  exact main _ (fun _ _ _ _ _ h => h)
theorem c_Ju_faultAt (l : Launch) (D : va_G) (a : Nat → Nat) (cI cJ cZ : ClassId) (ch : Nat → Int32) (ma : Nat → Int32) (br : Nat → Int64) (tl : Int32) (x : Int32) (hpre : (∃ i : Nat, x = nI i ∧ i < sumN (FS (BC br)) 960 ∧ Hi0 br)) : Wm (S := Int32) l y_Ju_faultAt b_Ju_faultAt 5 (some .int) 3 68 [.ref (a 20), .int x] D (tyA cI cJ cZ) (wJ a cI cJ ch ma br tl) (fun uu => (∃ i p k : Nat, x = nI i ∧ FaAt (BC br) i p k ∧ uu = nI (10000 * (p / 24) + 100 * (p % 24) + k))) (fun uu => some (.int (uu))) (fun uu => (wJ a cI cJ ch ma br tl)) :=
  wm_i (by decide) (fun _ _ => rfl) (Nat.le_of_ble_eq_true rfl) (fun p e s m below meth c ls Q A S hK hP hD hA hS hl hret => g_Ju_faultAt S (Nat.le_refl _) (Nat.le_refl _) ⟨Nat.le_refl _, Nat.le_refl _⟩ D a cI cJ cZ ch ma br tl x hK hP hD hA hS hl (v_Ju_faultAt ch ma br tl x hpre) (fun v ch' ma' br' tl' ls1 pc H1 locs1 hd hv hP1 hD1 hS1 => by obtain ⟨hp, rfl, rfl, rfl, rfl⟩ := hv; exact hret v _ ls1 pc H1 locs1 hd hp rfl hP1 hD1 hS1))
theorem hd_Ju_faultAt : y_Ju_faultAt.cls ≠ "java/lang/invoke/MethodHandle" ∧ y_Ju_faultAt.cls ≠ "java/lang/invoke/VarHandle" ∧ (parseMethodDescriptor y_Ju_faultAt.desc).map (fun d => d.parameters.length) = some 1 := ⟨by decide, by decide, by decide +kernel⟩
def V_Sj_faultF (ch : Nat → Int32) (ma : Nat → Int32) (br : Nat → Int64) (tl : Int32) (x : Int32) (post : Int32 → (Nat → Int32) → (Nat → Int32) → (Nat → Int64) → Int32 → Prop) (px : String → (Nat → Int32) → (Nat → Int32) → (Nat → Int64) → Int32 → Prop) : Prop :=
  ((¬ (bI (sIn x 0 ((cntL br 960) - 1))) = 0 → ((∃ i : Nat, x = nI i ∧ i < sumN (FS (BC br)) 960 ∧ Hi0 br) ∧ (∀ (x1 : Int32), ((∃ i p k : Nat, x = nI i ∧ FaAt (BC br) i p k ∧ x1 = nI (10000 * (p / 24) + 100 * (p % 24) + k))) → post x1 ch ma br tl))) ∧ ((bI (sIn x 0 ((cntL br 960) - 1))) = 0 → px IOB ch ma br tl))
set_option maxHeartbeats 4000000 in
set_option maxRecDepth 100000 in
theorem g_Sj_faultF {p : Program} {l : Launch} {e : Env} {R : Room} {s : State} {m : MethodId} {args : Array Value} {below : List Frame} {meth : Method} {c : Code} {H : Heap} {locs : List Loc} {Q : State → Prop} {ls : Array Slot} {A : Nat → Prop} (hls : l.stackTraces = false) (S : CallFix p m c b_Sj_fault 2 s args W0 R_Sj) (hRf : 6 ≤ R.frames) (hRl : 92 ≤ R.locals) (hRc : 0 + 1 ≤ R.cells ∧ 0 + 6 ≤ R.slots) (D : va_G) (a : Nat → Nat) (cI cJ cZ : ClassId) (ch : Nat → Int32) (ma : Nat → Int32) (br : Nat → Int64) (tl : Int32) (x : Int32) (hK : va_K D vwCl (tyA cI cJ cZ) s) (hP : va_P D vwCl (wX a ++ wJ a cI cJ ch ma br tl) H) (hD : va_D A (wX a ++ wJ a cI cJ ch ma br tl)) (hA : ∀ q, s.heap.size ≤ q → A q) (hS : va_S A s.heap H locs) (hX : eX A s s.heap) (hl : lv_has ls 2 [(0, .ref (a 24)), (1, .int x)]) {post : Int32 → (Nat → Int32) → (Nat → Int32) → (Nat → Int64) → Int32 → Prop} {px : String → (Nat → Int32) → (Nat → Int32) → (Nat → Int64) → Int32 → Prop} (vc : V_Sj_faultF ch ma br tl x post px)
    (hret : ∀ (v : Int32) (ch : Nat → Int32) (ma : Nat → Int32) (br : Nat → Int64) (tl : Int32) (ls : Array Slot) (pc : Nat) (H : Heap) (locs : List Loc) (k j : Nat), decode b_Sj_fault pc = .ok (.ireturn, 1) → k ≤ 1 → j ≤ 6 → post v ch ma br tl → va_P D vwCl (wX a ++ wJ a cI cJ ch ma br tl) H → va_D A (wX a ++ wJ a cI cJ ch ma br tl) → va_S A s.heap H locs → W p l e R s m args below meth c H locs k j Q (F0 m pc ls [.int v]))
    (hthr : ∀ (ch : Nat → Int32) (ma : Nat → Int32) (br : Nat → Int64) (tl : Int32) (E : String) (ik is ic : Nat) (tx : String) (pc : Nat) (ls : Array Slot) (rest : List Value) (H : Heap) (locs : List Loc), ThrOK E ik is ic tx b_Sj_fault pc → ls.size = 2 → (rest.map fun v => v.category).sum ≤ 8 → px E ch ma br tl → va_P D vwCl (wX a ++ wJ a cI cJ ch ma br tl) H → va_D A (wX a ++ wJ a cI cJ ch ma br tl) → va_S A s.heap H locs → W p l e R s m args below meth c H locs 0 0 Q (F0 m pc ls rest))
    (hout : ∀ (ch : Nat → Int32) (ma : Nat → Int32) (br : Nat → Int64) (tl : Int32) (E : String) (ce : Cell) (q : Addr) (pc : Nat) (ls : Array Slot) (rest : List Value) (H : Heap) (locs : List Loc) (k j : Nat), k ≤ 1 → j ≤ 6 → H[q]? = some ce → ce.vm = .none → s.vm.findClass E = some ce.cls → px E ch ma br tl → va_P D vwCl (wX a ++ wJ a cI cJ ch ma br tl) H → va_D A (wX a ++ wJ a cI cJ ch ma br tl) → va_S A s.heap H locs → vx_W p l e R s m args below meth c H locs k j Q (F0 m pc ls rest) q) : W p l e R s m args below meth c H locs 0 0 Q (F0 m 0 ls []) := by
  have hx := S.1
  have hb := S.2.1
  have hown := S.2.2.2.1
  have hts := S.2.2.2.2
  unfold V_Sj_faultF at vc
  refine lv_iload_n hx hb d_Sj_fault_0 rfl (lv_at hl 1 rfl) ?_
  refine lv_iconst (v := 0) hx hb d_Sj_fault_1 (by decide) ?_
  refine lv_aload_n hx hb d_Sj_fault_2 rfl (lv_at hl 0 rfl) ?_
  refine va_get (D := D) (ci := 5) (v := .ref (a 20)) (C := R_Sj) (T := F_Sj) (N := 4) hx hb hts in_Sj hown hK hP 0 rfl rfl 3 (by decide) (hts _ fl_Sj_40) (fun _ h => h) rfl d_Sj_fault_3 ?_
  refine pc_V (As := []) (rest := [.int 0, .int x]) S (c_Ju_countFaults l D a cI cJ cZ ch ma br tl) wB_blind k_Ju_countFaults i_Ju_countFaults e_Ju_countFaults o_Ju ml_Sj_184 hd_Ju_countFaults (Nat.le_trans (by decide) hRf) (Nat.le_trans (by decide) hRl) ⟨Nat.zero_le _, Nat.zero_le _⟩ (va_recv hK hP (q0 := 1) (ci := 0) rfl rfl) (wB_at (hP.sub (ws' := (wJ a cI cJ ch ma br tl)) [1, 2, 3, 4] rfl) hK) hl.1 rfl (Nat.le_of_ble_eq_true rfl) d_Sj_fault_6 ?_
  refine lv_iconst (v := 1) hx hb d_Sj_fault_9 (by decide) ?_
  refine lv_isub hx hb d_Sj_fault_10 ?_
  refine pc_S (As := [.int x, .int 0, .int ((cntL br 960) - 1)]) (rest := []) S (c_Sj_isWithin l x 0 ((cntL br 960) - 1)) wT_blind k_Sj_isWithin s_Sj_isWithin o_Sj ml_Sj_59 hd_Sj_isWithin (Nat.le_trans (by decide) hRf) (Nat.le_trans (by decide) hRl) ⟨Nat.zero_le _, Nat.zero_le _⟩ (fun _ _ _ => trivial) hl.1 rfl (Nat.le_of_ble_eq_true rfl) d_Sj_fault_11 ?_
  refine lv_if_ne (tgt := 27) hx hb d_Sj_fault_14 (by decide) (fun h => ?_) (fun h => ?_)
  · have vc := vc.1 h
    refine lv_aload_n hx hb d_Sj_fault_27 rfl (lv_at hl 0 rfl) ?_
    refine va_get (D := D) (ci := 5) (v := .ref (a 20)) (C := R_Sj) (T := F_Sj) (N := 4) hx hb hts in_Sj hown hK hP 0 rfl rfl 3 (by decide) (hts _ fl_Sj_40) (fun _ h => h) rfl d_Sj_fault_28 ?_
    refine lv_iload_n hx hb d_Sj_fault_31 rfl (lv_at hl 1 rfl) ?_
    obtain ⟨hpre, vc⟩ := vc
    refine wc_V (As := [.int x]) (rest := []) (wr := (wX a)) S (c_Ju_faultAt l D a cI cJ cZ ch ma br tl x hpre) k_Ju_faultAt i_Ju_faultAt e_Ju_faultAt o_Ju ml_Sj_192 hd_Ju_faultAt (Nat.le_trans (by decide) hRf) (Nat.le_trans (by decide) hRl) ⟨Nat.zero_le _, Nat.zero_le _⟩ (va_recv hK hP (q0 := 1) (ci := 0) rfl rfl) hK hP hD hS hA [1, 2, 3, 4] [0] rfl rfl rfl (by decide) (by decide) (by decide) hl.1 rfl (Nat.le_of_ble_eq_true rfl) d_Sj_fault_32 (fun x1 H locs hu hP hD hS => ?_)
    have vc := vc x1 hu
    clear hu
    have hP : va_P D vwCl (wX a ++ wJ a cI cJ ch ma br tl) H := hP.sub [0, 1, 2, 3, 4] rfl
    have hD : va_D A (wX a ++ wJ a cI cJ ch ma br tl) := hD.sub [0, 1, 2, 3, 4] (by decide) rfl
    exact hret _ _ _ _ _ ls _ H locs _ _ d_Sj_fault_35 (by decide) (by decide) vc hP hD hS
  · have vc := vc.2 h
    exact hthr _ _ _ _ _ _ _ _ _ _ ls _ H locs ⟨x_IOB, (show ((189, "there is no such fault") : Nat × String) ∈ STRS by decide +kernel), d_Sj_fault_17, d_Sj_fault_20, d_Sj_fault_21, d_Sj_fault_23, d_Sj_fault_26⟩ hl.1 (Nat.le_of_ble_eq_true rfl) vc hP hD hS
set_option maxHeartbeats 4000000 in
theorem v_Sj_faultF (ch : Nat → Int32) (ma : Nat → Int32) (br : Nat → Int64) (tl : Int32) (x : Int32) (hpre : Hi0 br) : V_Sj_faultF ch ma br tl x (fun v ch' ma' br' tl' => ((sHas (nI (sumN (FS (BC br)) 960)) x = true ∧ ∃ i p k : Nat, x = nI i ∧ FaAt (BC br) i p k ∧ v = nI (10000 * (p / 24) + 100 * (p % 24) + k))) ∧ ch' = ch ∧ ma' = ma ∧ br' = br ∧ tl' = tl) (fun E ch' ma' br' tl' => ((E = IOB ∧ ¬ sHas (nI (sumN (FS (BC br)) 960)) x = true)) ∧ ch' = ch ∧ ma' = ma ∧ br' = br ∧ tl' = tl) := by
  have main : ∀ (post : Int32 → (Nat → Int32) → (Nat → Int32) → (Nat → Int64) → Int32 → Prop) (px : String → (Nat → Int32) → (Nat → Int32) → (Nat → Int64) → Int32 → Prop), (∀ v ch' ma' br' tl', (fun v ch' ma' br' tl' => ((sHas (nI (sumN (FS (BC br)) 960)) x = true ∧ ∃ i p k : Nat, x = nI i ∧ FaAt (BC br) i p k ∧ v = nI (10000 * (p / 24) + 100 * (p % 24) + k))) ∧ ch' = ch ∧ ma' = ma ∧ br' = br ∧ tl' = tl) v ch' ma' br' tl' → post v ch' ma' br' tl') → (∀ E ch' ma' br' tl', (fun E ch' ma' br' tl' => ((E = IOB ∧ ¬ sHas (nI (sumN (FS (BC br)) 960)) x = true)) ∧ ch' = ch ∧ ma' = ma ∧ br' = br ∧ tl' = tl) E ch' ma' br' tl' → px E ch' ma' br' tl') → V_Sj_faultF ch ma br tl x post px := by
    intro post px hpost hbadx
    unfold V_Sj_faultF
    have hbd : ∀ b, sumN (FS (BC br)) b ≤ 36 * b := sumN_bd (fun p => cN_le _ _)
    have hT := hbd 960
    have hcn : cntL br 960 = nI (sumN (FS (BC br)) 960) := cntL_sum 960 hpre
    have hS : sIn x 0 (cntL br 960 - 1) = true ↔ sHas (nI (sumN (FS (BC br)) 960)) x = true := by rw [hcn]; exact sIn_has (by omega)
    refine ⟨fun h => ?_, fun h => hbadx _ _ _ _ _ ⟨⟨rfl, fun q => ?_⟩, rfl, rfl, rfl, rfl⟩⟩
    · have hs := hS.mp (bI_ne.mp h)
      obtain ⟨i, hi, rfl⟩ := sHas_nI (by omega) hs
      exact ⟨⟨i, rfl, hi, hpre⟩, fun x1 h1 => hpost _ _ _ _ _ ⟨⟨hs, h1⟩, rfl, rfl, rfl, rfl⟩⟩
    · rw [hS.mpr q] at h; exact absurd h (by decide)
  exact main _ _ (fun _ _ _ _ _ h => h) (fun _ _ _ _ _ h => h)
theorem c_Sj_faultF (l : Launch) (hls : l.stackTraces = false) (D : va_G) (a : Nat → Nat) (cI cJ cZ : ClassId) (ch : Nat → Int32) (ma : Nat → Int32) (br : Nat → Int64) (tl : Int32) (x : Int32) (hpre : Hi0 br) : Tm (S := Int32) (SX := Unit) l y_Sj_fault b_Sj_fault 2 (some .int) 6 92 [.ref (a 24), .int x] D (tyA cI cJ cZ) (wX a ++ wJ a cI cJ ch ma br tl) (fun uu => (sHas (nI (sumN (FS (BC br)) 960)) x = true ∧ ∃ i p k : Nat, x = nI i ∧ FaAt (BC br) i p k ∧ uu = nI (10000 * (p / 24) + 100 * (p % 24) + k))) (fun uu => some (.int (uu))) (fun uu => (wX a ++ wJ a cI cJ ch ma br tl)) (fun E uu => (E = IOB ∧ ¬ sHas (nI (sumN (FS (BC br)) 960)) x = true)) (fun uu => (wX a ++ wJ a cI cJ ch ma br tl)) :=
  tm_of hls (by decide) rfl (Or.inr ⟨.int, fun uu => uu, rfl, fun _ => rfl, fun _ _ => rfl⟩) (Nat.le_of_ble_eq_true rfl) (by decide) (by decide) (fun p e s m below meth c ls Q A S hK hP hD hA hS hX hl hret hthr hout => g_Sj_faultF hls S (Nat.le_refl _) (Nat.le_refl _) ⟨Nat.le_refl _, Nat.le_refl _⟩ D a cI cJ cZ ch ma br tl x hK hP hD hA hS hX hl (v_Sj_faultF ch ma br tl x hpre)
    (fun v ch' ma' br' tl' ls1 pc H1 locs1 k j hd hk hj hv hP1 hD1 hS1 => by obtain ⟨hp, rfl, rfl, rfl, rfl⟩ := hv; exact hret v ls1 pc H1 locs1 k j _ (Or.inr ⟨_, rfl, rfl, hd⟩) hk hj hp hP1 hD1 hS1)
    (fun ch' ma' br' tl' E ik is ic tx pc ls1 rest H1 locs1 T hs hw hv hP1 hD1 hS1 => by obtain ⟨hp, rfl, rfl, rfl, rfl⟩ := hv; exact hthr () E ik is ic tx pc ls1 rest H1 locs1 T hs hw hp hP1 hD1 hS1)
    (fun ch' ma' br' tl' E ce q pc ls1 rest H1 locs1 k j hk hj h1 h2 h3 hv hP1 hD1 hS1 => by obtain ⟨hp, rfl, rfl, rfl, rfl⟩ := hv; exact hout () E ce q pc ls1 rest H1 locs1 k j hk hj h1 h2 h3 hp hP1 hD1 hS1))
def V_Sj_equalF (ki : Nat → Int32) (co : Nat → Int64) (pr : Nat → Int32) (pa : Nat → Int32) (tw : Nat → Int32) (nv : Int32) (sv : Int32) (x : Int32) (y : Int32) (post : Int32 → (Nat → Int32) → (Nat → Int64) → (Nat → Int32) → (Nat → Int32) → (Nat → Int32) → Int32 → Int32 → Prop) (px : String → (Nat → Int32) → (Nat → Int64) → (Nat → Int32) → (Nat → Int32) → (Nat → Int32) → Int32 → Int32 → Prop) : Prop :=
  (∃ J1 : Prop, (((bI (sHas nv x)) = 0 → J1) ∧ (¬ (bI (sHas nv x)) = 0 → ((¬ (bI (sHas nv y)) = 0 → ((∃ n k : Nat, n ≤ 40 ∧ k ≤ n ∧ nv = nI n ∧ sv = nI k ∧ (∀ j : Nat, j < 480 → vp_in (pa j) 40) ∧ PaOK pr pa ∧ TwOK ki co pr pa tw k) ∧ (∀ (f2 : Nat → Int32) (u3 : Int32), (∀ n : Nat, nv = nI n → n ≤ 40 → TwOK ki co pr pa f2 n ∧ u3 = nv) → ((vp_in x 40 ∧ vp_in y 40) ∧ post (bI (decide (f2 x.toNatClampNeg = f2 y.toNatClampNeg))) ki co pr pa f2 nv u3)))) ∧ ((bI (sHas nv y)) = 0 → J1)))) ∧ (J1 → px IAE ki co pr pa tw nv sv))
set_option maxHeartbeats 4000000 in
set_option maxRecDepth 100000 in
theorem g_Sj_equalF {p : Program} {l : Launch} {e : Env} {R : Room} {s : State} {m : MethodId} {args : Array Value} {below : List Frame} {meth : Method} {c : Code} {H : Heap} {locs : List Loc} {Q : State → Prop} {ls : Array Slot} {A : Nat → Prop} (hls : l.stackTraces = false) (S : CallFix p m c b_Sj_equal 3 s args W0 R_Sj) (hRf : 6 ≤ R.frames) (hRl : 90 ≤ R.locals) (hRc : 0 + 1 ≤ R.cells ∧ 0 + 6 ≤ R.slots) (D : va_G) (a : Nat → Nat) (cI cJ cZ : ClassId) (ki : Nat → Int32) (co : Nat → Int64) (pr : Nat → Int32) (pa : Nat → Int32) (tw : Nat → Int32) (nv : Int32) (sv : Int32) (x : Int32) (y : Int32) (hK : va_K D vwCl (tyA cI cJ cZ) s) (hP : va_P D vwCl (wX a ++ wV a cI cJ ki co pr pa tw nv sv) H) (hD : va_D A (wX a ++ wV a cI cJ ki co pr pa tw nv sv)) (hA : ∀ q, s.heap.size ≤ q → A q) (hS : va_S A s.heap H locs) (hX : eX A s s.heap) (hl : lv_has ls 3 [(0, .ref (a 24)), (1, .int x), (2, .int y)]) {post : Int32 → (Nat → Int32) → (Nat → Int64) → (Nat → Int32) → (Nat → Int32) → (Nat → Int32) → Int32 → Int32 → Prop} {px : String → (Nat → Int32) → (Nat → Int64) → (Nat → Int32) → (Nat → Int32) → (Nat → Int32) → Int32 → Int32 → Prop} (vc : V_Sj_equalF ki co pr pa tw nv sv x y post px)
    (hret : ∀ (v : Int32) (ki : Nat → Int32) (co : Nat → Int64) (pr : Nat → Int32) (pa : Nat → Int32) (tw : Nat → Int32) (nv : Int32) (sv : Int32) (ls : Array Slot) (pc : Nat) (H : Heap) (locs : List Loc) (k j : Nat), decode b_Sj_equal pc = .ok (.ireturn, 1) → k ≤ 1 → j ≤ 6 → post v ki co pr pa tw nv sv → va_P D vwCl (wX a ++ wV a cI cJ ki co pr pa tw nv sv) H → va_D A (wX a ++ wV a cI cJ ki co pr pa tw nv sv) → va_S A s.heap H locs → W p l e R s m args below meth c H locs k j Q (F0 m pc ls [.int v]))
    (hthr : ∀ (ki : Nat → Int32) (co : Nat → Int64) (pr : Nat → Int32) (pa : Nat → Int32) (tw : Nat → Int32) (nv : Int32) (sv : Int32) (E : String) (ik is ic : Nat) (tx : String) (pc : Nat) (ls : Array Slot) (rest : List Value) (H : Heap) (locs : List Loc), ThrOK E ik is ic tx b_Sj_equal pc → ls.size = 3 → (rest.map fun v => v.category).sum ≤ 8 → px E ki co pr pa tw nv sv → va_P D vwCl (wX a ++ wV a cI cJ ki co pr pa tw nv sv) H → va_D A (wX a ++ wV a cI cJ ki co pr pa tw nv sv) → va_S A s.heap H locs → W p l e R s m args below meth c H locs 0 0 Q (F0 m pc ls rest))
    (hout : ∀ (ki : Nat → Int32) (co : Nat → Int64) (pr : Nat → Int32) (pa : Nat → Int32) (tw : Nat → Int32) (nv : Int32) (sv : Int32) (E : String) (ce : Cell) (q : Addr) (pc : Nat) (ls : Array Slot) (rest : List Value) (H : Heap) (locs : List Loc) (k j : Nat), k ≤ 1 → j ≤ 6 → H[q]? = some ce → ce.vm = .none → s.vm.findClass E = some ce.cls → px E ki co pr pa tw nv sv → va_P D vwCl (wX a ++ wV a cI cJ ki co pr pa tw nv sv) H → va_D A (wX a ++ wV a cI cJ ki co pr pa tw nv sv) → va_S A s.heap H locs → vx_W p l e R s m args below meth c H locs k j Q (F0 m pc ls rest) q) : W p l e R s m args below meth c H locs 0 0 Q (F0 m 0 ls []) := by
  have hx := S.1
  have hb := S.2.1
  have hown := S.2.2.2.1
  have hts := S.2.2.2.2
  unfold V_Sj_equalF at vc
  refine lv_aload_n hx hb d_Sj_equal_0 rfl (lv_at hl 0 rfl) ?_
  refine va_get (D := D) (ci := 5) (v := .ref (a 0)) (C := R_Sj) (T := F_Sj) (N := 4) hx hb hts in_Sj hown hK hP 0 rfl rfl 0 (by decide) (hts _ fl_Sj_10) (fun _ h => h) rfl d_Sj_equal_1 ?_
  refine lv_iload_n hx hb d_Sj_equal_4 rfl (lv_at hl 1 rfl) ?_
  refine pc_V (As := [.int x]) (rest := []) S (c_Va_has l D a cI cJ cZ ki co pr pa tw nv sv x) wB_blind k_Va_has i_Va_has e_Va_has o_Va ml_Sj_159 hd_Va_has (Nat.le_trans (by decide) hRf) (Nat.le_trans (by decide) hRl) ⟨Nat.zero_le _, Nat.zero_le _⟩ (va_recv hK hP (q0 := 1) (ci := 4) rfl rfl) (wB_at (hP.sub (ws' := (wV a cI cJ ki co pr pa tw nv sv)) [1, 2, 3, 4, 5, 6] rfl) hK) hl.1 rfl (Nat.le_of_ble_eq_true rfl) d_Sj_equal_5 ?_
  obtain ⟨J1, vc, vc2⟩ := vc
  have jJ1 : ∀ (ls : Array Slot) (H : Heap) (locs : List Loc), J1 → lv_has ls 3 [(0, .ref (a 24)), (1, .int x), (2, .int y)] → va_P D vwCl (wX a ++ wV a cI cJ ki co pr pa tw nv sv) H → va_D A (wX a ++ wV a cI cJ ki co pr pa tw nv sv) → va_S A s.heap H locs → W p l e R s m args below meth c H locs 0 0 Q (F0 m 22 ls []) := by
    intro  ls H locs vc hl hP hD hS
    have vc := vc2  vc
    exact hthr _ _ _ _ _ _ _ _ _ _ _ _ _ ls _ H locs ⟨x_IAE, (show ((195, "there is no such value") : Nat × String) ∈ STRS by decide +kernel), d_Sj_equal_22, d_Sj_equal_25, d_Sj_equal_26, d_Sj_equal_28, d_Sj_equal_31⟩ hl.1 (Nat.le_of_ble_eq_true rfl) vc hP hD hS
  clear vc2
  refine lv_if_eq (tgt := 22) hx hb d_Sj_equal_8 (by decide) (fun h => ?_) (fun h => ?_)
  · have vc := vc.1 h
    exact jJ1 ls H locs vc (lv_sub hl [0, 1, 2] rfl) hP hD hS
  · have vc := vc.2 h
    refine lv_aload_n hx hb d_Sj_equal_11 rfl (lv_at hl 0 rfl) ?_
    refine va_get (D := D) (ci := 5) (v := .ref (a 0)) (C := R_Sj) (T := F_Sj) (N := 4) hx hb hts in_Sj hown hK hP 0 rfl rfl 0 (by decide) (hts _ fl_Sj_10) (fun _ h => h) rfl d_Sj_equal_12 ?_
    refine lv_iload_n hx hb d_Sj_equal_15 rfl (lv_at hl 2 rfl) ?_
    refine pc_V (As := [.int y]) (rest := []) S (c_Va_has l D a cI cJ cZ ki co pr pa tw nv sv y) wB_blind k_Va_has i_Va_has e_Va_has o_Va ml_Sj_159 hd_Va_has (Nat.le_trans (by decide) hRf) (Nat.le_trans (by decide) hRl) ⟨Nat.zero_le _, Nat.zero_le _⟩ (va_recv hK hP (q0 := 1) (ci := 4) rfl rfl) (wB_at (hP.sub (ws' := (wV a cI cJ ki co pr pa tw nv sv)) [1, 2, 3, 4, 5, 6] rfl) hK) hl.1 rfl (Nat.le_of_ble_eq_true rfl) d_Sj_equal_16 ?_
    refine lv_if_ne (tgt := 32) hx hb d_Sj_equal_19 (by decide) (fun h => ?_) (fun h => ?_)
    · have vc := vc.1 h
      refine lv_aload_n hx hb d_Sj_equal_32 rfl (lv_at hl 0 rfl) ?_
      refine va_get (D := D) (ci := 5) (v := .ref (a 0)) (C := R_Sj) (T := F_Sj) (N := 4) hx hb hts in_Sj hown hK hP 0 rfl rfl 0 (by decide) (hts _ fl_Sj_10) (fun _ h => h) rfl d_Sj_equal_33 ?_
      obtain ⟨hpre, vc⟩ := vc
      refine wc_V (As := []) (rest := []) (wr := (wX a)) S (c_Va_settle l D a cI cJ cZ ki co pr pa tw nv sv hpre) k_Va_settle i_Va_settle e_Va_settle o_Va ml_Sj_197 hd_Va_settle (Nat.le_trans (by decide) hRf) (Nat.le_trans (by decide) hRl) ⟨Nat.zero_le _, Nat.zero_le _⟩ (va_recv hK hP (q0 := 1) (ci := 4) rfl rfl) hK hP hD hS hA [1, 2, 3, 4, 5, 6] [0] rfl rfl rfl (by decide) (by decide) (by decide) hl.1 rfl (Nat.le_of_ble_eq_true rfl) d_Sj_equal_36 (fun u H locs hu hP hD hS => ?_)
      obtain ⟨f2, u3⟩ := u
      have vc := vc f2 u3 hu
      clear hu
      have hP : va_P D vwCl (wX a ++ wV a cI cJ ki co pr pa f2 nv u3) H := hP.sub [0, 1, 2, 3, 4, 5, 6] rfl
      have hD : va_D A (wX a ++ wV a cI cJ ki co pr pa f2 nv u3) := hD.sub [0, 1, 2, 3, 4, 5, 6] (by decide) rfl
      refine lv_aload_n hx hb d_Sj_equal_39 rfl (lv_at hl 0 rfl) ?_
      refine va_get (D := D) (ci := 5) (v := .ref (a 0)) (C := R_Sj) (T := F_Sj) (N := 4) hx hb hts in_Sj hown hK hP 0 rfl rfl 0 (by decide) (hts _ fl_Sj_10) (fun _ h => h) rfl d_Sj_equal_40 ?_
      refine lv_iload_n hx hb d_Sj_equal_43 rfl (lv_at hl 1 rfl) ?_
      refine lv_iload_n hx hb d_Sj_equal_44 rfl (lv_at hl 2 rfl) ?_
      obtain ⟨hpre, vc⟩ := vc
      refine pc_V (As := [.int x, .int y]) (rest := []) S (c_Va_areEqual l D a cI cJ cZ ki co pr pa f2 nv u3 x y hpre) wB_blind k_Va_areEqual i_Va_areEqual e_Va_areEqual o_Va ml_Sj_200 hd_Va_areEqual (Nat.le_trans (by decide) hRf) (Nat.le_trans (by decide) hRl) ⟨Nat.zero_le _, Nat.zero_le _⟩ (va_recv hK hP (q0 := 1) (ci := 4) rfl rfl) (wB_at (hP.sub (ws' := (wV a cI cJ ki co pr pa f2 nv u3)) [1, 2, 3, 4, 5, 6] rfl) hK) hl.1 rfl (Nat.le_of_ble_eq_true rfl) d_Sj_equal_45 ?_
      exact hret _ _ _ _ _ _ _ _ ls _ H locs _ _ d_Sj_equal_48 (by decide) (by decide) vc hP hD hS
    · have vc := vc.2 h
      exact jJ1 ls H locs vc (lv_sub hl [0, 1, 2] rfl) hP hD hS
set_option maxHeartbeats 4000000 in
theorem v_Sj_equalF (ki : Nat → Int32) (co : Nat → Int64) (pr : Nat → Int32) (pa : Nat → Int32) (tw : Nat → Int32) (nv : Int32) (sv : Int32) (x : Int32) (y : Int32) (hpre : (∃ n k : Nat, n ≤ 40 ∧ k ≤ n ∧ nv = nI n ∧ sv = nI k ∧ (∀ j : Nat, j < 480 → vp_in (pa j) 40) ∧ PaOK pr pa ∧ TwOK ki co pr pa tw k)) : V_Sj_equalF ki co pr pa tw nv sv x y (fun v ki' co' pr' pa' tw' nv' sv' => ∃ rr : Bool, v = bI rr ∧ (((sHas nv x = true ∧ sHas nv y = true) ∧ (∀ n : Nat, nv = nI n → n ≤ 40 → TwOK ki co pr pa tw' n ∧ sv' = nv) ∧ (rr = true ↔ tw' x.toNatClampNeg = tw' y.toNatClampNeg))) ∧ ki' = ki ∧ co' = co ∧ pr' = pr ∧ pa' = pa ∧ nv' = nv) (fun E ki' co' pr' pa' tw' nv' sv' => ((E = IAE ∧ ¬ (sHas nv x = true ∧ sHas nv y = true))) ∧ ki' = ki ∧ co' = co ∧ pr' = pr ∧ pa' = pa ∧ tw' = tw ∧ nv' = nv ∧ sv' = sv) := by
  have main : ∀ (post : Int32 → (Nat → Int32) → (Nat → Int64) → (Nat → Int32) → (Nat → Int32) → (Nat → Int32) → Int32 → Int32 → Prop) (px : String → (Nat → Int32) → (Nat → Int64) → (Nat → Int32) → (Nat → Int32) → (Nat → Int32) → Int32 → Int32 → Prop), (∀ v ki' co' pr' pa' tw' nv' sv', (fun v ki' co' pr' pa' tw' nv' sv' => ∃ rr : Bool, v = bI rr ∧ (((sHas nv x = true ∧ sHas nv y = true) ∧ (∀ n : Nat, nv = nI n → n ≤ 40 → TwOK ki co pr pa tw' n ∧ sv' = nv) ∧ (rr = true ↔ tw' x.toNatClampNeg = tw' y.toNatClampNeg))) ∧ ki' = ki ∧ co' = co ∧ pr' = pr ∧ pa' = pa ∧ nv' = nv) v ki' co' pr' pa' tw' nv' sv' → post v ki' co' pr' pa' tw' nv' sv') → (∀ E ki' co' pr' pa' tw' nv' sv', (fun E ki' co' pr' pa' tw' nv' sv' => ((E = IAE ∧ ¬ (sHas nv x = true ∧ sHas nv y = true))) ∧ ki' = ki ∧ co' = co ∧ pr' = pr ∧ pa' = pa ∧ tw' = tw ∧ nv' = nv ∧ sv' = sv) E ki' co' pr' pa' tw' nv' sv' → px E ki' co' pr' pa' tw' nv' sv') → V_Sj_equalF ki co pr pa tw nv sv x y post px := by
    intro post px hpost hbadx
    unfold V_Sj_equalF
    refine ⟨¬ (sHas nv x = true ∧ sHas nv y = true), ⟨fun h q => ?_, fun h => ⟨fun h2 => ⟨hpre, fun f2 u3 hp => ?_⟩, fun h2 q => ?_⟩⟩, fun hJ => hbadx _ _ _ _ _ _ _ _ ⟨⟨rfl, hJ⟩, rfl, rfl, rfl, rfl, rfl, rfl, rfl⟩⟩
    · rw [q.1] at h; exact absurd h (by decide)
    · obtain ⟨n, k, hn, _, hnv, _⟩ := hpre
      have h1 := bI_ne.mp h
      have h2' := bI_ne.mp h2
      have e : nv.toInt ≤ 40 := by rw [hnv, nI_toInt (by omega)]; omega
      refine ⟨⟨vp_sHas e h1, vp_sHas e h2'⟩, ?_⟩
      exact hpost _ _ _ _ _ _ _ _ ⟨decide (f2 x.toNatClampNeg = f2 y.toNatClampNeg), rfl, ⟨⟨h1, h2'⟩, hp, decide_eq_true_iff⟩, rfl, rfl, rfl, rfl, rfl⟩
    · rw [q.2] at h2; exact absurd h2 (by decide)
  exact main _ _ (fun _ _ _ _ _ _ _ _ h => h) (fun _ _ _ _ _ _ _ _ h => h)
theorem c_Sj_equalF (l : Launch) (hls : l.stackTraces = false) (D : va_G) (a : Nat → Nat) (cI cJ cZ : ClassId) (ki : Nat → Int32) (co : Nat → Int64) (pr : Nat → Int32) (pa : Nat → Int32) (tw : Nat → Int32) (nv : Int32) (sv : Int32) (x : Int32) (y : Int32) (hpre : (∃ n k : Nat, n ≤ 40 ∧ k ≤ n ∧ nv = nI n ∧ sv = nI k ∧ (∀ j : Nat, j < 480 → vp_in (pa j) 40) ∧ PaOK pr pa ∧ TwOK ki co pr pa tw k)) : Tm (S := Bool × (Nat → Int32) × Int32) (SX := Unit) l y_Sj_equal b_Sj_equal 3 (some .boolean) 6 90 [.ref (a 24), .int x, .int y] D (tyA cI cJ cZ) (wX a ++ wV a cI cJ ki co pr pa tw nv sv) (fun uu => ((sHas nv x = true ∧ sHas nv y = true) ∧ (∀ n : Nat, nv = nI n → n ≤ 40 → TwOK ki co pr pa uu.2.1 n ∧ uu.2.2 = nv) ∧ (uu.1 = true ↔ uu.2.1 x.toNatClampNeg = uu.2.1 y.toNatClampNeg))) (fun uu => some (.int (bI uu.1))) (fun uu => (wX a ++ wV a cI cJ ki co pr pa uu.2.1 nv uu.2.2)) (fun E uu => (E = IAE ∧ ¬ (sHas nv x = true ∧ sHas nv y = true))) (fun uu => (wX a ++ wV a cI cJ ki co pr pa tw nv sv)) :=
  tm_of hls (by decide) rfl (Or.inr ⟨.boolean, fun uu => bI (uu.1), rfl, fun _ => rfl, fun _ _ => bI_nar _⟩) (Nat.le_of_ble_eq_true rfl) (by decide) (by decide) (fun p e s m below meth c ls Q A S hK hP hD hA hS hX hl hret hthr hout => g_Sj_equalF hls S (Nat.le_refl _) (Nat.le_refl _) ⟨Nat.le_refl _, Nat.le_refl _⟩ D a cI cJ cZ ki co pr pa tw nv sv x y hK hP hD hA hS hX hl (v_Sj_equalF ki co pr pa tw nv sv x y hpre)
    (fun v ki' co' pr' pa' tw' nv' sv' ls1 pc H1 locs1 k j hd hk hj hv hP1 hD1 hS1 => by obtain ⟨rr, rfl, hp, rfl, rfl, rfl, rfl, rfl⟩ := hv; exact hret (rr, tw', sv') ls1 pc H1 locs1 k j _ (Or.inr ⟨_, rfl, rfl, hd⟩) hk hj hp hP1 hD1 hS1)
    (fun ki' co' pr' pa' tw' nv' sv' E ik is ic tx pc ls1 rest H1 locs1 T hs hw hv hP1 hD1 hS1 => by obtain ⟨hp, rfl, rfl, rfl, rfl, rfl, rfl, rfl⟩ := hv; exact hthr () E ik is ic tx pc ls1 rest H1 locs1 T hs hw hp hP1 hD1 hS1)
    (fun ki' co' pr' pa' tw' nv' sv' E ce q pc ls1 rest H1 locs1 k j hk hj h1 h2 h3 hv hP1 hD1 hS1 => by obtain ⟨hp, rfl, rfl, rfl, rfl, rfl, rfl, rfl⟩ := hv; exact hout () E ce q pc ls1 rest H1 locs1 k j hk hj h1 h2 h3 hp hP1 hD1 hS1))
def V_Sj_judgeF (ki : Nat → Int32) (co : Nat → Int64) (pr : Nat → Int32) (pa : Nat → Int32) (tw : Nat → Int32) (nv : Int32) (sv : Int32) (ru : Nat → Int32) (le : Nat → Int32) (li : Nat → Int32) (bn : Nat → Int32) (ip : Nat → Int32) (aw : Nat → Int32) (ns : Int32) (ch : Nat → Int32) (ma : Nat → Int32) (br : Nat → Int64) (tl : Int32) (pn : Nat → Int32) (pl : Nat → Int32) (po : Nat → Int32) (pf : Nat → Int32) (pt : Nat → Int32) (x : Int32) (y : Int32) (post : Int32 → (Nat → Int32) → (Nat → Int64) → (Nat → Int32) → (Nat → Int32) → (Nat → Int32) → Int32 → Int32 → (Nat → Int32) → (Nat → Int32) → (Nat → Int32) → (Nat → Int32) → (Nat → Int32) → (Nat → Int32) → Int32 → (Nat → Int32) → (Nat → Int32) → (Nat → Int64) → Int32 → (Nat → Int32) → (Nat → Int32) → (Nat → Int32) → (Nat → Int32) → (Nat → Int32) → Prop) (px : String → (Nat → Int32) → (Nat → Int64) → (Nat → Int32) → (Nat → Int32) → (Nat → Int32) → Int32 → Int32 → (Nat → Int32) → (Nat → Int32) → (Nat → Int32) → (Nat → Int32) → (Nat → Int32) → (Nat → Int32) → Int32 → (Nat → Int32) → (Nat → Int32) → (Nat → Int64) → Int32 → (Nat → Int32) → (Nat → Int32) → (Nat → Int32) → (Nat → Int32) → (Nat → Int32) → Prop) : Prop :=
  (∃ J1 : Prop, (((bI (sHas ns x)) = 0 → J1) ∧ (¬ (bI (sHas ns x)) = 0 → ((¬ (bI (sHas nv y)) = 0 → ((∃ n : Nat, n ≤ 24 ∧ ns = nI n ∧ vp_in x n ∧ LeOK le) ∧ (∀ (t2 : Bool) (f3 : Nat → Int32) (f4 : Nat → Int32), (∀ n : Nat, ns = nI n → n < 2 ^ 31 → (t2 = true ↔ ∃ i, i < n ∧ (i = x.toNatClampNeg ∨ Relation.TransGen (LdR n (fun s => sLIP ru le li bn s ||| sLEW ru le li bn s)) x.toNatClampNeg i) ∧ Relation.TransGen (LdR n (sLIP ru le li bn)) i i)) → (((bI t2) = 0 → ((∃ n0 m0 s0 v0 k0 : Nat, JP ki co pr pa pn po ru le li bn nv ns 0 29 x y 1 n0 m0 s0 v0 1 ∧ Zst (fillN 0 960 ch) (fillN 0 960 ma) (fillL 0 960 br) 0 ∧ k0 ≤ n0 ∧ sv = nI k0 ∧ TwOK ki co pr pa tw k0) ∧ (∀ (t5 : Bool) (f6 : Nat → Int32) (f7 : Nat → Int32) (f8 : Nat → Int64) (u9 : Int32) (f10 : Nat → Int32) (u11 : Int32), (((∀ n : Nat, nv = nI n → n ≤ 40 → TwOK ki co pr pa f10 n ∧ u11 = nv) ∧ u9 = 0 ∧ (t5 = false → Zst f6 f7 f8 u9) ∧ ∀ (G : Sp) (R : Nat → Nat → Prop) (lv : Nat → Nat), (∃ va mk, G = gC ki co pr pa f10 pn pl po pf pt ru le li bn nv.toNatClampNeg va mk) → Ctx G R lv → R x.toNatClampNeg y.toNatClampNeg → Jdone G R x.toNatClampNeg y.toNatClampNeg t5 f6 f7 f8)) → ((¬ (bI t5) = 0 → (vp_in (y * 24 + x) 960 ∧ post (bI (decide (f8 (y * 24 + x : Int32).toNatClampNeg = 0))) ki co pr pa f10 nv u11 ru le li bn f3 f4 ns f6 f7 f8 u9 pn pl po pf pt)) ∧ ((bI t5) = 0 → px UOE ki co pr pa f10 nv u11 ru le li bn f3 f4 ns f6 f7 f8 u9 pn pl po pf pt))))) ∧ (¬ (bI t2) = 0 → px ISE ki co pr pa tw nv sv ru le li bn f3 f4 ns (fillN 0 960 ch) (fillN 0 960 ma) (fillL 0 960 br) 0 pn pl po pf pt))))) ∧ ((bI (sHas nv y)) = 0 → J1)))) ∧ (J1 → px IAE ki co pr pa tw nv sv ru le li bn ip aw ns ch ma br tl pn pl po pf pt))
set_option maxHeartbeats 4000000 in
set_option maxRecDepth 100000 in
theorem g_Sj_judgeF {p : Program} {l : Launch} {e : Env} {R : Room} {s : State} {m : MethodId} {args : Array Value} {below : List Frame} {meth : Method} {c : Code} {H : Heap} {locs : List Loc} {Q : State → Prop} {ls : Array Slot} {A : Nat → Prop} (hls : l.stackTraces = false) (S : CallFix p m c b_Sj_judge 3 s args W0 R_Sj) (hRf : 166 ≤ R.frames) (hRl : 6143 ≤ R.locals) (hRc : 0 + 1 ≤ R.cells ∧ 0 + 6 ≤ R.slots) (D : va_G) (a : Nat → Nat) (cI cJ cZ : ClassId) (ki : Nat → Int32) (co : Nat → Int64) (pr : Nat → Int32) (pa : Nat → Int32) (tw : Nat → Int32) (nv : Int32) (sv : Int32) (ru : Nat → Int32) (le : Nat → Int32) (li : Nat → Int32) (bn : Nat → Int32) (ip : Nat → Int32) (aw : Nat → Int32) (ns : Int32) (ch : Nat → Int32) (ma : Nat → Int32) (br : Nat → Int64) (tl : Int32) (pn : Nat → Int32) (pl : Nat → Int32) (po : Nat → Int32) (pf : Nat → Int32) (pt : Nat → Int32) (x : Int32) (y : Int32) (hK : va_K D vwCl (tyA cI cJ cZ) s) (hP : va_P D vwCl (wX a ++ wV a cI cJ ki co pr pa tw nv sv ++ wS a cI ru le li bn ip aw ns ++ wJ a cI cJ ch ma br tl ++ wL a ++ wP a cI cZ pn pl po pf pt) H) (hD : va_D A (wX a ++ wV a cI cJ ki co pr pa tw nv sv ++ wS a cI ru le li bn ip aw ns ++ wJ a cI cJ ch ma br tl ++ wL a ++ wP a cI cZ pn pl po pf pt)) (hA : ∀ q, s.heap.size ≤ q → A q) (hS : va_S A s.heap H locs) (hX : eX A s s.heap) (hl : lv_has ls 3 [(0, .ref (a 24)), (1, .int x), (2, .int y)]) {post : Int32 → (Nat → Int32) → (Nat → Int64) → (Nat → Int32) → (Nat → Int32) → (Nat → Int32) → Int32 → Int32 → (Nat → Int32) → (Nat → Int32) → (Nat → Int32) → (Nat → Int32) → (Nat → Int32) → (Nat → Int32) → Int32 → (Nat → Int32) → (Nat → Int32) → (Nat → Int64) → Int32 → (Nat → Int32) → (Nat → Int32) → (Nat → Int32) → (Nat → Int32) → (Nat → Int32) → Prop} {px : String → (Nat → Int32) → (Nat → Int64) → (Nat → Int32) → (Nat → Int32) → (Nat → Int32) → Int32 → Int32 → (Nat → Int32) → (Nat → Int32) → (Nat → Int32) → (Nat → Int32) → (Nat → Int32) → (Nat → Int32) → Int32 → (Nat → Int32) → (Nat → Int32) → (Nat → Int64) → Int32 → (Nat → Int32) → (Nat → Int32) → (Nat → Int32) → (Nat → Int32) → (Nat → Int32) → Prop} (vc : V_Sj_judgeF ki co pr pa tw nv sv ru le li bn ip aw ns ch ma br tl pn pl po pf pt x y post px)
    (hret : ∀ (v : Int32) (ki : Nat → Int32) (co : Nat → Int64) (pr : Nat → Int32) (pa : Nat → Int32) (tw : Nat → Int32) (nv : Int32) (sv : Int32) (ru : Nat → Int32) (le : Nat → Int32) (li : Nat → Int32) (bn : Nat → Int32) (ip : Nat → Int32) (aw : Nat → Int32) (ns : Int32) (ch : Nat → Int32) (ma : Nat → Int32) (br : Nat → Int64) (tl : Int32) (pn : Nat → Int32) (pl : Nat → Int32) (po : Nat → Int32) (pf : Nat → Int32) (pt : Nat → Int32) (ls : Array Slot) (pc : Nat) (H : Heap) (locs : List Loc) (k j : Nat), decode b_Sj_judge pc = .ok (.ireturn, 1) → k ≤ 1 → j ≤ 6 → post v ki co pr pa tw nv sv ru le li bn ip aw ns ch ma br tl pn pl po pf pt → va_P D vwCl (wX a ++ wV a cI cJ ki co pr pa tw nv sv ++ wS a cI ru le li bn ip aw ns ++ wJ a cI cJ ch ma br tl ++ wL a ++ wP a cI cZ pn pl po pf pt) H → va_D A (wX a ++ wV a cI cJ ki co pr pa tw nv sv ++ wS a cI ru le li bn ip aw ns ++ wJ a cI cJ ch ma br tl ++ wL a ++ wP a cI cZ pn pl po pf pt) → va_S A s.heap H locs → W p l e R s m args below meth c H locs k j Q (F0 m pc ls [.int v]))
    (hthr : ∀ (ki : Nat → Int32) (co : Nat → Int64) (pr : Nat → Int32) (pa : Nat → Int32) (tw : Nat → Int32) (nv : Int32) (sv : Int32) (ru : Nat → Int32) (le : Nat → Int32) (li : Nat → Int32) (bn : Nat → Int32) (ip : Nat → Int32) (aw : Nat → Int32) (ns : Int32) (ch : Nat → Int32) (ma : Nat → Int32) (br : Nat → Int64) (tl : Int32) (pn : Nat → Int32) (pl : Nat → Int32) (po : Nat → Int32) (pf : Nat → Int32) (pt : Nat → Int32) (E : String) (ik is ic : Nat) (tx : String) (pc : Nat) (ls : Array Slot) (rest : List Value) (H : Heap) (locs : List Loc), ThrOK E ik is ic tx b_Sj_judge pc → ls.size = 3 → (rest.map fun v => v.category).sum ≤ 8 → px E ki co pr pa tw nv sv ru le li bn ip aw ns ch ma br tl pn pl po pf pt → va_P D vwCl (wX a ++ wV a cI cJ ki co pr pa tw nv sv ++ wS a cI ru le li bn ip aw ns ++ wJ a cI cJ ch ma br tl ++ wL a ++ wP a cI cZ pn pl po pf pt) H → va_D A (wX a ++ wV a cI cJ ki co pr pa tw nv sv ++ wS a cI ru le li bn ip aw ns ++ wJ a cI cJ ch ma br tl ++ wL a ++ wP a cI cZ pn pl po pf pt) → va_S A s.heap H locs → W p l e R s m args below meth c H locs 0 0 Q (F0 m pc ls rest))
    (hout : ∀ (ki : Nat → Int32) (co : Nat → Int64) (pr : Nat → Int32) (pa : Nat → Int32) (tw : Nat → Int32) (nv : Int32) (sv : Int32) (ru : Nat → Int32) (le : Nat → Int32) (li : Nat → Int32) (bn : Nat → Int32) (ip : Nat → Int32) (aw : Nat → Int32) (ns : Int32) (ch : Nat → Int32) (ma : Nat → Int32) (br : Nat → Int64) (tl : Int32) (pn : Nat → Int32) (pl : Nat → Int32) (po : Nat → Int32) (pf : Nat → Int32) (pt : Nat → Int32) (E : String) (ce : Cell) (q : Addr) (pc : Nat) (ls : Array Slot) (rest : List Value) (H : Heap) (locs : List Loc) (k j : Nat), k ≤ 1 → j ≤ 6 → H[q]? = some ce → ce.vm = .none → s.vm.findClass E = some ce.cls → px E ki co pr pa tw nv sv ru le li bn ip aw ns ch ma br tl pn pl po pf pt → va_P D vwCl (wX a ++ wV a cI cJ ki co pr pa tw nv sv ++ wS a cI ru le li bn ip aw ns ++ wJ a cI cJ ch ma br tl ++ wL a ++ wP a cI cZ pn pl po pf pt) H → va_D A (wX a ++ wV a cI cJ ki co pr pa tw nv sv ++ wS a cI ru le li bn ip aw ns ++ wJ a cI cJ ch ma br tl ++ wL a ++ wP a cI cZ pn pl po pf pt) → va_S A s.heap H locs → vx_W p l e R s m args below meth c H locs k j Q (F0 m pc ls rest) q) : W p l e R s m args below meth c H locs 0 0 Q (F0 m 0 ls []) := by
  have hx := S.1
  have hb := S.2.1
  have hown := S.2.2.2.1
  have hts := S.2.2.2.2
  unfold V_Sj_judgeF at vc
  refine lv_aload_n hx hb d_Sj_judge_0 rfl (lv_at hl 0 rfl) ?_
  refine va_get (D := D) (ci := 5) (v := .ref (a 12)) (C := R_Sj) (T := F_Sj) (N := 4) hx hb hts in_Sj hown hK hP 0 rfl rfl 2 (by decide) (hts _ fl_Sj_26) (fun _ h => h) rfl d_Sj_judge_1 ?_
  refine lv_iload_n hx hb d_Sj_judge_4 rfl (lv_at hl 1 rfl) ?_
  refine pc_V (As := [.int x]) (rest := []) S (c_Sc_has l D a cI cJ cZ ru le li bn ip aw ns x) wB_blind k_Sc_has i_Sc_has e_Sc_has o_Sc ml_Sj_131 hd_Sc_has (Nat.le_trans (by decide) hRf) (Nat.le_trans (by decide) hRl) ⟨Nat.zero_le _, Nat.zero_le _⟩ (va_recv hK hP (q0 := 7) (ci := 3) rfl rfl) (wB_at (hP.sub (ws' := (wS a cI ru le li bn ip aw ns)) [7, 8, 9, 10, 11, 12, 13] rfl) hK) hl.1 rfl (Nat.le_of_ble_eq_true rfl) d_Sj_judge_5 ?_
  obtain ⟨J1, vc, vc2⟩ := vc
  have jJ1 : ∀ (ls : Array Slot) (H : Heap) (locs : List Loc), J1 → lv_has ls 3 [(0, .ref (a 24)), (1, .int x), (2, .int y)] → va_P D vwCl (wX a ++ wV a cI cJ ki co pr pa tw nv sv ++ wS a cI ru le li bn ip aw ns ++ wJ a cI cJ ch ma br tl ++ wL a ++ wP a cI cZ pn pl po pf pt) H → va_D A (wX a ++ wV a cI cJ ki co pr pa tw nv sv ++ wS a cI ru le li bn ip aw ns ++ wJ a cI cJ ch ma br tl ++ wL a ++ wP a cI cZ pn pl po pf pt) → va_S A s.heap H locs → W p l e R s m args below meth c H locs 0 0 Q (F0 m 22 ls []) := by
    intro  ls H locs vc hl hP hD hS
    have vc := vc2  vc
    exact hthr _ _ _ _ _ _ _ _ _ _ _ _ _ _ _ _ _ _ _ _ _ _ _ _ _ _ _ _ _ ls _ H locs ⟨x_IAE, (show ((160, "there is no such schema or value") : Nat × String) ∈ STRS by decide +kernel), d_Sj_judge_22, d_Sj_judge_25, d_Sj_judge_26, d_Sj_judge_28, d_Sj_judge_31⟩ hl.1 (Nat.le_of_ble_eq_true rfl) vc hP hD hS
  clear vc2
  refine lv_if_eq (tgt := 22) hx hb d_Sj_judge_8 (by decide) (fun h => ?_) (fun h => ?_)
  · have vc := vc.1 h
    exact jJ1 ls H locs vc (lv_sub hl [0, 1, 2] rfl) hP hD hS
  · have vc := vc.2 h
    refine lv_aload_n hx hb d_Sj_judge_11 rfl (lv_at hl 0 rfl) ?_
    refine va_get (D := D) (ci := 5) (v := .ref (a 0)) (C := R_Sj) (T := F_Sj) (N := 4) hx hb hts in_Sj hown hK hP 0 rfl rfl 0 (by decide) (hts _ fl_Sj_10) (fun _ h => h) rfl d_Sj_judge_12 ?_
    refine lv_iload_n hx hb d_Sj_judge_15 rfl (lv_at hl 2 rfl) ?_
    refine pc_V (As := [.int y]) (rest := []) S (c_Va_has l D a cI cJ cZ ki co pr pa tw nv sv y) wB_blind k_Va_has i_Va_has e_Va_has o_Va ml_Sj_159 hd_Va_has (Nat.le_trans (by decide) hRf) (Nat.le_trans (by decide) hRl) ⟨Nat.zero_le _, Nat.zero_le _⟩ (va_recv hK hP (q0 := 1) (ci := 4) rfl rfl) (wB_at (hP.sub (ws' := (wV a cI cJ ki co pr pa tw nv sv)) [1, 2, 3, 4, 5, 6] rfl) hK) hl.1 rfl (Nat.le_of_ble_eq_true rfl) d_Sj_judge_16 ?_
    refine lv_if_ne (tgt := 32) hx hb d_Sj_judge_19 (by decide) (fun h => ?_) (fun h => ?_)
    · have vc := vc.1 h
      refine lv_aload_n hx hb d_Sj_judge_32 rfl (lv_at hl 0 rfl) ?_
      refine va_get (D := D) (ci := 5) (v := .ref (a 20)) (C := R_Sj) (T := F_Sj) (N := 4) hx hb hts in_Sj hown hK hP 0 rfl rfl 3 (by decide) (hts _ fl_Sj_40) (fun _ h => h) rfl d_Sj_judge_33 ?_
      refine wc_V (As := []) (rest := []) (wr := (wX a ++ wV a cI cJ ki co pr pa tw nv sv ++ wS a cI ru le li bn ip aw ns ++ wL a ++ wP a cI cZ pn pl po pf pt)) S (c_Ju_forget l D a cI cJ cZ ch ma br tl) k_Ju_forget i_Ju_forget e_Ju_forget o_Ju ml_Sj_162 hd_Ju_forget (Nat.le_trans (by decide) hRf) (Nat.le_trans (by decide) hRl) ⟨Nat.zero_le _, Nat.zero_le _⟩ (va_recv hK hP (q0 := 14) (ci := 0) rfl rfl) hK hP hD hS hA [14, 15, 16, 17] [0, 1, 2, 3, 4, 5, 6, 7, 8, 9, 10, 11, 12, 13, 18, 19, 20, 21, 22, 23, 24] rfl rfl rfl (by decide) (by decide) (by decide) hl.1 rfl (Nat.le_of_ble_eq_true rfl) d_Sj_judge_36 (fun _ H locs _ hP hD hS => ?_)
      have hP : va_P D vwCl (wX a ++ wV a cI cJ ki co pr pa tw nv sv ++ wS a cI ru le li bn ip aw ns ++ wJ a cI cJ (fillN 0 960 ch) (fillN 0 960 ma) (fillL 0 960 br) 0 ++ wL a ++ wP a cI cZ pn pl po pf pt) H := hP.sub [0, 1, 2, 3, 4, 5, 6, 7, 8, 9, 10, 11, 12, 13, 21, 22, 23, 24, 14, 15, 16, 17, 18, 19, 20] rfl
      have hD : va_D A (wX a ++ wV a cI cJ ki co pr pa tw nv sv ++ wS a cI ru le li bn ip aw ns ++ wJ a cI cJ (fillN 0 960 ch) (fillN 0 960 ma) (fillL 0 960 br) 0 ++ wL a ++ wP a cI cZ pn pl po pf pt) := hD.sub [0, 1, 2, 3, 4, 5, 6, 7, 8, 9, 10, 11, 12, 13, 21, 22, 23, 24, 14, 15, 16, 17, 18, 19, 20] (by decide) rfl
      refine lv_aload_n hx hb d_Sj_judge_39 rfl (lv_at hl 0 rfl) ?_
      refine va_get (D := D) (ci := 5) (v := .ref (a 12)) (C := R_Sj) (T := F_Sj) (N := 4) hx hb hts in_Sj hown hK hP 0 rfl rfl 2 (by decide) (hts _ fl_Sj_26) (fun _ h => h) rfl d_Sj_judge_40 ?_
      refine lv_iload_n hx hb d_Sj_judge_43 rfl (lv_at hl 1 rfl) ?_
      obtain ⟨hpre, vc⟩ := vc
      refine wc_V (As := [.int x]) (rest := []) (wr := (wX a ++ wV a cI cJ ki co pr pa tw nv sv ++ wJ a cI cJ (fillN 0 960 ch) (fillN 0 960 ma) (fillL 0 960 br) 0 ++ wL a ++ wP a cI cZ pn pl po pf pt)) S (c_Sc_meetsCircle l D a cI cJ cZ ru le li bn ip aw ns x hpre) k_Sc_meetsCircle i_Sc_meetsCircle e_Sc_meetsCircle o_Sc ml_Sj_165 hd_Sc_meetsCircle (Nat.le_trans (by decide) hRf) (Nat.le_trans (by decide) hRl) ⟨Nat.zero_le _, Nat.zero_le _⟩ (va_recv hK hP (q0 := 7) (ci := 3) rfl rfl) hK hP hD hS hA [7, 8, 9, 10, 11, 12, 13] [0, 1, 2, 3, 4, 5, 6, 14, 15, 16, 17, 18, 19, 20, 21, 22, 23, 24] rfl rfl rfl (by decide) (by decide) (by decide) hl.1 rfl (Nat.le_of_ble_eq_true rfl) d_Sj_judge_44 (fun u H locs hu hP hD hS => ?_)
      obtain ⟨t2, f3, f4⟩ := u
      have vc := vc t2 f3 f4 hu
      clear hu
      have hP : va_P D vwCl (wX a ++ wV a cI cJ ki co pr pa tw nv sv ++ wS a cI ru le li bn f3 f4 ns ++ wJ a cI cJ (fillN 0 960 ch) (fillN 0 960 ma) (fillL 0 960 br) 0 ++ wL a ++ wP a cI cZ pn pl po pf pt) H := hP.sub [0, 1, 2, 3, 4, 5, 6, 18, 19, 20, 21, 22, 23, 24, 7, 8, 9, 10, 11, 12, 13, 14, 15, 16, 17] rfl
      have hD : va_D A (wX a ++ wV a cI cJ ki co pr pa tw nv sv ++ wS a cI ru le li bn f3 f4 ns ++ wJ a cI cJ (fillN 0 960 ch) (fillN 0 960 ma) (fillL 0 960 br) 0 ++ wL a ++ wP a cI cZ pn pl po pf pt) := hD.sub [0, 1, 2, 3, 4, 5, 6, 18, 19, 20, 21, 22, 23, 24, 7, 8, 9, 10, 11, 12, 13, 14, 15, 16, 17] (by decide) rfl
      refine lv_if_eq (tgt := 60) hx hb d_Sj_judge_47 (by decide) (fun h => ?_) (fun h => ?_)
      · have vc := vc.1 h
        refine lv_aload_n hx hb d_Sj_judge_60 rfl (lv_at hl 0 rfl) ?_
        refine va_get (D := D) (ci := 5) (v := .ref (a 20)) (C := R_Sj) (T := F_Sj) (N := 4) hx hb hts in_Sj hown hK hP 0 rfl rfl 3 (by decide) (hts _ fl_Sj_40) (fun _ h => h) rfl d_Sj_judge_61 ?_
        refine lv_iload_n hx hb d_Sj_judge_64 rfl (lv_at hl 1 rfl) ?_
        refine lv_iload_n hx hb d_Sj_judge_65 rfl (lv_at hl 2 rfl) ?_
        obtain ⟨hpre, vc⟩ := vc
        refine ec_V (As := [.int x, .int y]) (rest := []) (wr := (wX a)) S (c_Ju_begin l D a cI cJ cZ (fillN 0 960 ch) (fillN 0 960 ma) (fillL 0 960 br) 0 ki co pr pa tw nv sv ru le li bn f3 f4 ns pn pl po pf pt x y hpre) k_Ju_begin i_Ju_begin e_Ju_begin o_Ju ml_Sj_170 hd_Ju_begin (Nat.le_trans (by decide) hRf) (Nat.le_trans (by decide) hRl) ⟨Nat.zero_le _, Nat.zero_le _⟩ (va_recv hK hP (q0 := 14) (ci := 0) rfl rfl) hK hP hD hS hA hX [14, 15, 16, 17, 1, 2, 3, 4, 5, 6, 7, 8, 9, 10, 11, 12, 13, 18, 19, 20, 21, 22, 23, 24] [0] rfl rfl rfl (by decide) (by decide) (by decide) hl.1 rfl (Nat.le_of_ble_eq_true rfl) d_Sj_judge_66 (fun u H locs hu hP hD hS => ?_)
        obtain ⟨t5, f6, f7, f8, u9, f10, u11⟩ := u
        have vc := vc t5 f6 f7 f8 u9 f10 u11 hu
        clear hu
        have hP : va_P D vwCl (wX a ++ wV a cI cJ ki co pr pa f10 nv u11 ++ wS a cI ru le li bn f3 f4 ns ++ wJ a cI cJ f6 f7 f8 u9 ++ wL a ++ wP a cI cZ pn pl po pf pt) H := hP.sub [0, 5, 6, 7, 8, 9, 10, 11, 12, 13, 14, 15, 16, 17, 1, 2, 3, 4, 18, 19, 20, 21, 22, 23, 24] rfl
        have hD : va_D A (wX a ++ wV a cI cJ ki co pr pa f10 nv u11 ++ wS a cI ru le li bn f3 f4 ns ++ wJ a cI cJ f6 f7 f8 u9 ++ wL a ++ wP a cI cZ pn pl po pf pt) := hD.sub [0, 5, 6, 7, 8, 9, 10, 11, 12, 13, 14, 15, 16, 17, 1, 2, 3, 4, 18, 19, 20, 21, 22, 23, 24] (by decide) rfl
        refine lv_if_ne (tgt := 82) hx hb d_Sj_judge_69 (by decide) (fun h => ?_) (fun h => ?_)
        · have vc := vc.1 h
          refine lv_aload_n hx hb d_Sj_judge_82 rfl (lv_at hl 0 rfl) ?_
          refine va_get (D := D) (ci := 5) (v := .ref (a 20)) (C := R_Sj) (T := F_Sj) (N := 4) hx hb hts in_Sj hown hK hP 0 rfl rfl 3 (by decide) (hts _ fl_Sj_40) (fun _ h => h) rfl d_Sj_judge_83 ?_
          refine lv_iload_n hx hb d_Sj_judge_86 rfl (lv_at hl 1 rfl) ?_
          refine lv_iload_n hx hb d_Sj_judge_87 rfl (lv_at hl 2 rfl) ?_
          obtain ⟨hpre, vc⟩ := vc
          refine pc_V (As := [.int x, .int y]) (rest := []) S (c_Ju_isValid l D a cI cJ cZ f6 f7 f8 u9 x y hpre) wB_blind k_Ju_isValid i_Ju_isValid e_Ju_isValid o_Ju ml_Sj_178 hd_Ju_isValid (Nat.le_trans (by decide) hRf) (Nat.le_trans (by decide) hRl) ⟨Nat.zero_le _, Nat.zero_le _⟩ (va_recv hK hP (q0 := 14) (ci := 0) rfl rfl) (wB_at (hP.sub (ws' := (wJ a cI cJ f6 f7 f8 u9)) [14, 15, 16, 17] rfl) hK) hl.1 rfl (Nat.le_of_ble_eq_true rfl) d_Sj_judge_88 ?_
          exact hret _ _ _ _ _ _ _ _ _ _ _ _ _ _ _ _ _ _ _ _ _ _ _ _ ls _ H locs _ _ d_Sj_judge_91 (by decide) (by decide) vc hP hD hS
        · have vc := vc.2 h
          exact hthr _ _ _ _ _ _ _ _ _ _ _ _ _ _ _ _ _ _ _ _ _ _ _ _ _ _ _ _ _ ls _ H locs ⟨x_UOE, (show ((175, "a chain of more than 30 judged pairs") : Nat × String) ∈ STRS by decide +kernel), d_Sj_judge_72, d_Sj_judge_75, d_Sj_judge_76, d_Sj_judge_78, d_Sj_judge_81⟩ hl.1 (Nat.le_of_ble_eq_true rfl) vc hP hD hS
      · have vc := vc.2 h
        exact hthr _ _ _ _ _ _ _ _ _ _ _ _ _ _ _ _ _ _ _ _ _ _ _ _ _ _ _ _ _ ls _ H locs ⟨x_ISE, (show ((168, "a schema leads to itself in place") : Nat × String) ∈ STRS by decide +kernel), d_Sj_judge_50, d_Sj_judge_53, d_Sj_judge_54, d_Sj_judge_56, d_Sj_judge_59⟩ hl.1 (Nat.le_of_ble_eq_true rfl) vc hP hD hS
    · have vc := vc.2 h
      exact jJ1 ls H locs vc (lv_sub hl [0, 1, 2] rfl) hP hD hS
set_option maxHeartbeats 4000000 in
theorem v_Sj_judgeF (ki : Nat → Int32) (co : Nat → Int64) (pr : Nat → Int32) (pa : Nat → Int32) (tw : Nat → Int32) (nv : Int32) (sv : Int32) (ru : Nat → Int32) (le : Nat → Int32) (li : Nat → Int32) (bn : Nat → Int32) (ip : Nat → Int32) (aw : Nat → Int32) (ns : Int32) (ch : Nat → Int32) (ma : Nat → Int32) (br : Nat → Int64) (tl : Int32) (pn : Nat → Int32) (pl : Nat → Int32) (po : Nat → Int32) (pf : Nat → Int32) (pt : Nat → Int32) (x : Int32) (y : Int32) (hpre : (∃ n0 m0 k0 : Nat, nv = nI n0 ∧ ns = nI m0 ∧ SOK ki co pr pa pn po ru le li bn n0 m0 ∧ k0 ≤ n0 ∧ sv = nI k0 ∧ TwOK ki co pr pa tw k0)) : V_Sj_judgeF ki co pr pa tw nv sv ru le li bn ip aw ns ch ma br tl pn pl po pf pt x y (fun v ki' co' pr' pa' tw' nv' sv' ru' le' li' bn' ip' aw' ns' ch' ma' br' tl' pn' pl' po' pf' pt' => ∃ rr : Bool, v = bI rr ∧ (((sHas ns x = true ∧ sHas nv y = true) ∧ ¬ Cir ru le li bn ns.toNatClampNeg x.toNatClampNeg ∧ (∀ n : Nat, nv = nI n → n ≤ 40 → TwOK ki co pr pa tw' n ∧ sv' = nv) ∧ tl' = 0 ∧ (∀ (G : Sp) (R : Nat → Nat → Prop) (lv : Nat → Nat), (∃ va mk, G = gC ki co pr pa tw' pn pl po pf pt ru le li bn nv.toNatClampNeg va mk) → Ctx G R lv → R x.toNatClampNeg y.toNatClampNeg → Jdone G R x.toNatClampNeg y.toNatClampNeg true ch' ma' br') ∧ (rr = true ↔ br' (y.toNatClampNeg * 24 + x.toNatClampNeg) = 0))) ∧ ki' = ki ∧ co' = co ∧ pr' = pr ∧ pa' = pa ∧ nv' = nv ∧ ru' = ru ∧ le' = le ∧ li' = li ∧ bn' = bn ∧ ns' = ns ∧ pn' = pn ∧ pl' = pl ∧ po' = po ∧ pf' = pf ∧ pt' = pt) (fun E ki' co' pr' pa' tw' nv' sv' ru' le' li' bn' ip' aw' ns' ch' ma' br' tl' pn' pl' po' pf' pt' => (((E = IAE ∧ ¬ (sHas ns x = true ∧ sHas nv y = true) ∧ tw' = tw ∧ sv' = sv ∧ ip' = ip ∧ aw' = aw ∧ ch' = ch ∧ ma' = ma ∧ br' = br ∧ tl' = tl) ∨ (E = ISE ∧ (sHas ns x = true ∧ sHas nv y = true) ∧ Cir ru le li bn ns.toNatClampNeg x.toNatClampNeg ∧ Zst ch' ma' br' tl' ∧ tw' = tw ∧ sv' = sv) ∨ (E = UOE ∧ (sHas ns x = true ∧ sHas nv y = true) ∧ ¬ Cir ru le li bn ns.toNatClampNeg x.toNatClampNeg ∧ (∀ n : Nat, nv = nI n → n ≤ 40 → TwOK ki co pr pa tw' n ∧ sv' = nv) ∧ Zst ch' ma' br' tl' ∧ (∀ (G : Sp) (R : Nat → Nat → Prop) (lv : Nat → Nat), (∃ va mk, G = gC ki co pr pa tw' pn pl po pf pt ru le li bn nv.toNatClampNeg va mk) → Ctx G R lv → R x.toNatClampNeg y.toNatClampNeg → Jdone G R x.toNatClampNeg y.toNatClampNeg false ch' ma' br')))) ∧ ki' = ki ∧ co' = co ∧ pr' = pr ∧ pa' = pa ∧ nv' = nv ∧ ru' = ru ∧ le' = le ∧ li' = li ∧ bn' = bn ∧ ns' = ns ∧ pn' = pn ∧ pl' = pl ∧ po' = po ∧ pf' = pf ∧ pt' = pt) := by
  have main : ∀ (post : Int32 → (Nat → Int32) → (Nat → Int64) → (Nat → Int32) → (Nat → Int32) → (Nat → Int32) → Int32 → Int32 → (Nat → Int32) → (Nat → Int32) → (Nat → Int32) → (Nat → Int32) → (Nat → Int32) → (Nat → Int32) → Int32 → (Nat → Int32) → (Nat → Int32) → (Nat → Int64) → Int32 → (Nat → Int32) → (Nat → Int32) → (Nat → Int32) → (Nat → Int32) → (Nat → Int32) → Prop) (px : String → (Nat → Int32) → (Nat → Int64) → (Nat → Int32) → (Nat → Int32) → (Nat → Int32) → Int32 → Int32 → (Nat → Int32) → (Nat → Int32) → (Nat → Int32) → (Nat → Int32) → (Nat → Int32) → (Nat → Int32) → Int32 → (Nat → Int32) → (Nat → Int32) → (Nat → Int64) → Int32 → (Nat → Int32) → (Nat → Int32) → (Nat → Int32) → (Nat → Int32) → (Nat → Int32) → Prop), (∀ v ki' co' pr' pa' tw' nv' sv' ru' le' li' bn' ip' aw' ns' ch' ma' br' tl' pn' pl' po' pf' pt', (fun v ki' co' pr' pa' tw' nv' sv' ru' le' li' bn' ip' aw' ns' ch' ma' br' tl' pn' pl' po' pf' pt' => ∃ rr : Bool, v = bI rr ∧ (((sHas ns x = true ∧ sHas nv y = true) ∧ ¬ Cir ru le li bn ns.toNatClampNeg x.toNatClampNeg ∧ (∀ n : Nat, nv = nI n → n ≤ 40 → TwOK ki co pr pa tw' n ∧ sv' = nv) ∧ tl' = 0 ∧ (∀ (G : Sp) (R : Nat → Nat → Prop) (lv : Nat → Nat), (∃ va mk, G = gC ki co pr pa tw' pn pl po pf pt ru le li bn nv.toNatClampNeg va mk) → Ctx G R lv → R x.toNatClampNeg y.toNatClampNeg → Jdone G R x.toNatClampNeg y.toNatClampNeg true ch' ma' br') ∧ (rr = true ↔ br' (y.toNatClampNeg * 24 + x.toNatClampNeg) = 0))) ∧ ki' = ki ∧ co' = co ∧ pr' = pr ∧ pa' = pa ∧ nv' = nv ∧ ru' = ru ∧ le' = le ∧ li' = li ∧ bn' = bn ∧ ns' = ns ∧ pn' = pn ∧ pl' = pl ∧ po' = po ∧ pf' = pf ∧ pt' = pt) v ki' co' pr' pa' tw' nv' sv' ru' le' li' bn' ip' aw' ns' ch' ma' br' tl' pn' pl' po' pf' pt' → post v ki' co' pr' pa' tw' nv' sv' ru' le' li' bn' ip' aw' ns' ch' ma' br' tl' pn' pl' po' pf' pt') → (∀ E ki' co' pr' pa' tw' nv' sv' ru' le' li' bn' ip' aw' ns' ch' ma' br' tl' pn' pl' po' pf' pt', (fun E ki' co' pr' pa' tw' nv' sv' ru' le' li' bn' ip' aw' ns' ch' ma' br' tl' pn' pl' po' pf' pt' => (((E = IAE ∧ ¬ (sHas ns x = true ∧ sHas nv y = true) ∧ tw' = tw ∧ sv' = sv ∧ ip' = ip ∧ aw' = aw ∧ ch' = ch ∧ ma' = ma ∧ br' = br ∧ tl' = tl) ∨ (E = ISE ∧ (sHas ns x = true ∧ sHas nv y = true) ∧ Cir ru le li bn ns.toNatClampNeg x.toNatClampNeg ∧ Zst ch' ma' br' tl' ∧ tw' = tw ∧ sv' = sv) ∨ (E = UOE ∧ (sHas ns x = true ∧ sHas nv y = true) ∧ ¬ Cir ru le li bn ns.toNatClampNeg x.toNatClampNeg ∧ (∀ n : Nat, nv = nI n → n ≤ 40 → TwOK ki co pr pa tw' n ∧ sv' = nv) ∧ Zst ch' ma' br' tl' ∧ (∀ (G : Sp) (R : Nat → Nat → Prop) (lv : Nat → Nat), (∃ va mk, G = gC ki co pr pa tw' pn pl po pf pt ru le li bn nv.toNatClampNeg va mk) → Ctx G R lv → R x.toNatClampNeg y.toNatClampNeg → Jdone G R x.toNatClampNeg y.toNatClampNeg false ch' ma' br')))) ∧ ki' = ki ∧ co' = co ∧ pr' = pr ∧ pa' = pa ∧ nv' = nv ∧ ru' = ru ∧ le' = le ∧ li' = li ∧ bn' = bn ∧ ns' = ns ∧ pn' = pn ∧ pl' = pl ∧ po' = po ∧ pf' = pf ∧ pt' = pt) E ki' co' pr' pa' tw' nv' sv' ru' le' li' bn' ip' aw' ns' ch' ma' br' tl' pn' pl' po' pf' pt' → px E ki' co' pr' pa' tw' nv' sv' ru' le' li' bn' ip' aw' ns' ch' ma' br' tl' pn' pl' po' pf' pt') → V_Sj_judgeF ki co pr pa tw nv sv ru le li bn ip aw ns ch ma br tl pn pl po pf pt x y post px := by
    intro post px hpost hbadx
    unfold V_Sj_judgeF
    obtain ⟨n0, m0, k0, hnv, hns, hS, hk0, hsv, htw⟩ := hpre
    have hm24 := hS.2.2.1
    have hn40 := hS.1.1
    refine ⟨¬ (sHas ns x = true ∧ sHas nv y = true), ⟨fun h q => ?_, fun h => ⟨fun h2 => ?_, fun h2 q => ?_⟩⟩, fun hJ => hbadx _ _ _ _ _ _ _ _ _ _ _ _ _ _ _ _ _ _ _ _ _ _ _ _ ⟨Or.inl ⟨rfl, hJ, rfl, rfl, rfl, rfl, rfl, rfl, rfl, rfl⟩, rfl, rfl, rfl, rfl, rfl, rfl, rfl, rfl, rfl, rfl, rfl, rfl, rfl, rfl, rfl⟩⟩
    · rw [q.1] at h; exact absurd h (by decide)
    rotate_left
    · rw [q.2] at h2; exact absurd h2 (by decide)
    have hx := bI_ne.mp h
    have hy := bI_ne.mp h2
    obtain ⟨s0, hs, rfl⟩ := sHas_nI (by omega) (show sHas (nI m0) x = true by rw [← hns]; exact hx)
    obtain ⟨v0, hv, rfl⟩ := sHas_nI (by omega) (show sHas (nI n0) y = true by rw [← hnv]; exact hy)
    have cs : (nI s0).toNatClampNeg = s0 := nI_clamp (by omega)
    have cv : (nI v0).toNatClampNeg = v0 := nI_clamp (by omega)
    have cn : nv.toNatClampNeg = n0 := by rw [hnv]; exact nI_clamp (by omega)
    have cm : ns.toNatClampNeg = m0 := by rw [hns]; exact nI_clamp (by omega)
    have v9 : vp_in (nI v0 * 24 + nI s0) 960 := by rw [px24]; exact vp_in_nI (by omega) (by decide)
    have c4 : (nI v0 * 24 + nI s0 : Int32).toNatClampNeg = v0 * 24 + s0 := by rw [px24, nI_clamp (by omega)]
    simp only [cs, cv, cn, cm, c4] at hpost hbadx ⊢
    refine ⟨⟨m0, hm24, hns, vp_in_nI hs (by omega), hS.2.2.2.1⟩, fun t2 f3 f4 hc => ?_⟩
    have hc := hc m0 hns (by omega)
    have hZ : Zst (fillN 0 960 ch) (fillN 0 960 ma) (fillL 0 960 br) 0 := ⟨rfl, fun q hq => ⟨if_pos hq, if_pos hq, if_pos hq⟩⟩
    refine ⟨fun ht => ?_, fun ht => hbadx _ _ _ _ _ _ _ _ _ _ _ _ _ _ _ _ _ _ _ _ _ _ _ _ ⟨Or.inr (Or.inl ⟨rfl, ⟨hx, hy⟩, hc.mp (bI_ne.mp ht), hZ, rfl, rfl⟩), rfl, rfl, rfl, rfl, rfl, rfl, rfl, rfl, rfl, rfl, rfl, rfl, rfl, rfl, rfl⟩⟩
    have hnc : ¬ Cir ru le li bn m0 s0 := fun q => by rw [hc.mpr q] at ht; exact absurd ht (by decide)
    refine ⟨⟨n0, m0, s0, v0, k0, ⟨hnv, hns, hS, Or.inl rfl, rfl, rfl, rfl, hs, hv, by decide, by decide, by decide⟩, hZ, hk0, hsv, htw⟩, fun t5 f6 f7 f8 u9 f10 u11 hp => ?_⟩
    obtain ⟨p1, p2, p3, p4⟩ := hp
    refine ⟨fun h5 => ⟨v9, ?_⟩, fun h5 => ?_⟩
    · have e5 : t5 = true := bI_ne.mp h5
      subst e5
      exact hpost _ _ _ _ _ _ _ _ _ _ _ _ _ _ _ _ _ _ _ _ _ _ _ _ ⟨decide (f8 (v0 * 24 + s0) = 0), rfl, ⟨⟨hx, hy⟩, hnc, p1, p2, p4, decide_eq_true_iff⟩, rfl, rfl, rfl, rfl, rfl, rfl, rfl, rfl, rfl, rfl, rfl, rfl, rfl, rfl, rfl⟩
    · have e5 : t5 = false := bI0.mp h5
      subst e5
      exact hbadx _ _ _ _ _ _ _ _ _ _ _ _ _ _ _ _ _ _ _ _ _ _ _ _ ⟨Or.inr (Or.inr ⟨rfl, ⟨hx, hy⟩, hnc, p1, p3 rfl, p4⟩), rfl, rfl, rfl, rfl, rfl, rfl, rfl, rfl, rfl, rfl, rfl, rfl, rfl, rfl, rfl⟩
  exact main _ _ (fun _ _ _ _ _ _ _ _ _ _ _ _ _ _ _ _ _ _ _ _ _ _ _ _ h => h) (fun _ _ _ _ _ _ _ _ _ _ _ _ _ _ _ _ _ _ _ _ _ _ _ _ h => h)
theorem c_Sj_judgeF (l : Launch) (hls : l.stackTraces = false) (D : va_G) (a : Nat → Nat) (cI cJ cZ : ClassId) (ki : Nat → Int32) (co : Nat → Int64) (pr : Nat → Int32) (pa : Nat → Int32) (tw : Nat → Int32) (nv : Int32) (sv : Int32) (ru : Nat → Int32) (le : Nat → Int32) (li : Nat → Int32) (bn : Nat → Int32) (ip : Nat → Int32) (aw : Nat → Int32) (ns : Int32) (ch : Nat → Int32) (ma : Nat → Int32) (br : Nat → Int64) (tl : Int32) (pn : Nat → Int32) (pl : Nat → Int32) (po : Nat → Int32) (pf : Nat → Int32) (pt : Nat → Int32) (x : Int32) (y : Int32) (hpre : (∃ n0 m0 k0 : Nat, nv = nI n0 ∧ ns = nI m0 ∧ SOK ki co pr pa pn po ru le li bn n0 m0 ∧ k0 ≤ n0 ∧ sv = nI k0 ∧ TwOK ki co pr pa tw k0)) : Tm (S := Bool × (Nat → Int32) × Int32 × (Nat → Int32) × (Nat → Int32) × (Nat → Int32) × (Nat → Int32) × (Nat → Int64) × Int32) (SX := (Nat → Int32) × Int32 × (Nat → Int32) × (Nat → Int32) × (Nat → Int32) × (Nat → Int32) × (Nat → Int64) × Int32) l y_Sj_judge b_Sj_judge 3 (some .boolean) 166 6143 [.ref (a 24), .int x, .int y] D (tyA cI cJ cZ) (wX a ++ wV a cI cJ ki co pr pa tw nv sv ++ wS a cI ru le li bn ip aw ns ++ wJ a cI cJ ch ma br tl ++ wL a ++ wP a cI cZ pn pl po pf pt) (fun uu => ((sHas ns x = true ∧ sHas nv y = true) ∧ ¬ Cir ru le li bn ns.toNatClampNeg x.toNatClampNeg ∧ (∀ n : Nat, nv = nI n → n ≤ 40 → TwOK ki co pr pa uu.2.1 n ∧ uu.2.2.1 = nv) ∧ uu.2.2.2.2.2.2.2.2 = 0 ∧ (∀ (G : Sp) (R : Nat → Nat → Prop) (lv : Nat → Nat), (∃ va mk, G = gC ki co pr pa uu.2.1 pn pl po pf pt ru le li bn nv.toNatClampNeg va mk) → Ctx G R lv → R x.toNatClampNeg y.toNatClampNeg → Jdone G R x.toNatClampNeg y.toNatClampNeg true uu.2.2.2.2.2.1 uu.2.2.2.2.2.2.1 uu.2.2.2.2.2.2.2.1) ∧ (uu.1 = true ↔ uu.2.2.2.2.2.2.2.1 (y.toNatClampNeg * 24 + x.toNatClampNeg) = 0))) (fun uu => some (.int (bI uu.1))) (fun uu => (wX a ++ wV a cI cJ ki co pr pa uu.2.1 nv uu.2.2.1 ++ wS a cI ru le li bn uu.2.2.2.1 uu.2.2.2.2.1 ns ++ wJ a cI cJ uu.2.2.2.2.2.1 uu.2.2.2.2.2.2.1 uu.2.2.2.2.2.2.2.1 uu.2.2.2.2.2.2.2.2 ++ wL a ++ wP a cI cZ pn pl po pf pt)) (fun E uu => ((E = IAE ∧ ¬ (sHas ns x = true ∧ sHas nv y = true) ∧ uu.1 = tw ∧ uu.2.1 = sv ∧ uu.2.2.1 = ip ∧ uu.2.2.2.1 = aw ∧ uu.2.2.2.2.1 = ch ∧ uu.2.2.2.2.2.1 = ma ∧ uu.2.2.2.2.2.2.1 = br ∧ uu.2.2.2.2.2.2.2 = tl) ∨ (E = ISE ∧ (sHas ns x = true ∧ sHas nv y = true) ∧ Cir ru le li bn ns.toNatClampNeg x.toNatClampNeg ∧ Zst uu.2.2.2.2.1 uu.2.2.2.2.2.1 uu.2.2.2.2.2.2.1 uu.2.2.2.2.2.2.2 ∧ uu.1 = tw ∧ uu.2.1 = sv) ∨ (E = UOE ∧ (sHas ns x = true ∧ sHas nv y = true) ∧ ¬ Cir ru le li bn ns.toNatClampNeg x.toNatClampNeg ∧ (∀ n : Nat, nv = nI n → n ≤ 40 → TwOK ki co pr pa uu.1 n ∧ uu.2.1 = nv) ∧ Zst uu.2.2.2.2.1 uu.2.2.2.2.2.1 uu.2.2.2.2.2.2.1 uu.2.2.2.2.2.2.2 ∧ (∀ (G : Sp) (R : Nat → Nat → Prop) (lv : Nat → Nat), (∃ va mk, G = gC ki co pr pa uu.1 pn pl po pf pt ru le li bn nv.toNatClampNeg va mk) → Ctx G R lv → R x.toNatClampNeg y.toNatClampNeg → Jdone G R x.toNatClampNeg y.toNatClampNeg false uu.2.2.2.2.1 uu.2.2.2.2.2.1 uu.2.2.2.2.2.2.1)))) (fun uu => (wX a ++ wV a cI cJ ki co pr pa uu.1 nv uu.2.1 ++ wS a cI ru le li bn uu.2.2.1 uu.2.2.2.1 ns ++ wJ a cI cJ uu.2.2.2.2.1 uu.2.2.2.2.2.1 uu.2.2.2.2.2.2.1 uu.2.2.2.2.2.2.2 ++ wL a ++ wP a cI cZ pn pl po pf pt)) :=
  tm_of hls (by decide) rfl (Or.inr ⟨.boolean, fun uu => bI (uu.1), rfl, fun _ => rfl, fun _ _ => bI_nar _⟩) (Nat.le_of_ble_eq_true rfl) (by decide) (by decide) (fun p e s m below meth c ls Q A S hK hP hD hA hS hX hl hret hthr hout => g_Sj_judgeF hls S (Nat.le_refl _) (Nat.le_refl _) ⟨Nat.le_refl _, Nat.le_refl _⟩ D a cI cJ cZ ki co pr pa tw nv sv ru le li bn ip aw ns ch ma br tl pn pl po pf pt x y hK hP hD hA hS hX hl (v_Sj_judgeF ki co pr pa tw nv sv ru le li bn ip aw ns ch ma br tl pn pl po pf pt x y hpre)
    (fun v ki' co' pr' pa' tw' nv' sv' ru' le' li' bn' ip' aw' ns' ch' ma' br' tl' pn' pl' po' pf' pt' ls1 pc H1 locs1 k j hd hk hj hv hP1 hD1 hS1 => by obtain ⟨rr, rfl, hp, rfl, rfl, rfl, rfl, rfl, rfl, rfl, rfl, rfl, rfl, rfl, rfl, rfl, rfl, rfl⟩ := hv; exact hret (rr, tw', sv', ip', aw', ch', ma', br', tl') ls1 pc H1 locs1 k j _ (Or.inr ⟨_, rfl, rfl, hd⟩) hk hj hp hP1 hD1 hS1)
    (fun ki' co' pr' pa' tw' nv' sv' ru' le' li' bn' ip' aw' ns' ch' ma' br' tl' pn' pl' po' pf' pt' E ik is ic tx pc ls1 rest H1 locs1 T hs hw hv hP1 hD1 hS1 => by obtain ⟨hp, rfl, rfl, rfl, rfl, rfl, rfl, rfl, rfl, rfl, rfl, rfl, rfl, rfl, rfl, rfl⟩ := hv; exact hthr (tw', sv', ip', aw', ch', ma', br', tl') E ik is ic tx pc ls1 rest H1 locs1 T hs hw hp hP1 hD1 hS1)
    (fun ki' co' pr' pa' tw' nv' sv' ru' le' li' bn' ip' aw' ns' ch' ma' br' tl' pn' pl' po' pf' pt' E ce q pc ls1 rest H1 locs1 k j hk hj h1 h2 h3 hv hP1 hD1 hS1 => by obtain ⟨hp, rfl, rfl, rfl, rfl, rfl, rfl, rfl, rfl, rfl, rfl, rfl, rfl, rfl, rfl, rfl⟩ := hv; exact hout (tw', sv', ip', aw', ch', ma', br', tl') E ce q pc ls1 rest H1 locs1 k j hk hj h1 h2 h3 hp hP1 hD1 hS1))
