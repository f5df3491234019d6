def ush (x : Int32) (k : Int32) : Int32 := (x.toUInt32 >>> (k.toUInt32 &&& Int32.toUInt32 31)).toInt32
def iB1 (x : Int32) : Int32 := x - (ush x 1 &&& 1431655765)
def iB2 (x : Int32) : Int32 := (x &&& 858993459) + (ush x 2 &&& 858993459)
def iB3 (x : Int32) : Int32 := (x + ush x 4) &&& 252645135
def iB4 (x : Int32) : Int32 := x + ush x 8
def iB5 (x : Int32) : Int32 := x + ush x 16
def iBits (x : Int32) : Int32 := iB5 (iB4 (iB3 (iB2 (iB1 x)))) &&& 63
def pop : Nat → Nat → Nat
  | 0, _ => 0
  | k + 1, n => n % 2 + pop k (n / 2)
theorem iBits_pop16 : ∀ a, a < 16 → ∀ b, b < 256 → iBits (nI (256 * a + b)) = nI (pop 12 (256 * a + b)) := by decide +kernel
theorem iBits_pop {n : Nat} (h : n < 4096) : iBits (nI n) = nI (pop 12 n) := by
  have e := iBits_pop16 (n / 256) (by omega) (n % 256) (by omega)
  rwa [show 256 * (n / 256) + n % 256 = n by omega] at e
def V_In_bitCount (x : Int32) (post : Int32 → Prop) : Prop :=
  (∀ z1 : Int32, z1 = x - (((x.toUInt32 >>> ((1 : Int32).toUInt32 &&& Int32.toUInt32 31)).toInt32) &&& 1431655765) → (∀ z2 : Int32, z2 = (z1 &&& 858993459) + (((z1.toUInt32 >>> ((2 : Int32).toUInt32 &&& Int32.toUInt32 31)).toInt32) &&& 858993459) → (∀ z3 : Int32, z3 = (z2 + ((z2.toUInt32 >>> ((4 : Int32).toUInt32 &&& Int32.toUInt32 31)).toInt32)) &&& 252645135 → (∀ z4 : Int32, z4 = z3 + ((z3.toUInt32 >>> ((8 : Int32).toUInt32 &&& Int32.toUInt32 31)).toInt32) → (∀ z5 : Int32, z5 = z4 + ((z4.toUInt32 >>> ((16 : Int32).toUInt32 &&& Int32.toUInt32 31)).toInt32) → post (z5 &&& 63))))))
set_option maxHeartbeats 4000000 in
set_option maxRecDepth 100000 in
theorem g_In_bitCount {p : Program} {l : Launch} {e : Env} {R : Room} {s : State} {m : MethodId} {args : Array Value} {below : List Frame} {meth : Method} {c : Code} {H : Heap} {locs : List Loc} {cells slots : Nat} {Q : State → Prop} {ls : Array Slot} (S : CallFix p m c b_In_bitCount 1 s args W0 R_In) (hRf : 0 ≤ R.frames) (hRl : 0 ≤ R.locals) (hRc : cells ≤ R.cells ∧ slots ≤ R.slots) (x : Int32) (hl : lv_has ls 1 [(0, .int x)]) {post : Int32 → Prop} (vc : V_In_bitCount x post)
    (hret : ∀ (v : Int32) (ls : Array Slot) (pc : Nat), decode b_In_bitCount pc = .ok (.ireturn, 1) → post v → W p l e R s m args below meth c H locs cells slots Q (F0 m pc ls [.int v])) : W p l e R s m args below meth c H locs cells slots Q (F0 m 0 ls []) := by
  have hx := S.1
  have hb := S.2.1
  have hown := S.2.2.2.1
  have hts := S.2.2.2.2
  unfold V_In_bitCount at vc
  refine lv_iload_n hx hb d_In_bitCount_0 rfl (lv_at hl 0 rfl) ?_
  refine lv_iload_n hx hb d_In_bitCount_1 rfl (lv_at hl 0 rfl) ?_
  refine lv_iconst (v := 1) hx hb d_In_bitCount_2 (by decide) ?_
  refine lv_iushr hx hb d_In_bitCount_3 rfl ?_
  refine lv_ldcw hx hb hown (hts _ co_In_265) d_In_bitCount_4 ?_
  refine lv_iand hx hb d_In_bitCount_7 ?_
  refine lv_isub hx hb d_In_bitCount_8 ?_
  refine lv_topi (fun z1 ez1 => ?_)
  have vc := vc z1 ez1
  refine lv_istore_n hx hb d_In_bitCount_9 rfl hl (by decide) (lv' := [(0, .int z1)]) rfl (fun ls hl => ?_)
  refine lv_iload_n hx hb d_In_bitCount_10 rfl (lv_at hl 0 rfl) ?_
  refine lv_ldcw hx hb hown (hts _ co_In_266) d_In_bitCount_11 ?_
  refine lv_iand hx hb d_In_bitCount_14 ?_
  refine lv_iload_n hx hb d_In_bitCount_15 rfl (lv_at hl 0 rfl) ?_
  refine lv_iconst (v := 2) hx hb d_In_bitCount_16 (by decide) ?_
  refine lv_iushr hx hb d_In_bitCount_17 rfl ?_
  refine lv_ldcw hx hb hown (hts _ co_In_266) d_In_bitCount_18 ?_
  refine lv_iand hx hb d_In_bitCount_21 ?_
  refine lv_iadd hx hb d_In_bitCount_22 ?_
  refine lv_topi (fun z2 ez2 => ?_)
  have vc := vc z2 ez2
  refine lv_istore_n hx hb d_In_bitCount_23 rfl hl (by decide) (lv' := [(0, .int z2)]) rfl (fun ls hl => ?_)
  refine lv_iload_n hx hb d_In_bitCount_24 rfl (lv_at hl 0 rfl) ?_
  refine lv_iload_n hx hb d_In_bitCount_25 rfl (lv_at hl 0 rfl) ?_
  refine lv_iconst (v := 4) hx hb d_In_bitCount_26 (by decide) ?_
  refine lv_iushr hx hb d_In_bitCount_27 rfl ?_
  refine lv_iadd hx hb d_In_bitCount_28 ?_
  refine lv_ldcw hx hb hown (hts _ co_In_267) d_In_bitCount_29 ?_
  refine lv_iand hx hb d_In_bitCount_32 ?_
  refine lv_topi (fun z3 ez3 => ?_)
  have vc := vc z3 ez3
  refine lv_istore_n hx hb d_In_bitCount_33 rfl hl (by decide) (lv' := [(0, .int z3)]) rfl (fun ls hl => ?_)
  refine lv_iload_n hx hb d_In_bitCount_34 rfl (lv_at hl 0 rfl) ?_
  refine lv_iload_n hx hb d_In_bitCount_35 rfl (lv_at hl 0 rfl) ?_
  refine lv_bipush (v := 8) hx hb d_In_bitCount_36 (by decide) ?_
  refine lv_iushr hx hb d_In_bitCount_38 rfl ?_
  refine lv_iadd hx hb d_In_bitCount_39 ?_
  refine lv_topi (fun z4 ez4 => ?_)
  have vc := vc z4 ez4
  refine lv_istore_n hx hb d_In_bitCount_40 rfl hl (by decide) (lv' := [(0, .int z4)]) rfl (fun ls hl => ?_)
  refine lv_iload_n hx hb d_In_bitCount_41 rfl (lv_at hl 0 rfl) ?_
  refine lv_iload_n hx hb d_In_bitCount_42 rfl (lv_at hl 0 rfl) ?_
  refine lv_bipush (v := 16) hx hb d_In_bitCount_43 (by decide) ?_
  refine lv_iushr hx hb d_In_bitCount_45 rfl ?_
  refine lv_iadd hx hb d_In_bitCount_46 ?_
  refine lv_topi (fun z5 ez5 => ?_)
  have vc := vc z5 ez5
  refine lv_istore_n hx hb d_In_bitCount_47 rfl hl (by decide) (lv' := [(0, .int z5)]) rfl (fun ls hl => ?_)
  refine lv_iload_n hx hb d_In_bitCount_48 rfl (lv_at hl 0 rfl) ?_
  refine lv_bipush (v := 63) hx hb d_In_bitCount_49 (by decide) ?_
  refine lv_iand hx hb d_In_bitCount_51 ?_
  exact hret _ ls _ d_In_bitCount_52 vc
theorem h_In_bitCount (l : Launch) (x : Int32) (r : Int32) (vc : V_In_bitCount x (fun v => v = r)) : Pm l y_In_bitCount b_In_bitCount 1 (some .int) 0 0 [.int x] wT (.int r) :=
  pm_i (by decide) rfl (Nat.le_of_ble_eq_true rfl) (fun p e s m below meth c ls Q S hB hl hret => g_In_bitCount S (Nat.le_refl _) (Nat.le_refl _) ⟨Nat.le_refl _, Nat.le_refl _⟩ x hl vc hret)
theorem c_In_bitCount (l : Launch) (x : Int32) : Pm l y_In_bitCount b_In_bitCount 1 (some .int) 0 0 [.int x] wT (.int (iBits x)) := h_In_bitCount l x _ (by
  unfold V_In_bitCount
  intro z1 h1 z2 h2 z3 h3 z4 h4 z5 h5
  subst h1 h2 h3 h4 h5
  rfl)
theorem hd_In_bitCount : y_In_bitCount.cls ≠ "java/lang/invoke/MethodHandle" ∧ y_In_bitCount.cls ≠ "java/lang/invoke/VarHandle" ∧ (parseMethodDescriptor y_In_bitCount.desc).map (fun d => d.parameters.length) = some 1 := ⟨by decide, by decide, by decide +kernel⟩
