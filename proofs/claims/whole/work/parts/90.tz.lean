/-! ===== the place of a fault ===== -/
def clrN : Nat → Int64 → Int64
  | 0, x => x
  | n + 1, x => clrN n x &&& (clrN n x - 1)
theorem cN_mon (p : Nat → Prop) : ∀ b a, a ≤ b → cN p a ≤ cN p b := by
  intro b
  induction b with
  | zero => intro a h; obtain rfl : a = 0 := by omega
            exact Nat.le_refl _
  | succ b ih =>
    intro a h
    by_cases e : a = b + 1
    · rw [e]; exact Nat.le_refl _
    · refine Nat.le_trans (ih a (by omega)) ?_
      by_cases hb : p b
      · rw [cN_s.1 hb]; omega
      · rw [cN_s.2 hb]; exact Nat.le_refl _
theorem cN_find {p : Nat → Prop} {b : Nat} : ∀ z, b < cN p z → ∃ j, j < z ∧ p j ∧ cN p j = b := by
  intro z
  induction z with
  | zero => intro h; exact absurd h (Nat.not_lt_zero _)
  | succ z ih =>
    intro h
    by_cases hb : p z
    · rw [cN_s.1 hb] at h
      rcases Nat.lt_or_ge b (cN p z) with q | q
      · obtain ⟨j, h1, h2⟩ := ih q; exact ⟨j, by omega, h2⟩
      · exact ⟨z, by omega, hb, by omega⟩
    · rw [cN_s.2 hb] at h
      obtain ⟨j, h1, h2⟩ := ih h; exact ⟨j, by omega, h2⟩
theorem low_ex {x : Int64} {i : Nat} (h : bL x i = true) : ∃ z, z ≤ i ∧ bL x z = true ∧ ∀ j, j < z → bL x j = false := by
  induction i using Nat.strongRecOn with
  | ind i ih =>
    by_cases q : ∃ j, j < i ∧ bL x j = true
    · obtain ⟨j, h1, h2⟩ := q
      obtain ⟨z, h3, h4⟩ := ih j h1 h2
      exact ⟨z, by omega, h4⟩
    · exact ⟨i, Nat.le_refl _, h, fun j hj => Bool.eq_false_iff.mpr (fun w => q ⟨j, hj, w⟩)⟩
theorem bL_big {x : Int64} {i : Nat} (h : 64 ≤ i) : bL x i = false := BitVec.getLsbD_of_ge _ _ h
theorem clrN_bit (x : Int64) : ∀ b i, bL (clrN b x) i = true ↔ bL x i = true ∧ b ≤ cN (fun j => bL x j = true) i := by
  intro b
  induction b with
  | zero => intro i; exact ⟨fun q => ⟨q, Nat.zero_le _⟩, fun q => q.1⟩
  | succ b ih =>
    intro i
    show bL (clrN b x &&& (clrN b x - 1)) i = true ↔ _
    rcases Nat.lt_or_ge i 64 with hi | hi
    rotate_left
    · rw [bL_big hi, bL_big hi]; exact ⟨fun q => absurd q (by decide), fun q => absurd q.1 (by decide)⟩
    rw [bL_and, Bool.and_eq_true]
    by_cases hy : bL (clrN b x) i = true
    rotate_left
    · refine ⟨fun q => absurd q.1 hy, fun q => absurd ((ih i).mpr ⟨q.1, by omega⟩) hy⟩
    obtain ⟨z, hz, h1, h2⟩ := low_ex hy
    have hzb := (ih z).mp h1
    have hcz : cN (fun j => bL x j = true) z = b := by
      rcases Nat.lt_or_ge b (cN (fun j => bL x j = true) z) with q | q
      · obtain ⟨j, k1, k2, k3⟩ := cN_find z q
        have := (ih j).mpr ⟨k2, by omega⟩
        rw [h2 j k1] at this; exact absurd this (by decide)
      · omega
    rw [bL_dec (by omega) h1 h2 hi]
    have hi2 := (ih i).mp hy
    by_cases e : i = z
    · subst e
      rw [if_neg (Nat.lt_irrefl _), if_pos rfl]
      exact ⟨fun q => absurd q.2 (by decide), fun q => by omega⟩
    · rw [if_neg (by omega), if_neg e]
      refine ⟨fun _ => ⟨hi2.1, ?_⟩, fun _ => ⟨hy, hy⟩⟩
      have k := cN_mon (fun j => bL x j = true) i (z + 1) (by omega)
      rw [cN_s.1 hzb.1] at k
      omega
theorem lTz_clr {x : Int64} {b k : Nat} (hk : k < 64) (h : bL x k = true) (hc : cN (fun j => bL x j = true) k = b) : lTz (clrN b x) = nI k := by
  refine lTz_of hk ((clrN_bit x b k).mpr ⟨h, by omega⟩) (fun j hj => Bool.eq_false_iff.mpr (fun q => ?_))
  obtain ⟨q1, q2⟩ := (clrN_bit x b j).mp q
  have k := cN_mon (fun j => bL x j = true) k (j + 1) (by omega)
  rw [cN_s.1 q1] at k
  omega
def V_In_numberOfTrailingZeros (x : Int32) (post : Int32 → Prop) : Prop :=
  ((0 < ((x ^^^ (-1)) &&& (x - 1)) → (∃ J1 : Int32 → Int32 → Prop, ((((x ^^^ (-1)) &&& (x - 1)) ≤ 65536 → J1 ((x ^^^ (-1)) &&& (x - 1)) 1) ∧ (¬ ((x ^^^ (-1)) &&& (x - 1)) ≤ 65536 → J1 ((((x ^^^ (-1)) &&& (x - 1) : Int32).toUInt32 >>> ((16 : Int32).toUInt32 &&& Int32.toUInt32 31)).toInt32) (1 + 16))) ∧ (∀ (x2 : Int32) (x3 : Int32), J1 x2 x3 → (∃ J4 : Int32 → Int32 → Prop, ((x2 ≤ 256 → J4 x2 x3) ∧ (¬ x2 ≤ 256 → J4 ((x2.toUInt32 >>> ((8 : Int32).toUInt32 &&& Int32.toUInt32 31)).toInt32) (x3 + 8))) ∧ (∀ (x5 : Int32) (x6 : Int32), J4 x5 x6 → (∃ J7 : Int32 → Int32 → Prop, ((x5 ≤ 16 → J7 x5 x6) ∧ (¬ x5 ≤ 16 → J7 ((x5.toUInt32 >>> ((4 : Int32).toUInt32 &&& Int32.toUInt32 31)).toInt32) (x6 + 4))) ∧ (∀ (x8 : Int32) (x9 : Int32), J7 x8 x9 → ((x8 ≤ 4 → post (x9 + ((x8.toUInt32 >>> ((1 : Int32).toUInt32 &&& Int32.toUInt32 31)).toInt32))) ∧ (¬ x8 ≤ 4 → post ((x9 + 2) + ((((x8.toUInt32 >>> ((2 : Int32).toUInt32 &&& Int32.toUInt32 31)).toInt32 : Int32).toUInt32 >>> ((1 : Int32).toUInt32 &&& Int32.toUInt32 31)).toInt32))))))))))) ∧ (¬ 0 < ((x ^^^ (-1)) &&& (x - 1)) → post (((x ^^^ (-1)) &&& (x - 1)) &&& 32)))
set_option maxHeartbeats 4000000 in
set_option maxRecDepth 100000 in
theorem g_In_numberOfTrailingZeros {p : Program} {l : Launch} {e : Env} {R : Room} {s : State} {m : MethodId} {args : Array Value} {below : List Frame} {meth : Method} {c : Code} {H : Heap} {locs : List Loc} {cells slots : Nat} {Q : State → Prop} {ls : Array Slot} (S : CallFix p m c b_In_numberOfTrailingZeros 2 s args W0 R_In) (hRf : 0 ≤ R.frames) (hRl : 0 ≤ R.locals) (hRc : cells ≤ R.cells ∧ slots ≤ R.slots) (x : Int32) (hl : lv_has ls 2 [(0, .int x)]) {post : Int32 → Prop} (vc : V_In_numberOfTrailingZeros x post)
    (hret : ∀ (v : Int32) (ls : Array Slot) (pc : Nat), decode b_In_numberOfTrailingZeros pc = .ok (.ireturn, 1) → post v → W p l e R s m args below meth c H locs cells slots Q (F0 m pc ls [.int v])) : W p l e R s m args below meth c H locs cells slots Q (F0 m 0 ls []) := by
  have hx := S.1
  have hb := S.2.1
  have hown := S.2.2.2.1
  have hts := S.2.2.2.2
  unfold V_In_numberOfTrailingZeros at vc
  refine lv_iload_n hx hb d_In_numberOfTrailingZeros_0 rfl (lv_at hl 0 rfl) ?_
  refine lv_iconst (v := (-1)) hx hb d_In_numberOfTrailingZeros_1 (by decide) ?_
  refine lv_ixor hx hb d_In_numberOfTrailingZeros_2 ?_
  refine lv_iload_n hx hb d_In_numberOfTrailingZeros_3 rfl (lv_at hl 0 rfl) ?_
  refine lv_iconst (v := 1) hx hb d_In_numberOfTrailingZeros_4 (by decide) ?_
  refine lv_isub hx hb d_In_numberOfTrailingZeros_5 ?_
  refine lv_iand hx hb d_In_numberOfTrailingZeros_6 ?_
  refine lv_istore_n hx hb d_In_numberOfTrailingZeros_7 rfl hl (by decide) (lv' := [(0, .int ((x ^^^ (-1)) &&& (x - 1)))]) rfl (fun ls hl => ?_)
  refine lv_iload_n hx hb d_In_numberOfTrailingZeros_8 rfl (lv_at hl 0 rfl) ?_
  refine lv_if_gt (tgt := 17) hx hb d_In_numberOfTrailingZeros_9 (by decide) (fun h => ?_) (fun h => ?_)
  · have vc := vc.1 h
    refine lv_iconst (v := 1) hx hb d_In_numberOfTrailingZeros_17 (by decide) ?_
    refine lv_istore_n hx hb d_In_numberOfTrailingZeros_18 rfl hl (by decide) (lv' := [(1, .int 1), (0, .int ((x ^^^ (-1)) &&& (x - 1)))]) rfl (fun ls hl => ?_)
    refine lv_iload_n hx hb d_In_numberOfTrailingZeros_19 rfl (lv_at hl 1 rfl) ?_
    refine lv_ldcw hx hb hown (hts _ co_In_264) d_In_numberOfTrailingZeros_20 ?_
    obtain ⟨J1, vc, vc2⟩ := vc
    have jJ1 : ∀ (x2 : Int32) (x3 : Int32) (ls : Array Slot), J1 x2 x3 → lv_has ls 2 [(0, .int x2), (1, .int x3)] → W p l e R s m args below meth c H locs cells slots Q (F0 m 34 ls []) := by
      intro x2 x3 ls vc hl
      have vc := vc2 x2 x3 vc
      refine lv_iload_n hx hb d_In_numberOfTrailingZeros_34 rfl (lv_at hl 0 rfl) ?_
      refine lv_sipush (v := 256) hx hb d_In_numberOfTrailingZeros_35 (by decide) ?_
      obtain ⟨J4, vc, vc2⟩ := vc
      have jJ4 : ∀ (x5 : Int32) (x6 : Int32) (ls : Array Slot), J4 x5 x6 → lv_has ls 2 [(0, .int x5), (1, .int x6)] → W p l e R s m args below meth c H locs cells slots Q (F0 m 49 ls []) := by
        intro x5 x6 ls vc hl
        have vc := vc2 x5 x6 vc
        refine lv_iload_n hx hb d_In_numberOfTrailingZeros_49 rfl (lv_at hl 0 rfl) ?_
        refine lv_bipush (v := 16) hx hb d_In_numberOfTrailingZeros_50 (by decide) ?_
        obtain ⟨J7, vc, vc2⟩ := vc
        have jJ7 : ∀ (x8 : Int32) (x9 : Int32) (ls : Array Slot), J7 x8 x9 → lv_has ls 2 [(0, .int x8), (1, .int x9)] → W p l e R s m args below meth c H locs cells slots Q (F0 m 62 ls []) := by
          intro x8 x9 ls vc hl
          have vc := vc2 x8 x9 vc
          refine lv_iload_n hx hb d_In_numberOfTrailingZeros_62 rfl (lv_at hl 0 rfl) ?_
          refine lv_iconst (v := 4) hx hb d_In_numberOfTrailingZeros_63 (by decide) ?_
          refine lv_icmp_le (tgt := 74) hx hb d_In_numberOfTrailingZeros_64 (by decide) (fun h => ?_) (fun h => ?_)
          · have vc := vc.1 h
            refine lv_iload_n hx hb d_In_numberOfTrailingZeros_74 rfl (lv_at hl 1 rfl) ?_
            refine lv_iload_n hx hb d_In_numberOfTrailingZeros_75 rfl (lv_at hl 0 rfl) ?_
            refine lv_iconst (v := 1) hx hb d_In_numberOfTrailingZeros_76 (by decide) ?_
            refine lv_iushr hx hb d_In_numberOfTrailingZeros_77 rfl ?_
            refine lv_iadd hx hb d_In_numberOfTrailingZeros_78 ?_
            exact hret _ ls _ d_In_numberOfTrailingZeros_79 vc
          · have vc := vc.2 h
            refine lv_iinc (k := 1) (v := x9 + 2) hx hb d_In_numberOfTrailingZeros_67 hl rfl rfl (by decide) (lv' := [(1, .int (x9 + 2)), (0, .int x8)]) rfl (fun ls hl => ?_)
            refine lv_iload_n hx hb d_In_numberOfTrailingZeros_70 rfl (lv_at hl 1 rfl) ?_
            refine lv_iconst (v := 2) hx hb d_In_numberOfTrailingZeros_71 (by decide) ?_
            refine lv_iushr hx hb d_In_numberOfTrailingZeros_72 rfl ?_
            refine lv_istore_n hx hb d_In_numberOfTrailingZeros_73 rfl hl (by decide) (lv' := [(0, .int ((x8.toUInt32 >>> ((2 : Int32).toUInt32 &&& Int32.toUInt32 31)).toInt32)), (1, .int (x9 + 2))]) rfl (fun ls hl => ?_)
            refine lv_iload_n hx hb d_In_numberOfTrailingZeros_74 rfl (lv_at hl 1 rfl) ?_
            refine lv_iload_n hx hb d_In_numberOfTrailingZeros_75 rfl (lv_at hl 0 rfl) ?_
            refine lv_iconst (v := 1) hx hb d_In_numberOfTrailingZeros_76 (by decide) ?_
            refine lv_iushr hx hb d_In_numberOfTrailingZeros_77 rfl ?_
            refine lv_iadd hx hb d_In_numberOfTrailingZeros_78 ?_
            exact hret _ ls _ d_In_numberOfTrailingZeros_79 vc
        clear vc2
        refine lv_icmp_le (tgt := 62) hx hb d_In_numberOfTrailingZeros_52 (by decide) (fun h => ?_) (fun h => ?_)
        · have vc := vc.1 h
          exact jJ7 x5 x6 ls vc (lv_sub hl [0, 1] rfl)
        · have vc := vc.2 h
          refine lv_iinc (k := 1) (v := x6 + 4) hx hb d_In_numberOfTrailingZeros_55 hl rfl rfl (by decide) (lv' := [(1, .int (x6 + 4)), (0, .int x5)]) rfl (fun ls hl => ?_)
          refine lv_iload_n hx hb d_In_numberOfTrailingZeros_58 rfl (lv_at hl 1 rfl) ?_
          refine lv_iconst (v := 4) hx hb d_In_numberOfTrailingZeros_59 (by decide) ?_
          refine lv_iushr hx hb d_In_numberOfTrailingZeros_60 rfl ?_
          refine lv_istore_n hx hb d_In_numberOfTrailingZeros_61 rfl hl (by decide) (lv' := [(0, .int ((x5.toUInt32 >>> ((4 : Int32).toUInt32 &&& Int32.toUInt32 31)).toInt32)), (1, .int (x6 + 4))]) rfl (fun ls hl => ?_)
          exact jJ7 ((x5.toUInt32 >>> ((4 : Int32).toUInt32 &&& Int32.toUInt32 31)).toInt32) (x6 + 4) ls vc (lv_sub hl [0, 1] rfl)
      clear vc2
      refine lv_icmp_le (tgt := 49) hx hb d_In_numberOfTrailingZeros_38 (by decide) (fun h => ?_) (fun h => ?_)
      · have vc := vc.1 h
        exact jJ4 x2 x3 ls vc (lv_sub hl [0, 1] rfl)
      · have vc := vc.2 h
        refine lv_iinc (k := 1) (v := x3 + 8) hx hb d_In_numberOfTrailingZeros_41 hl rfl rfl (by decide) (lv' := [(1, .int (x3 + 8)), (0, .int x2)]) rfl (fun ls hl => ?_)
        refine lv_iload_n hx hb d_In_numberOfTrailingZeros_44 rfl (lv_at hl 1 rfl) ?_
        refine lv_bipush (v := 8) hx hb d_In_numberOfTrailingZeros_45 (by decide) ?_
        refine lv_iushr hx hb d_In_numberOfTrailingZeros_47 rfl ?_
        refine lv_istore_n hx hb d_In_numberOfTrailingZeros_48 rfl hl (by decide) (lv' := [(0, .int ((x2.toUInt32 >>> ((8 : Int32).toUInt32 &&& Int32.toUInt32 31)).toInt32)), (1, .int (x3 + 8))]) rfl (fun ls hl => ?_)
        exact jJ4 ((x2.toUInt32 >>> ((8 : Int32).toUInt32 &&& Int32.toUInt32 31)).toInt32) (x3 + 8) ls vc (lv_sub hl [0, 1] rfl)
    clear vc2
    refine lv_icmp_le (tgt := 34) hx hb d_In_numberOfTrailingZeros_23 (by decide) (fun h => ?_) (fun h => ?_)
    · have vc := vc.1 h
      exact jJ1 ((x ^^^ (-1)) &&& (x - 1)) 1 ls vc (lv_sub hl [1, 0] rfl)
    · have vc := vc.2 h
      refine lv_iinc (k := 0) (v := 1 + 16) hx hb d_In_numberOfTrailingZeros_26 hl rfl rfl (by decide) (lv' := [(1, .int (1 + 16)), (0, .int ((x ^^^ (-1)) &&& (x - 1)))]) rfl (fun ls hl => ?_)
      refine lv_iload_n hx hb d_In_numberOfTrailingZeros_29 rfl (lv_at hl 1 rfl) ?_
      refine lv_bipush (v := 16) hx hb d_In_numberOfTrailingZeros_30 (by decide) ?_
      refine lv_iushr hx hb d_In_numberOfTrailingZeros_32 rfl ?_
      refine lv_istore_n hx hb d_In_numberOfTrailingZeros_33 rfl hl (by decide) (lv' := [(0, .int ((((x ^^^ (-1)) &&& (x - 1) : Int32).toUInt32 >>> ((16 : Int32).toUInt32 &&& Int32.toUInt32 31)).toInt32)), (1, .int (1 + 16))]) rfl (fun ls hl => ?_)
      exact jJ1 ((((x ^^^ (-1)) &&& (x - 1) : Int32).toUInt32 >>> ((16 : Int32).toUInt32 &&& Int32.toUInt32 31)).toInt32) (1 + 16) ls vc (lv_sub hl [0, 1] rfl)
  · have vc := vc.2 h
    refine lv_iload_n hx hb d_In_numberOfTrailingZeros_12 rfl (lv_at hl 0 rfl) ?_
    refine lv_bipush (v := 32) hx hb d_In_numberOfTrailingZeros_13 (by decide) ?_
    refine lv_iand hx hb d_In_numberOfTrailingZeros_15 ?_
    exact hret _ ls _ d_In_numberOfTrailingZeros_16 vc
theorem h_In_numberOfTrailingZeros (l : Launch) (x : Int32) (r : Int32) (vc : V_In_numberOfTrailingZeros x (fun v => v = r)) : Pm l y_In_numberOfTrailingZeros b_In_numberOfTrailingZeros 2 (some .int) 0 0 [.int x] wT (.int r) :=
  pm_i (by decide) rfl (Nat.le_of_ble_eq_true rfl) (fun p e s m below meth c ls Q S hB hl hret => g_In_numberOfTrailingZeros S (Nat.le_refl _) (Nat.le_refl _) ⟨Nat.le_refl _, Nat.le_refl _⟩ x hl vc hret)
theorem c_In_numberOfTrailingZeros (l : Launch) (x : Int32) : Pm l y_In_numberOfTrailingZeros b_In_numberOfTrailingZeros 2 (some .int) 0 0 [.int x] wT (.int (iTz x)) := h_In_numberOfTrailingZeros l x _ (by
  unfold V_In_numberOfTrailingZeros
  show _ ∧ _
  unfold iTz iTzY
  generalize (x ^^^ (-1)) &&& (x - 1) = y
  refine ⟨fun h => ⟨fun a c => (a, c) = tzS 65536 16 (y, 1), ⟨fun q => ?_, fun q => ?_⟩, fun a c e1 => ⟨fun a c => (a, c) = tzS 256 8 (tzS 65536 16 (y, 1)), ⟨fun q => ?_, fun q => ?_⟩, fun a2 c2 e2 => ⟨fun a c => (a, c) = tzS 16 4 (tzS 256 8 (tzS 65536 16 (y, 1))), ⟨fun q => ?_, fun q => ?_⟩, fun a3 c3 e3 => ?_⟩⟩⟩, fun h => (if_neg h).symm⟩
  · exact (if_pos q).symm
  · exact (if_neg q).symm
  · rw [← e1]; exact (if_pos q).symm
  · rw [← e1]; exact (if_neg q).symm
  · rw [← e2]; exact (if_pos q).symm
  · rw [← e2]; exact (if_neg q).symm
  · rw [if_pos h, ← e3]
    exact ⟨fun q => (if_pos q).symm, fun q => (if_neg q).symm⟩)
theorem hd_In_numberOfTrailingZeros : y_In_numberOfTrailingZeros.cls ≠ "java/lang/invoke/MethodHandle" ∧ y_In_numberOfTrailingZeros.cls ≠ "java/lang/invoke/VarHandle" ∧ (parseMethodDescriptor y_In_numberOfTrailingZeros.desc).map (fun d => d.parameters.length) = some 1 := ⟨by decide, by decide, by decide +kernel⟩
def V_Lo_numberOfTrailingZeros (x : Int64) (post : Int32 → Prop) : Prop :=
  ((¬ x.toInt32 = 0 → post (iTz x.toInt32)) ∧ (x.toInt32 = 0 → post (32 + (iTz (((x.toUInt64 >>> ((32 : Int32).toInt64.toUInt64 &&& Int64.toUInt64 63)).toInt64 : Int64).toInt32)))))
set_option maxHeartbeats 4000000 in
set_option maxRecDepth 100000 in
theorem g_Lo_numberOfTrailingZeros {p : Program} {l : Launch} {e : Env} {R : Room} {s : State} {m : MethodId} {args : Array Value} {below : List Frame} {meth : Method} {c : Code} {H : Heap} {locs : List Loc} {cells slots : Nat} {Q : State → Prop} {ls : Array Slot} (S : CallFix p m c b_Lo_numberOfTrailingZeros 3 s args W0 R_Lo) (hRf : 1 ≤ R.frames) (hRl : 21 ≤ R.locals) (hRc : cells ≤ R.cells ∧ slots ≤ R.slots) (x : Int64) (hl : lv_has ls 3 [(0, .long x)]) {post : Int32 → Prop} (vc : V_Lo_numberOfTrailingZeros x post)
    (hret : ∀ (v : Int32) (ls : Array Slot) (pc : Nat), decode b_Lo_numberOfTrailingZeros pc = .ok (.ireturn, 1) → post v → W p l e R s m args below meth c H locs cells slots Q (F0 m pc ls [.int v])) : W p l e R s m args below meth c H locs cells slots Q (F0 m 0 ls []) := by
  have hx := S.1
  have hb := S.2.1
  have hown := S.2.2.2.1
  have hts := S.2.2.2.2
  unfold V_Lo_numberOfTrailingZeros at vc
  refine lv_lload_n hx hb d_Lo_numberOfTrailingZeros_0 rfl (lv_at hl 0 rfl) ?_
  refine lv_l2i hx hb d_Lo_numberOfTrailingZeros_1 rfl ?_
  refine lv_istore_n hx hb d_Lo_numberOfTrailingZeros_2 rfl hl (by decide) (lv' := [(2, .int x.toInt32), (0, .long x)]) rfl (fun ls hl => ?_)
  refine lv_iload_n hx hb d_Lo_numberOfTrailingZeros_3 rfl (lv_at hl 0 rfl) ?_
  refine lv_if_ne (tgt := 21) hx hb d_Lo_numberOfTrailingZeros_4 (by decide) (fun h => ?_) (fun h => ?_)
  · have vc := vc.1 h
    refine lv_iload_n hx hb d_Lo_numberOfTrailingZeros_21 rfl (lv_at hl 0 rfl) ?_
    refine pc_S (As := [.int x.toInt32]) (rest := []) S (c_In_numberOfTrailingZeros l x.toInt32) wT_blind k_In_numberOfTrailingZeros s_In_numberOfTrailingZeros o_In ml_Lo_311 hd_In_numberOfTrailingZeros (Nat.le_trans (by decide) hRf) (Nat.le_trans (by decide) hRl) hRc (fun _ _ _ => trivial) hl.1 rfl (Nat.le_of_ble_eq_true rfl) d_Lo_numberOfTrailingZeros_22 ?_
    exact hret _ ls _ d_Lo_numberOfTrailingZeros_25 vc
  · have vc := vc.2 h
    refine lv_bipush (v := 32) hx hb d_Lo_numberOfTrailingZeros_7 (by decide) ?_
    refine lv_lload_n hx hb d_Lo_numberOfTrailingZeros_9 rfl (lv_at hl 1 rfl) ?_
    refine lv_bipush (v := 32) hx hb d_Lo_numberOfTrailingZeros_10 (by decide) ?_
    refine lv_lushr hx hb d_Lo_numberOfTrailingZeros_12 rfl ?_
    refine lv_l2i hx hb d_Lo_numberOfTrailingZeros_13 rfl ?_
    refine pc_S (As := [.int (((x.toUInt64 >>> ((32 : Int32).toInt64.toUInt64 &&& Int64.toUInt64 63)).toInt64 : Int64).toInt32)]) (rest := [.int 32]) S (c_In_numberOfTrailingZeros l (((x.toUInt64 >>> ((32 : Int32).toInt64.toUInt64 &&& Int64.toUInt64 63)).toInt64 : Int64).toInt32)) wT_blind k_In_numberOfTrailingZeros s_In_numberOfTrailingZeros o_In ml_Lo_311 hd_In_numberOfTrailingZeros (Nat.le_trans (by decide) hRf) (Nat.le_trans (by decide) hRl) hRc (fun _ _ _ => trivial) hl.1 rfl (Nat.le_of_ble_eq_true rfl) d_Lo_numberOfTrailingZeros_14 ?_
    refine lv_iadd hx hb d_Lo_numberOfTrailingZeros_17 ?_
    refine lv_goto (tgt := 25) hx hb d_Lo_numberOfTrailingZeros_18 (by decide) ?_
    exact hret _ ls _ d_Lo_numberOfTrailingZeros_25 vc
theorem h_Lo_numberOfTrailingZeros (l : Launch) (x : Int64) (r : Int32) (vc : V_Lo_numberOfTrailingZeros x (fun v => v = r)) : Pm l y_Lo_numberOfTrailingZeros b_Lo_numberOfTrailingZeros 3 (some .int) 1 21 [.long x] wT (.int r) :=
  pm_i (by decide) rfl (Nat.le_of_ble_eq_true rfl) (fun p e s m below meth c ls Q S hB hl hret => g_Lo_numberOfTrailingZeros S (Nat.le_refl _) (Nat.le_refl _) ⟨Nat.le_refl _, Nat.le_refl _⟩ x hl vc hret)
theorem c_Lo_numberOfTrailingZeros (l : Launch) (x : Int64) : Pm l y_Lo_numberOfTrailingZeros b_Lo_numberOfTrailingZeros 3 (some .int) 1 21 [.long x] wT (.int (lTz x)) := h_Lo_numberOfTrailingZeros l x _ (by
  unfold V_Lo_numberOfTrailingZeros
  unfold lTz
  exact ⟨fun h => (if_neg h).symm, fun h => (if_pos h).symm⟩)
theorem hd_Lo_numberOfTrailingZeros : y_Lo_numberOfTrailingZeros.cls ≠ "java/lang/invoke/MethodHandle" ∧ y_Lo_numberOfTrailingZeros.cls ≠ "java/lang/invoke/VarHandle" ∧ (parseMethodDescriptor y_Lo_numberOfTrailingZeros.desc).map (fun d => d.parameters.length) = some 1 := ⟨by decide, by decide, by decide +kernel⟩
