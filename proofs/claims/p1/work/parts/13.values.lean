def sTextLen : Nat → Nat → Nat
  | 0, _ => 0
  | k + 1, n => if n = 0 then 0 else sTextLen k (n / 5) + 1
/-- how many letters a told text has -/
def sCount (t : Int32) : Int32 := if t < 0 then 0 else nI (sTextLen 8 t.toInt.toNat)
theorem sTextLen_le : ∀ k n, sTextLen k n ≤ k := by
  intro k
  induction k with
  | zero => intro n; simp [sTextLen]
  | succ k ih => intro n; simp only [sTextLen]; split; omega; have := ih (n / 5); omega
def V_Le_count (t : Int32) (post : Int32 → Prop) : Prop :=
  (∃ (I5 : Int32 → Int32 → Int32 → Prop) (mI5 : Int32 → Int32 → Int32 → Nat), I5 t 0 0 ∧ (∀ (x2 : Int32) (x3 : Int32) (x4 : Int32), I5 x2 x3 x4 → ((8 ≤ x4 → post x3) ∧ (¬ 8 ≤ x4 → ((x2 ≤ 0 → post x3) ∧ (¬ x2 ≤ 0 → (I5 (x2 / 5) (x3 + 1) (x4 + 1) ∧ mI5 (x2 / 5) (x3 + 1) (x4 + 1) < mI5 x2 x3 x4)))))))
set_option maxHeartbeats 4000000 in
set_option maxRecDepth 100000 in
theorem g_Le_count {p : Program} {l : Launch} {e : Env} {R : Room} {s : State} {m : MethodId} {args : Array Value} {below : List Frame} {meth : Method} {c : Code} {H : Heap} {locs : List Loc} {cells slots : Nat} {Q : State → Prop} {ls : Array Slot} (S : CallFix p m c b_Le_count 4 s args W0 R_Le) (hRf : 0 ≤ R.frames) (hRl : 0 ≤ R.locals) (hRc : cells ≤ R.cells ∧ slots ≤ R.slots) (t : Int32) (hl : lv_has ls 4 [(0, .int t)]) {post : Int32 → Prop} (vc : V_Le_count t post)
    (hret : ∀ (v : Int32) (ls : Array Slot) (pc : Nat), decode b_Le_count pc = .ok (.ireturn, 1) → post v → W p l e R s m args below meth c H locs cells slots Q (F0 m pc ls [.int v])) : W p l e R s m args below meth c H locs cells slots Q (F0 m 0 ls []) := by
  have hx := S.1
  have hb := S.2.1
  have hown := S.2.2.2.1
  have hts := S.2.2.2.2
  unfold V_Le_count at vc
  refine lv_iload_n hx hb d_Le_count_0 rfl (lv_at hl 0 rfl) ?_
  refine lv_istore_n hx hb d_Le_count_1 rfl hl (by decide) (lv' := [(1, .int t), (0, .int t)]) rfl (fun ls hl => ?_)
  refine lv_iconst (v := 0) hx hb d_Le_count_2 (by decide) ?_
  refine lv_istore_n hx hb d_Le_count_3 rfl hl (by decide) (lv' := [(2, .int 0), (1, .int t), (0, .int t)]) rfl (fun ls hl => ?_)
  refine lv_iconst (v := 0) hx hb d_Le_count_4 (by decide) ?_
  refine lv_istore_n hx hb d_Le_count_5 rfl hl (by decide) (lv' := [(3, .int 0), (2, .int 0), (1, .int t), (0, .int t)]) rfl (fun ls hl => ?_)
  obtain ⟨I5, mI5, vc0, vcs⟩ := vc
  have lI5 : ∀ n : Nat, ∀ (x2 : Int32) (x3 : Int32) (x4 : Int32) (ls : Array Slot), I5 x2 x3 x4 → mI5 x2 x3 x4 < n → lv_has ls 4 [(0, .int t), (1, .int x2), (2, .int x3), (3, .int x4)] → W p l e R s m args below meth c H locs cells slots Q (F0 m 6 ls []) := by
    intro n
    induction n with
    | zero => intro x2 x3 x4 ls _ h; exact absurd h (Nat.not_lt_zero _)
    | succ n ihI5 =>
      intro x2 x3 x4 ls vc hmI5 hl
      have vc := vcs x2 x3 x4 vc
      refine lv_iload_n hx hb d_Le_count_6 rfl (lv_at hl 3 rfl) ?_
      refine lv_bipush (v := 8) hx hb d_Le_count_7 (by decide) ?_
      refine lv_icmp_ge (tgt := 29) hx hb d_Le_count_9 (by decide) (fun h => ?_) (fun h => ?_)
      · have vc := vc.1 h
        refine lv_iload_n hx hb d_Le_count_29 rfl (lv_at hl 2 rfl) ?_
        exact hret _ ls _ d_Le_count_30 vc
      · have vc := vc.2 h
        refine lv_iload_n hx hb d_Le_count_12 rfl (lv_at hl 1 rfl) ?_
        refine lv_if_le (tgt := 29) hx hb d_Le_count_13 (by decide) (fun h => ?_) (fun h => ?_)
        · have vc := vc.1 h
          refine lv_iload_n hx hb d_Le_count_29 rfl (lv_at hl 2 rfl) ?_
          exact hret _ ls _ d_Le_count_30 vc
        · have vc := vc.2 h
          refine lv_iload_n hx hb d_Le_count_16 rfl (lv_at hl 1 rfl) ?_
          refine lv_iconst (v := 5) hx hb d_Le_count_17 (by decide) ?_
          refine lv_idiv hx hb d_Le_count_18 (by decide) ?_
          refine lv_istore_n hx hb d_Le_count_19 rfl hl (by decide) (lv' := [(1, .int (x2 / 5)), (0, .int t), (2, .int x3), (3, .int x4)]) rfl (fun ls hl => ?_)
          refine lv_iinc (k := 2) (v := x3 + 1) hx hb d_Le_count_20 hl rfl rfl (by decide) (lv' := [(2, .int (x3 + 1)), (1, .int (x2 / 5)), (0, .int t), (3, .int x4)]) rfl (fun ls hl => ?_)
          refine lv_iinc (k := 3) (v := x4 + 1) hx hb d_Le_count_23 hl rfl rfl (by decide) (lv' := [(3, .int (x4 + 1)), (2, .int (x3 + 1)), (1, .int (x2 / 5)), (0, .int t)]) rfl (fun ls hl => ?_)
          refine lv_goto (tgt := 6) hx hb d_Le_count_26 (by decide) ?_
          exact ihI5 (x2 / 5) (x3 + 1) (x4 + 1) ls vc.1 (Nat.lt_of_lt_of_le vc.2 (Nat.le_of_lt_succ hmI5)) (lv_sub hl [3, 2, 1, 0] rfl)
  exact lI5 _ t 0 0 ls vc0 (Nat.lt_succ_self _) (lv_sub hl [3, 2, 1, 0] rfl)
theorem h_Le_count (l : Launch) (t : Int32) (r : Int32) (vc : V_Le_count t (fun v => v = r)) : Pm l y_Le_count b_Le_count 4 (some .int) 0 0 [.int t] wT (.int r) :=
  pm_i (by decide) rfl (Nat.le_of_ble_eq_true rfl) (fun p e s m below meth c ls Q S hB hl hret => g_Le_count S (Nat.le_refl _) (Nat.le_refl _) ⟨Nat.le_refl _, Nat.le_refl _⟩ t hl vc hret)
theorem c_Le_count (l : Launch) (t : Int32) : Pm l y_Le_count b_Le_count 4 (some .int) 0 0 [.int t] wT (.int (sCount t)) := h_Le_count l t _ (by
  unfold V_Le_count
  refine ⟨fun x c i => (x = t ∧ c = 0 ∧ t < 0) ∨ ∃ k n q : Nat, k ≤ 8 ∧ n < 2 ^ 31 ∧ x = nI n ∧ i = nI (8 - k) ∧ c = nI q ∧ ¬ t < 0 ∧ q + sTextLen k n = sTextLen 8 t.toInt.toNat, fun _ _ i => 8 - i.toInt.toNat, ?_, ?_⟩
  · by_cases h : t < 0
    · exact Or.inl ⟨rfl, rfl, h⟩
    · obtain ⟨n, hn, rfl⟩ := of_i h
      exact Or.inr ⟨8, n, 0, by decide, hn, rfl, rfl, rfl, h, by rw [nI_toInt hn]; simp⟩
  · intro x c i hI
    refine ⟨fun h => ?_, fun h => ⟨fun h2 => ?_, fun h2 => ?_⟩⟩
    · rcases hI with ⟨rfl, rfl, h0⟩ | ⟨k, n, q, hk, hn, rfl, rfl, rfl, ht, e⟩
      · simp [sCount, h0]
      · have h' : (8 : Nat) ≤ 8 - k := (nI_leI (a := 8) (b := 8 - k) (by decide) (by omega)).mp h
        have : k = 0 := by omega
        subst this
        simp only [sCount, ht, if_false, ← e]; simp [sTextLen]
    · rcases hI with ⟨rfl, rfl, h0⟩ | ⟨k, n, q, hk, hn, rfl, rfl, rfl, ht, e⟩
      · simp [sCount, h0]
      · have : n = 0 := (nI_le0 hn).mp h2
        subst this
        have e0 : sTextLen k 0 = 0 := by cases k <;> simp [sTextLen]
        simp only [sCount, ht, if_false, ← e, e0]; simp
    · rcases hI with ⟨rfl, rfl, h0⟩ | ⟨k, n, q, hk, hn, rfl, rfl, rfl, ht, e⟩
      · exact absurd (Int32.le_of_lt h0) h2
      · have hk8 : 8 - k < 8 := by
          have := mt (nI_leI (a := 8) (b := 8 - k) (by decide) (by omega)).mpr h
          omega
        have hn0 : n ≠ 0 := fun h => h2 ((nI_le0 hn).mpr h)
        obtain ⟨k, rfl⟩ : ∃ k', k = k' + 1 := ⟨k - 1, by omega⟩
        have e2 : nI (8 - (k + 1)) + 1 = nI (8 - k) := by rw [nI_1]; congr 1; omega
        refine ⟨Or.inr ⟨k, n / 5, q + 1, by omega, by omega, div5 hn, e2, nI_1 q, ht, ?_⟩, ?_⟩
        · rw [← e]; simp [sTextLen, hn0]; omega
        · show 8 - (nI (8 - (k + 1)) + 1).toInt.toNat < 8 - (nI (8 - (k + 1))).toInt.toNat
          rw [e2, nI_toInt (by omega), nI_toInt (by omega)]; omega)
theorem hd_Le_count : y_Le_count.cls ≠ "java/lang/invoke/MethodHandle" ∧ y_Le_count.cls ≠ "java/lang/invoke/VarHandle" ∧ (parseMethodDescriptor y_Le_count.desc).map (fun d => d.parameters.length) = some 1 := ⟨by decide, by decide, by decide +kernel⟩
def V_Va_areEqual (ki : Nat → Int32) (co : Nat → Int64) (pr : Nat → Int32) (pa : Nat → Int32) (tw : Nat → Int32) (nv : Int32) (sv : Int32) (x : Int32) (y : Int32) (post : Int32 → Prop) : Prop :=
  (vp_in x 40 ∧ (vp_in y 40 ∧ ((¬ (tw x.toNatClampNeg) = (tw y.toNatClampNeg) → post 0) ∧ ((tw x.toNatClampNeg) = (tw y.toNatClampNeg) → post 1))))
set_option maxHeartbeats 4000000 in
set_option maxRecDepth 100000 in
theorem g_Va_areEqual {p : Program} {l : Launch} {e : Env} {R : Room} {s : State} {m : MethodId} {args : Array Value} {below : List Frame} {meth : Method} {c : Code} {H : Heap} {locs : List Loc} {cells slots : Nat} {Q : State → Prop} {ls : Array Slot} (S : CallFix p m c b_Va_areEqual 3 s args W0 R_Va) (hRf : 0 ≤ R.frames) (hRl : 0 ≤ R.locals) (hRc : cells ≤ R.cells ∧ slots ≤ R.slots) (D : va_G) (a : Nat → Nat) (cI cJ cZ : ClassId) (ki : Nat → Int32) (co : Nat → Int64) (pr : Nat → Int32) (pa : Nat → Int32) (tw : Nat → Int32) (nv : Int32) (sv : Int32) (x : Int32) (y : Int32) (hK : va_K D vwCl (tyA cI cJ cZ) s) (hP : va_P D vwCl (wV a cI cJ ki co pr pa tw nv sv) H) (hl : lv_has ls 3 [(0, .ref (a 0)), (1, .int x), (2, .int y)]) {post : Int32 → Prop} (vc : V_Va_areEqual ki co pr pa tw nv sv x y post)
    (hret : ∀ (v : Int32) (ls : Array Slot) (pc : Nat), decode b_Va_areEqual pc = .ok (.ireturn, 1) → post v → W p l e R s m args below meth c H locs cells slots Q (F0 m pc ls [.int v])) : W p l e R s m args below meth c H locs cells slots Q (F0 m 0 ls []) := by
  have hx := S.1
  have hb := S.2.1
  have hown := S.2.2.2.1
  have hts := S.2.2.2.2
  unfold V_Va_areEqual at vc
  refine lv_aload_n hx hb d_Va_areEqual_0 rfl (lv_at hl 0 rfl) ?_
  refine va_get (D := D) (ci := 4) (v := .ref (a 5)) (C := R_Va) (T := F_Va) (N := 7) hx hb hts in_Va hown hK hP 0 rfl rfl 4 (by decide) (hts _ fl_Va_23) (fun _ h => h) rfl d_Va_areEqual_1 ?_
  refine lv_iload_n hx hb d_Va_areEqual_4 rfl (lv_at hl 1 rfl) ?_
  obtain ⟨vcb, vc⟩ := vc
  refine va_iald hx hb hK hP 5 0 rfl rfl vcb d_Va_areEqual_5 ?_
  refine lv_aload_n hx hb d_Va_areEqual_6 rfl (lv_at hl 0 rfl) ?_
  refine va_get (D := D) (ci := 4) (v := .ref (a 5)) (C := R_Va) (T := F_Va) (N := 7) hx hb hts in_Va hown hK hP 0 rfl rfl 4 (by decide) (hts _ fl_Va_23) (fun _ h => h) rfl d_Va_areEqual_7 ?_
  refine lv_iload_n hx hb d_Va_areEqual_10 rfl (lv_at hl 2 rfl) ?_
  obtain ⟨vcb, vc⟩ := vc
  refine va_iald hx hb hK hP 5 0 rfl rfl vcb d_Va_areEqual_11 ?_
  refine lv_icmp_ne (tgt := 19) hx hb d_Va_areEqual_12 (by decide) (fun h => ?_) (fun h => ?_)
  · have vc := vc.1 h
    refine lv_iconst (v := 0) hx hb d_Va_areEqual_19 (by decide) ?_
    exact hret _ ls _ d_Va_areEqual_20 vc
  · have vc := vc.2 h
    refine lv_iconst (v := 1) hx hb d_Va_areEqual_15 (by decide) ?_
    refine lv_goto (tgt := 20) hx hb d_Va_areEqual_16 (by decide) ?_
    exact hret _ ls _ d_Va_areEqual_20 vc
theorem h_Va_areEqual (l : Launch) (D : va_G) (a : Nat → Nat) (cI cJ cZ : ClassId) (ki : Nat → Int32) (co : Nat → Int64) (pr : Nat → Int32) (pa : Nat → Int32) (tw : Nat → Int32) (nv : Int32) (sv : Int32) (x : Int32) (y : Int32) (r : Int32) (hr : narrow .boolean (.int r) = .int r) (vc : V_Va_areEqual ki co pr pa tw nv sv x y (fun v => v = r)) : Pm l y_Va_areEqual b_Va_areEqual 3 (some .boolean) 0 0 [.ref (a 0), .int x, .int y] (wB D (tyA cI cJ cZ) (wV a cI cJ ki co pr pa tw nv sv)) (.int r) :=
  pm_i (by decide) hr (Nat.le_of_ble_eq_true rfl) (fun p e s m below meth c ls Q S hB hl hret => g_Va_areEqual S (Nat.le_refl _) (Nat.le_refl _) ⟨Nat.le_refl _, Nat.le_refl _⟩ D a cI cJ cZ ki co pr pa tw nv sv x y hB.2 hB.1 hl vc hret)
theorem c_Va_areEqual (l : Launch) (D : va_G) (a : Nat → Nat) (cI cJ cZ : ClassId) (ki : Nat → Int32) (co : Nat → Int64) (pr : Nat → Int32) (pa : Nat → Int32) (tw : Nat → Int32) (nv : Int32) (sv : Int32) (x : Int32) (y : Int32) (hpre : (vp_in x 40 ∧ vp_in y 40)) : Pm l y_Va_areEqual b_Va_areEqual 3 (some .boolean) 0 0 [.ref (a 0), .int x, .int y] (wB D (tyA cI cJ cZ) (wV a cI cJ ki co pr pa tw nv sv)) (.int (bI (decide (tw x.toNatClampNeg = tw y.toNatClampNeg)))) := h_Va_areEqual l D a cI cJ cZ ki co pr pa tw nv sv x y _ (bI_nar _) (by
  unfold V_Va_areEqual
  refine ⟨hpre.1, hpre.2, fun h => ?_, fun h => ?_⟩ <;> simp_all [bI])
theorem hd_Va_areEqual : y_Va_areEqual.cls ≠ "java/lang/invoke/MethodHandle" ∧ y_Va_areEqual.cls ≠ "java/lang/invoke/VarHandle" ∧ (parseMethodDescriptor y_Va_areEqual.desc).map (fun d => d.parameters.length) = some 2 := ⟨by decide, by decide, by decide +kernel⟩

def V_Va_sizeOf (ki : Nat → Int32) (co : Nat → Int64) (pr : Nat → Int32) (pa : Nat → Int32) (tw : Nat → Int32) (nv : Int32) (sv : Int32) (x : Int32) (post : Int32 → Prop) : Prop :=
  (vp_in x 40 ∧ ((¬ (ki x.toNatClampNeg) = 3 → (vp_in x 40 ∧ post (iBits (pr x.toNatClampNeg)))) ∧ ((ki x.toNatClampNeg) = 3 → (vp_in x 40 ∧ post (sCount ((co x.toNatClampNeg : Int64).toInt32))))))
set_option maxHeartbeats 4000000 in
set_option maxRecDepth 100000 in
theorem g_Va_sizeOf {p : Program} {l : Launch} {e : Env} {R : Room} {s : State} {m : MethodId} {args : Array Value} {below : List Frame} {meth : Method} {c : Code} {H : Heap} {locs : List Loc} {cells slots : Nat} {Q : State → Prop} {ls : Array Slot} (S : CallFix p m c b_Va_sizeOf 2 s args W0 R_Va) (hRf : 1 ≤ R.frames) (hRl : 23 ≤ R.locals) (hRc : cells ≤ R.cells ∧ slots ≤ R.slots) (D : va_G) (a : Nat → Nat) (cI cJ cZ : ClassId) (ki : Nat → Int32) (co : Nat → Int64) (pr : Nat → Int32) (pa : Nat → Int32) (tw : Nat → Int32) (nv : Int32) (sv : Int32) (x : Int32) (hK : va_K D vwCl (tyA cI cJ cZ) s) (hP : va_P D vwCl (wV a cI cJ ki co pr pa tw nv sv) H) (hl : lv_has ls 2 [(0, .ref (a 0)), (1, .int x)]) {post : Int32 → Prop} (vc : V_Va_sizeOf ki co pr pa tw nv sv x post)
    (hret : ∀ (v : Int32) (ls : Array Slot) (pc : Nat), decode b_Va_sizeOf pc = .ok (.ireturn, 1) → post v → W p l e R s m args below meth c H locs cells slots Q (F0 m pc ls [.int v])) : W p l e R s m args below meth c H locs cells slots Q (F0 m 0 ls []) := by
  have hx := S.1
  have hb := S.2.1
  have hown := S.2.2.2.1
  have hts := S.2.2.2.2
  unfold V_Va_sizeOf at vc
  refine lv_aload_n hx hb d_Va_sizeOf_0 rfl (lv_at hl 0 rfl) ?_
  refine va_get (D := D) (ci := 4) (v := .ref (a 1)) (C := R_Va) (T := F_Va) (N := 7) hx hb hts in_Va hown hK hP 0 rfl rfl 0 (by decide) (hts _ fl_Va_9) (fun _ h => h) rfl d_Va_sizeOf_1 ?_
  refine lv_iload_n hx hb d_Va_sizeOf_4 rfl (lv_at hl 1 rfl) ?_
  obtain ⟨vcb, vc⟩ := vc
  refine va_iald hx hb hK hP 1 0 rfl rfl vcb d_Va_sizeOf_5 ?_
  refine lv_iconst (v := 3) hx hb d_Va_sizeOf_6 (by decide) ?_
  refine lv_icmp_ne (tgt := 23) hx hb d_Va_sizeOf_7 (by decide) (fun h => ?_) (fun h => ?_)
  · have vc := vc.1 h
    refine lv_aload_n hx hb d_Va_sizeOf_23 rfl (lv_at hl 0 rfl) ?_
    refine va_get (D := D) (ci := 4) (v := .ref (a 3)) (C := R_Va) (T := F_Va) (N := 7) hx hb hts in_Va hown hK hP 0 rfl rfl 2 (by decide) (hts _ fl_Va_17) (fun _ h => h) rfl d_Va_sizeOf_24 ?_
    refine lv_iload_n hx hb d_Va_sizeOf_27 rfl (lv_at hl 1 rfl) ?_
    obtain ⟨vcb, vc⟩ := vc
    refine va_iald hx hb hK hP 3 0 rfl rfl vcb d_Va_sizeOf_28 ?_
    refine pc_S (As := [.int (pr x.toNatClampNeg)]) (rest := []) S (c_In_bitCount l (pr x.toNatClampNeg)) wT_blind k_In_bitCount s_In_bitCount o_In ml_Va_50 hd_In_bitCount (Nat.le_trans (by decide) hRf) (Nat.le_trans (by decide) hRl) hRc (fun _ _ _ => trivial) hl.1 rfl (Nat.le_of_ble_eq_true rfl) d_Va_sizeOf_29 ?_
    exact hret _ ls _ d_Va_sizeOf_32 vc
  · have vc := vc.2 h
    refine lv_aload_n hx hb d_Va_sizeOf_10 rfl (lv_at hl 0 rfl) ?_
    refine va_get (D := D) (ci := 4) (v := .ref (a 2)) (C := R_Va) (T := F_Va) (N := 7) hx hb hts in_Va hown hK hP 0 rfl rfl 1 (by decide) (hts _ fl_Va_13) (fun _ h => h) rfl d_Va_sizeOf_11 ?_
    refine lv_iload_n hx hb d_Va_sizeOf_14 rfl (lv_at hl 1 rfl) ?_
    obtain ⟨vcb, vc⟩ := vc
    refine va_lald hx hb hK hP 2 1 rfl rfl vcb d_Va_sizeOf_15 ?_
    refine lv_l2i hx hb d_Va_sizeOf_16 rfl ?_
    refine pc_S (As := [.int ((co x.toNatClampNeg : Int64).toInt32)]) (rest := []) S (c_Le_count l ((co x.toNatClampNeg : Int64).toInt32)) wT_blind k_Le_count s_Le_count o_Le ml_Va_45 hd_Le_count (Nat.le_trans (by decide) hRf) (Nat.le_trans (by decide) hRl) hRc (fun _ _ _ => trivial) hl.1 rfl (Nat.le_of_ble_eq_true rfl) d_Va_sizeOf_17 ?_
    refine lv_goto (tgt := 32) hx hb d_Va_sizeOf_20 (by decide) ?_
    exact hret _ ls _ d_Va_sizeOf_32 vc
theorem h_Va_sizeOf (l : Launch) (D : va_G) (a : Nat → Nat) (cI cJ cZ : ClassId) (ki : Nat → Int32) (co : Nat → Int64) (pr : Nat → Int32) (pa : Nat → Int32) (tw : Nat → Int32) (nv : Int32) (sv : Int32) (x : Int32) (r : Int32) (vc : V_Va_sizeOf ki co pr pa tw nv sv x (fun v => v = r)) : Pm l y_Va_sizeOf b_Va_sizeOf 2 (some .int) 1 23 [.ref (a 0), .int x] (wB D (tyA cI cJ cZ) (wV a cI cJ ki co pr pa tw nv sv)) (.int r) :=
  pm_i (by decide) rfl (Nat.le_of_ble_eq_true rfl) (fun p e s m below meth c ls Q S hB hl hret => g_Va_sizeOf S (Nat.le_refl _) (Nat.le_refl _) ⟨Nat.le_refl _, Nat.le_refl _⟩ D a cI cJ cZ ki co pr pa tw nv sv x hB.2 hB.1 hl vc hret)
theorem c_Va_sizeOf (l : Launch) (D : va_G) (a : Nat → Nat) (cI cJ cZ : ClassId) (ki : Nat → Int32) (co : Nat → Int64) (pr : Nat → Int32) (pa : Nat → Int32) (tw : Nat → Int32) (nv : Int32) (sv : Int32) (x : Int32) (hpre : vp_in x 40) : Pm l y_Va_sizeOf b_Va_sizeOf 2 (some .int) 1 23 [.ref (a 0), .int x] (wB D (tyA cI cJ cZ) (wV a cI cJ ki co pr pa tw nv sv)) (.int (if ki x.toNatClampNeg = 3 then sCount (co x.toNatClampNeg).toInt32 else iBits (pr x.toNatClampNeg))) := h_Va_sizeOf l D a cI cJ cZ ki co pr pa tw nv sv x _ (by
  unfold V_Va_sizeOf
  refine ⟨hpre, fun h => ⟨hpre, ?_⟩, fun h => ⟨hpre, ?_⟩⟩ <;> simp_all)
theorem hd_Va_sizeOf : y_Va_sizeOf.cls ≠ "java/lang/invoke/MethodHandle" ∧ y_Va_sizeOf.cls ≠ "java/lang/invoke/VarHandle" ∧ (parseMethodDescriptor y_Va_sizeOf.desc).map (fun d => d.parameters.length) = some 1 := ⟨by decide, by decide, by decide +kernel⟩
def V_Va_setPart (ki : Nat → Int32) (co : Nat → Int64) (pr : Nat → Int32) (pa : Nat → Int32) (tw : Nat → Int32) (nv : Int32) (sv : Int32) (r : Int32) (i : Int32) (x : Int32) (post : (Nat → Int32) → (Nat → Int64) → (Nat → Int32) → (Nat → Int32) → (Nat → Int32) → Int32 → Int32 → Prop) : Prop :=
  (vp_in ((r * 12) + i) 480 ∧ (vp_in r 40 ∧ (vp_in r 40 ∧ post ki co (upd pr r.toNatClampNeg ((pr r.toNatClampNeg) ||| (1 <<< (i &&& 31)))) (upd pa ((r * 12) + i : Int32).toNatClampNeg x) tw nv (if r < sv then r else sv))))
set_option maxHeartbeats 4000000 in
set_option maxRecDepth 100000 in
theorem g_Va_setPart {p : Program} {l : Launch} {e : Env} {R : Room} {s : State} {m : MethodId} {args : Array Value} {below : List Frame} {meth : Method} {c : Code} {H : Heap} {locs : List Loc} {cells slots : Nat} {Q : State → Prop} {ls : Array Slot} {A : Nat → Prop} (S : CallFix p m c b_Va_setPart 4 s args W0 R_Va) (hRf : 1 ≤ R.frames) (hRl : 21 ≤ R.locals) (hRc : cells ≤ R.cells ∧ slots ≤ R.slots) (D : va_G) (a : Nat → Nat) (cI cJ cZ : ClassId) (ki : Nat → Int32) (co : Nat → Int64) (pr : Nat → Int32) (pa : Nat → Int32) (tw : Nat → Int32) (nv : Int32) (sv : Int32) (r : Int32) (i : Int32) (x : Int32) (hK : va_K D vwCl (tyA cI cJ cZ) s) (hP : va_P D vwCl (wV a cI cJ ki co pr pa tw nv sv) H) (hD : va_D A (wV a cI cJ ki co pr pa tw nv sv)) (hA : ∀ q, s.heap.size ≤ q → A q) (hS : va_S A s.heap H locs) (hl : lv_has ls 4 [(0, .ref (a 0)), (1, .int r), (2, .int i), (3, .int x)]) {post : (Nat → Int32) → (Nat → Int64) → (Nat → Int32) → (Nat → Int32) → (Nat → Int32) → Int32 → Int32 → Prop} (vc : V_Va_setPart ki co pr pa tw nv sv r i x post)
    (hret : ∀ (ki : Nat → Int32) (co : Nat → Int64) (pr : Nat → Int32) (pa : Nat → Int32) (tw : Nat → Int32) (nv : Int32) (sv : Int32) (ls : Array Slot) (pc : Nat) (H : Heap) (locs : List Loc), decode b_Va_setPart pc = .ok (.return_, 1) → post ki co pr pa tw nv sv → va_P D vwCl (wV a cI cJ ki co pr pa tw nv sv) H → va_D A (wV a cI cJ ki co pr pa tw nv sv) → va_S A s.heap H locs → W p l e R s m args below meth c H locs cells slots Q (F0 m pc ls [])) : W p l e R s m args below meth c H locs cells slots Q (F0 m 0 ls []) := by
  have hx := S.1
  have hb := S.2.1
  have hown := S.2.2.2.1
  have hts := S.2.2.2.2
  unfold V_Va_setPart at vc
  refine lv_aload_n hx hb d_Va_setPart_0 rfl (lv_at hl 0 rfl) ?_
  refine va_get (D := D) (ci := 4) (v := .ref (a 4)) (C := R_Va) (T := F_Va) (N := 7) hx hb hts in_Va hown hK hP 0 rfl rfl 3 (by decide) (hts _ fl_Va_20) (fun _ h => h) rfl d_Va_setPart_1 ?_
  refine lv_iload_n hx hb d_Va_setPart_4 rfl (lv_at hl 1 rfl) ?_
  refine lv_bipush (v := 12) hx hb d_Va_setPart_5 (by decide) ?_
  refine lv_imul hx hb d_Va_setPart_7 ?_
  refine lv_iload_n hx hb d_Va_setPart_8 rfl (lv_at hl 2 rfl) ?_
  refine lv_iadd hx hb d_Va_setPart_9 ?_
  refine lv_iload_n hx hb d_Va_setPart_10 rfl (lv_at hl 3 rfl) ?_
  obtain ⟨vcb, vc⟩ := vc
  refine va_iast hx hb hK hP hD hS 4 0 rfl rfl vcb d_Va_setPart_11 (fun H locs hP hD hS => ?_)
  have hP : va_P D vwCl (wV a cI cJ ki co pr (upd pa ((r * 12) + i : Int32).toNatClampNeg x) tw nv sv) H := hP
  have hD : va_D A (wV a cI cJ ki co pr (upd pa ((r * 12) + i : Int32).toNatClampNeg x) tw nv sv) := hD
  refine lv_aload_n hx hb d_Va_setPart_12 rfl (lv_at hl 0 rfl) ?_
  refine va_get (D := D) (ci := 4) (v := .ref (a 3)) (C := R_Va) (T := F_Va) (N := 7) hx hb hts in_Va hown hK hP 0 rfl rfl 2 (by decide) (hts _ fl_Va_17) (fun _ h => h) rfl d_Va_setPart_13 ?_
  refine lv_iload_n hx hb d_Va_setPart_16 rfl (lv_at hl 1 rfl) ?_
  refine lv_dup2_11 hx hb d_Va_setPart_17 rfl rfl ?_
  obtain ⟨vcb, vc⟩ := vc
  refine va_iald hx hb hK hP 3 0 rfl rfl vcb d_Va_setPart_18 ?_
  refine lv_iconst (v := 1) hx hb d_Va_setPart_19 (by decide) ?_
  refine lv_iload_n hx hb d_Va_setPart_20 rfl (lv_at hl 2 rfl) ?_
  refine lv_ishl hx hb d_Va_setPart_21 ?_
  refine lv_ior hx hb d_Va_setPart_22 ?_
  obtain ⟨vcb, vc⟩ := vc
  refine va_iast hx hb hK hP hD hS 3 0 rfl rfl vcb d_Va_setPart_23 (fun H locs hP hD hS => ?_)
  have hP : va_P D vwCl (wV a cI cJ ki co (upd pr r.toNatClampNeg ((pr r.toNatClampNeg) ||| (1 <<< (i &&& 31)))) (upd pa ((r * 12) + i : Int32).toNatClampNeg x) tw nv sv) H := hP
  have hD : va_D A (wV a cI cJ ki co (upd pr r.toNatClampNeg ((pr r.toNatClampNeg) ||| (1 <<< (i &&& 31)))) (upd pa ((r * 12) + i : Int32).toNatClampNeg x) tw nv sv) := hD
  refine lv_aload_n hx hb d_Va_setPart_24 rfl (lv_at hl 0 rfl) ?_
  refine lv_aload_n hx hb d_Va_setPart_25 rfl (lv_at hl 0 rfl) ?_
  refine va_get (D := D) (ci := 4) (v := .int sv) (C := R_Va) (T := F_Va) (N := 7) hx hb hts in_Va hown hK hP 0 rfl rfl 6 (by decide) (hts _ fl_Va_34) (fun _ h => h) rfl d_Va_setPart_26 ?_
  refine lv_iload_n hx hb d_Va_setPart_29 rfl (lv_at hl 1 rfl) ?_
  refine va_mmin hx hb (S.2.2.1.trans hl.1.symm) hown (hts _ ml_Va_37) (hts _ s_mmin) (hts _ o_mm) (hts _ k_mmin) (Nat.le_trans (by decide) hRf) (Nat.le_trans (Nat.le_of_ble_eq_true rfl) hRl) hRc.1 hRc.2 d_Va_setPart_30 ?_
  refine va_put (D := D) (ci := 4) (v := .int (if r < sv then r else sv)) (ty := .int) (C := R_Va) (T := F_Va) (N := 7) hx hb hts in_Va t_Va t_Va_ok n_Va hown hK hP hD hS 0 rfl rfl 6 (by decide) (hts _ fl_Va_34) (fun _ h => h) rfl (by decide +kernel) rfl rfl (Nat.le_of_ble_eq_true rfl) d_Va_setPart_33 (fun H locs hP hD hS => ?_)
  have hP : va_P D vwCl (wV a cI cJ ki co (upd pr r.toNatClampNeg ((pr r.toNatClampNeg) ||| (1 <<< (i &&& 31)))) (upd pa ((r * 12) + i : Int32).toNatClampNeg x) tw nv (if r < sv then r else sv)) H := hP
  have hD : va_D A (wV a cI cJ ki co (upd pr r.toNatClampNeg ((pr r.toNatClampNeg) ||| (1 <<< (i &&& 31)))) (upd pa ((r * 12) + i : Int32).toNatClampNeg x) tw nv (if r < sv then r else sv)) := hD
  exact hret _ _ _ _ _ _ _ ls _ H locs d_Va_setPart_36 vc hP hD hS
theorem h_Va_setPart (l : Launch) (D : va_G) (a : Nat → Nat) (cI cJ cZ : ClassId) (ki : Nat → Int32) (co : Nat → Int64) (pr : Nat → Int32) (pa : Nat → Int32) (tw : Nat → Int32) (nv : Int32) (sv : Int32) (r : Int32) (i : Int32) (x : Int32) (ki' : Nat → Int32) (co' : Nat → Int64) (pr' : Nat → Int32) (pa' : Nat → Int32) (tw' : Nat → Int32) (nv' : Int32) (sv' : Int32) (vc : V_Va_setPart ki co pr pa tw nv sv r i x (fun ki co pr pa tw nv sv => ki = ki' ∧ co = co' ∧ pr = pr' ∧ pa = pa' ∧ tw = tw' ∧ nv = nv' ∧ sv = sv')) : Wm (S := Unit) l y_Va_setPart b_Va_setPart 4 none 1 21 [.ref (a 0), .int r, .int i, .int x] D (tyA cI cJ cZ) (wV a cI cJ ki co pr pa tw nv sv) (fun _ => True) (fun _ => none) (fun _ => (wV a cI cJ ki' co' pr' pa' tw' nv' sv')) :=
  wm_v (by decide) (Nat.le_of_ble_eq_true rfl) (fun p e s m below meth c ls Q A S hK hP hD hA hS hl hret => g_Va_setPart S (Nat.le_refl _) (Nat.le_refl _) ⟨Nat.le_refl _, Nat.le_refl _⟩ D a cI cJ cZ ki co pr pa tw nv sv r i x hK hP hD hA hS hl vc (fun ki co pr pa tw nv sv ls pc H locs hd hv hP hD hS => by obtain ⟨rfl, rfl, rfl, rfl, rfl, rfl, rfl⟩ := hv; exact hret () ls pc H locs hd trivial hP hD hS))
theorem c_Va_setPart (l : Launch) (D : va_G) (a : Nat → Nat) (cI cJ cZ : ClassId) (ki : Nat → Int32) (co : Nat → Int64) (pr : Nat → Int32) (pa : Nat → Int32) (tw : Nat → Int32) (nv : Int32) (sv : Int32) (r : Int32) (i : Int32) (x : Int32) (hpre : (vp_in r 40 ∧ vp_in (r * 12 + i) 480)) : Wm (S := Unit) l y_Va_setPart b_Va_setPart 4 none 1 21 [.ref (a 0), .int r, .int i, .int x] D (tyA cI cJ cZ) (wV a cI cJ ki co pr pa tw nv sv) (fun _ => True) (fun _ => none) (fun _ => (wV a cI cJ ki co (upd pr r.toNatClampNeg (pr r.toNatClampNeg ||| (1 <<< (i &&& 31)))) (upd pa (r * 12 + i : Int32).toNatClampNeg x) tw nv (if r < sv then r else sv))) := h_Va_setPart l D a cI cJ cZ ki co pr pa tw nv sv r i x _ _ _ _ _ _ _ (by
  unfold V_Va_setPart
  exact ⟨hpre.2, hpre.1, hpre.1, rfl, rfl, rfl, rfl, rfl, rfl, rfl⟩)
theorem hd_Va_setPart : y_Va_setPart.cls ≠ "java/lang/invoke/MethodHandle" ∧ y_Va_setPart.cls ≠ "java/lang/invoke/VarHandle" ∧ (parseMethodDescriptor y_Va_setPart.desc).map (fun d => d.parameters.length) = some 3 := ⟨by decide, by decide, by decide +kernel⟩
