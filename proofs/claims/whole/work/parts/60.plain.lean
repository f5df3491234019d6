/-! ===== the plain keywords ===== -/
def plS (ki : Nat → Int32) (co : Nat → Int64) (pb : Nat → Nat → Prop) (pt : Nat → Nat → Nat) (tw pn pl po pf pe : Nat → Int32) (k v : Nat) (x : Int32) : Prop :=
  (k = 0 → bt x (ki v).toNatClampNeg = true ∨ (ki v = 2 ∧ bt x 6 = true ∧ co v - co v / 1000 * 1000 = 0)) ∧
  (k = 1 → tw v = tw x.toNatClampNeg) ∧
  (k = 2 → ∃ i, i < 12 ∧ pb x.toNatClampNeg i ∧ tw (pt x.toNatClampNeg i) = tw v) ∧
  (k = 3 → ki v = 2 → co x.toNatClampNeg ≤ co v) ∧ (k = 4 → ki v = 2 → co v ≤ co x.toNatClampNeg) ∧
  (k = 5 → ki v = 2 → co x.toNatClampNeg < co v) ∧ (k = 6 → ki v = 2 → co v < co x.toNatClampNeg) ∧
  (k = 7 → ki v = 2 → co v - co v / co x.toNatClampNeg * co x.toNatClampNeg = 0) ∧
  (k = 8 → ki v = 3 → x.toNatClampNeg ≤ sTextLen 8 (co v).toInt32.toNatClampNeg) ∧ (k = 9 → ki v = 3 → sTextLen 8 (co v).toInt32.toNatClampNeg ≤ x.toNatClampNeg) ∧
  (k = 10 → ki v = 3 → sMatch pn pl po pf pe x.toNatClampNeg (co v).toInt32.toNatClampNeg = true) ∧
  (k = 11 → ki v = 4 → x.toNatClampNeg ≤ cN (pb v) 12) ∧ (k = 12 → ki v = 4 → cN (pb v) 12 ≤ x.toNatClampNeg) ∧
  (k = 13 → ki v = 4 → x = 0 ∨ ∀ i j, i < 12 → j < i → pb v i → pb v j → tw (pt v i) ≠ tw (pt v j)) ∧
  (k = 14 → ki v = 5 → x.toNatClampNeg ≤ cN (pb v) 12) ∧ (k = 15 → ki v = 5 → cN (pb v) 12 ≤ x.toNatClampNeg) ∧
  (k = 16 → ki v = 5 → ∀ i, i < 12 → bt x i = true → pb v i)
/-- what a plain keyword takes -/
def okk (ki : Nat → Int32) (co : Nat → Int64) (n k : Nat) (x : Int32) : Prop :=
  x = -1 ∨ ∃ q, x = nI q ∧ q < 4096 ∧ (k = 0 → q < 128) ∧ (k = 1 → q < n) ∧ (k = 2 → q < n ∧ ki q = 4) ∧ (3 ≤ k → k ≤ 7 → q < n) ∧ (k = 7 → 0 < co q) ∧ (k = 8 ∨ k = 9 ∨ k = 11 ∨ k = 12 ∨ k = 14 ∨ k = 15 ∨ k = 24 ∨ k = 25 → q ≤ 12) ∧ (k = 10 → q < 8) ∧ (k = 13 → q ≤ 1)
/-- the values are as they must be -/
def VOK (ki : Nat → Int32) (co : Nat → Int64) (pr pa : Nat → Int32) (n : Nat) : Prop :=
  n ≤ 40 ∧ (∀ j, j < 480 → vp_in (pa j) 40) ∧ ∀ v, v < 40 → (∃ k, k < 6 ∧ ki v = nI k) ∧ (∃ b, b < 4096 ∧ pr v = nI b) ∧ (∀ i, i < 12 → bt (pr v) i = true → ∃ p, p < v ∧ pa (v * 12 + i) = nI p) ∧
    (ki v = 4 → ∃ L, L ≤ 8 ∧ ∀ i, i < 12 → bt (pr v) i = decide (i < L)) ∧ (ki v = 3 → ∃ t, t < 2 ^ 31 ∧ told 8 t = true ∧ co v = (nI t).toInt64)
def POK (pn po : Nat → Int32) : Prop := (∀ p, p < 8 → ∃ c, c ≤ 6 ∧ pn p = nI c) ∧ ∀ j, j < 48 → po j = 0 ∨ po j = 1 ∨ po j = 2 ∨ po j = 3
def cpb (ki pr : Nat → Int32) (v i : Nat) : Prop := bt (pr v) i = true ∧ i < 12 ∧ v < 40 ∧ (ki v = 4 ∨ ki v = 5)
def cpt (ki pr pa : Nat → Int32) (v i : Nat) : Nat := if bt (pr v) i = true ∧ i < 12 ∧ v < 40 ∧ (ki v = 4 ∨ ki v = 5) then (pa (v * 12 + i)).toNatClampNeg else 0
theorem cpt_at {ki pr pa : Nat → Int32} {v i : Nat} (h : cpb ki pr v i) : cpt ki pr pa v i = (pa (v * 12 + i)).toNatClampNeg := if_pos h
theorem cN_iff {p q : Nat → Prop} (k : Nat) (h : ∀ i, i < k → (p i ↔ q i)) : cN p k = cN q k := Nat.le_antisymm (cN_mono k (fun i hi => (h i hi).mp)) (cN_mono k (fun i hi => (h i hi).mpr))
theorem cN_front (p : Nat → Prop) : ∀ k, cN p (k + 1) = (@ite _ (p 0) (Classical.propDecidable _) 1 0) + cN (fun i => p (i + 1)) k := by
  intro k
  induction k with
  | zero => simp [cN]
  | succ k ih =>
    have e : cN p (k + 1 + 1) = cN p (k + 1) + @ite _ (p (k + 1)) (Classical.propDecidable _) 1 0 := rfl
    have e2 : cN (fun i => p (i + 1)) (k + 1) = cN (fun i => p (i + 1)) k + @ite _ (p (k + 1)) (Classical.propDecidable _) 1 0 := rfl
    rw [e, ih, e2, Nat.add_assoc]
theorem pop_cN : ∀ k n, pop k n = cN (fun i => n.testBit i = true) k := by
  intro k
  induction k with
  | zero => intro n; rfl
  | succ k ih =>
    intro n
    have e : (fun i => n.testBit (i + 1) = true) = fun i => (n / 2).testBit i = true := by funext i; rw [Nat.testBit_succ]
    rw [cN_front, e, ← ih (n / 2)]
    show n % 2 + pop k (n / 2) = _
    congr 1
    by_cases h : n.testBit 0 = true
    · rw [if_pos h]; simp [Nat.testBit_zero] at h; omega
    · rw [if_neg h]; simp [Nat.testBit_zero] at h; omega
theorem cN_lt_eq (L : Nat) : ∀ k, L ≤ k → cN (fun i => i < L) k = L := by
  have h : ∀ k, cN (fun i => i < L) k = min L k := by
    intro k
    induction k with
    | zero => simp [cN]
    | succ k ih =>
      simp only [cN]; rw [ih]
      by_cases e : k < L
      · rw [if_pos e]; omega
      · rw [if_neg e]; omega
  intro k hk; rw [h k]; omega
theorem size_cN {ki : Nat → Int32} {pr : Nat → Int32} {v : Nat} (hv : v < 40) (hb : ∃ b, b < 4096 ∧ pr v = nI b) (hk : ki v = 4 ∨ ki v = 5) : iBits (pr v) = nI (cN (cpb ki pr v) 12) := by
  obtain ⟨b, hb, e⟩ := hb
  rw [e, iBits_pop hb, pop_cN 12 b]
  congr 1
  refine cN_iff 12 (fun i hi => ?_)
  unfold cpb
  rw [e, b_nI b i (by omega)]
  exact ⟨fun h => ⟨h, hi, hv, hk⟩, fun h => h.1⟩
theorem lg_le0 {x y : Int64} : lg_cmp x y ≤ 0 ↔ x ≤ y := by
  unfold lg_cmp
  by_cases h : x > y
  · rw [if_pos h]; exact ⟨fun q => absurd q (by decide), fun q => absurd h (Int64.not_lt.mpr q)⟩
  · rw [if_neg h]
    refine ⟨fun _ => Int64.not_lt.mp h, fun _ => ?_⟩
    split <;> decide
theorem lg_lt0 {x y : Int64} : lg_cmp x y < 0 ↔ x < y := by
  unfold lg_cmp
  by_cases h : x > y
  · rw [if_pos h]; exact ⟨fun q => absurd q (by decide), fun q => absurd (Int64.lt_trans q h) (Int64.lt_irrefl)⟩
  · rw [if_neg h]
    by_cases e : x = y
    · rw [if_pos e]; exact ⟨fun q => absurd q (by decide), fun q => absurd (e ▸ q) (Int64.lt_irrefl)⟩
    · rw [if_neg e]; exact ⟨fun _ => by
        rcases Int64.lt_or_eq_of_le (Int64.not_lt.mp h) with q | q
        · exact q
        · exact absurd q e, fun _ => by decide⟩
theorem lg_ge0 {x y : Int64} : 0 ≤ lg_cmp x y ↔ y ≤ x := by
  rw [← Int32.not_lt, lg_lt0, Int64.not_lt]
theorem lg_gt0 {x y : Int64} : 0 < lg_cmp x y ↔ y < x := by
  rw [← Int32.not_le, lg_le0, Int64.not_le]
def V_Pl_isMultiple (x : Int64) (y : Int64) (post : Int32 → Prop) : Prop :=
  (((lg_cmp y 0) ≤ 0 → post 0) ∧ (¬ (lg_cmp y 0) ≤ 0 → (¬ y = 0 ∧ ((¬ (lg_cmp (x - x / y * y) 0) = 0 → post 0) ∧ ((lg_cmp (x - x / y * y) 0) = 0 → post 1)))))
set_option maxHeartbeats 4000000 in
set_option maxRecDepth 100000 in
theorem g_Pl_isMultiple {p : Program} {l : Launch} {e : Env} {R : Room} {s : State} {m : MethodId} {args : Array Value} {below : List Frame} {meth : Method} {c : Code} {H : Heap} {locs : List Loc} {cells slots : Nat} {Q : State → Prop} {ls : Array Slot} (S : CallFix p m c b_Pl_isMultiple 4 s args W0 R_Pl) (hRf : 0 ≤ R.frames) (hRl : 0 ≤ R.locals) (hRc : cells ≤ R.cells ∧ slots ≤ R.slots) (x : Int64) (y : Int64) (hl : lv_has ls 4 [(0, .long x), (2, .long y)]) {post : Int32 → Prop} (vc : V_Pl_isMultiple x y post)
    (hret : ∀ (v : Int32) (ls : Array Slot) (pc : Nat), decode b_Pl_isMultiple pc = .ok (.ireturn, 1) → post v → W p l e R s m args below meth c H locs cells slots Q (F0 m pc ls [.int v])) : W p l e R s m args below meth c H locs cells slots Q (F0 m 0 ls []) := by
  have hx := S.1
  have hb := S.2.1
  have hown := S.2.2.2.1
  have hts := S.2.2.2.2
  unfold V_Pl_isMultiple at vc
  refine lv_lload_n hx hb d_Pl_isMultiple_0 rfl (lv_at hl 1 rfl) ?_
  refine lv_lconst (v := 0) hx hb d_Pl_isMultiple_1 (by decide) ?_
  refine W.lcmp hx hb d_Pl_isMultiple_2 ?_
  refine lv_if_le (tgt := 18) hx hb d_Pl_isMultiple_3 (by decide) (fun h => ?_) (fun h => ?_)
  · have vc := vc.1 h
    refine lv_iconst (v := 0) hx hb d_Pl_isMultiple_18 (by decide) ?_
    exact hret _ ls _ d_Pl_isMultiple_19 vc
  · have vc := vc.2 h
    refine lv_lload_n hx hb d_Pl_isMultiple_6 rfl (lv_at hl 0 rfl) ?_
    refine lv_lload_n hx hb d_Pl_isMultiple_7 rfl (lv_at hl 1 rfl) ?_
    obtain ⟨vcn, vc⟩ := vc
    refine lv_lrem hx hb d_Pl_isMultiple_8 vcn ?_
    refine lv_lconst (v := 0) hx hb d_Pl_isMultiple_9 (by decide) ?_
    refine W.lcmp hx hb d_Pl_isMultiple_10 ?_
    refine lv_if_ne (tgt := 18) hx hb d_Pl_isMultiple_11 (by decide) (fun h => ?_) (fun h => ?_)
    · have vc := vc.1 h
      refine lv_iconst (v := 0) hx hb d_Pl_isMultiple_18 (by decide) ?_
      exact hret _ ls _ d_Pl_isMultiple_19 vc
    · have vc := vc.2 h
      refine lv_iconst (v := 1) hx hb d_Pl_isMultiple_14 (by decide) ?_
      refine lv_goto (tgt := 19) hx hb d_Pl_isMultiple_15 (by decide) ?_
      exact hret _ ls _ d_Pl_isMultiple_19 vc
theorem h_Pl_isMultiple (l : Launch) (x : Int64) (y : Int64) (r : Int32) (hr : narrow .boolean (.int r) = .int r) (vc : V_Pl_isMultiple x y (fun v => v = r)) : Pm l y_Pl_isMultiple b_Pl_isMultiple 4 (some .boolean) 0 0 [.long x, .long y] wT (.int r) :=
  pm_i (by decide) hr (Nat.le_of_ble_eq_true rfl) (fun p e s m below meth c ls Q S hB hl hret => g_Pl_isMultiple S (Nat.le_refl _) (Nat.le_refl _) ⟨Nat.le_refl _, Nat.le_refl _⟩ x y hl vc hret)
theorem c_Pl_isMultiple (l : Launch) (x : Int64) (y : Int64) : Pm l y_Pl_isMultiple b_Pl_isMultiple 4 (some .boolean) 0 0 [.long x, .long y] wT (.int (bI (decide ((0 : Int64) < y ∧ x - x / y * y = 0)))) := h_Pl_isMultiple l x y _ (bI_nar _) (by
  unfold V_Pl_isMultiple
  rw [lg_le0, lg_eq0]
  refine ⟨fun h => ?_, fun h => ⟨?_, fun h2 => ?_, fun h2 => ?_⟩⟩
  · simp [bI, Int64.not_lt.mpr h]
  · intro e; subst e; exact h (Int64.le_refl _)
  · simp [bI, h2]
  · simp [bI, h2, Int64.not_le.mp h])
theorem hd_Pl_isMultiple : y_Pl_isMultiple.cls ≠ "java/lang/invoke/MethodHandle" ∧ y_Pl_isMultiple.cls ≠ "java/lang/invoke/VarHandle" ∧ (parseMethodDescriptor y_Pl_isMultiple.desc).map (fun d => d.parameters.length) = some 2 := ⟨by decide, by decide, by decide +kernel⟩
def V_Pl_kindBits (ki : Nat → Int32) (co : Nat → Int64) (pr : Nat → Int32) (pa : Nat → Int32) (tw : Nat → Int32) (nv : Int32) (sv : Int32) (x : Int32) (post : Int32 → Prop) : Prop :=
  (vp_in x 40 ∧ (∃ J1 : Int32 → Prop, ((¬ (ki x.toNatClampNeg) = 2 → J1 0) ∧ ((ki x.toNatClampNeg) = 2 → (vp_in x 40 ∧ (((bI (decide ((0 : Int64) < 1000 ∧ (co x.toNatClampNeg) - (co x.toNatClampNeg) / 1000 * 1000 = 0))) = 0 → J1 0) ∧ (¬ (bI (decide ((0 : Int64) < 1000 ∧ (co x.toNatClampNeg) - (co x.toNatClampNeg) / 1000 * 1000 = 0))) = 0 → J1 1))))) ∧ (∀ (x3 : Int32), J1 x3 → ((x3 = 0 → post (1 <<< ((ki x.toNatClampNeg) &&& 31))) ∧ (¬ x3 = 0 → post ((1 <<< ((ki x.toNatClampNeg) &&& 31)) ||| 64))))))
set_option maxHeartbeats 4000000 in
set_option maxRecDepth 100000 in
theorem g_Pl_kindBits {p : Program} {l : Launch} {e : Env} {R : Room} {s : State} {m : MethodId} {args : Array Value} {below : List Frame} {meth : Method} {c : Code} {H : Heap} {locs : List Loc} {cells slots : Nat} {Q : State → Prop} {ls : Array Slot} (S : CallFix p m c b_Pl_kindBits 4 s args W0 R_Pl) (hRf : 1 ≤ R.frames) (hRl : 23 ≤ R.locals) (hRc : cells ≤ R.cells ∧ slots ≤ R.slots) (D : va_G) (a : Nat → Nat) (cI cJ cZ : ClassId) (ki : Nat → Int32) (co : Nat → Int64) (pr : Nat → Int32) (pa : Nat → Int32) (tw : Nat → Int32) (nv : Int32) (sv : Int32) (x : Int32) (hK : va_K D vwCl (tyA cI cJ cZ) s) (hP : va_P D vwCl (wL a ++ wV a cI cJ ki co pr pa tw nv sv) H) (hl : lv_has ls 4 [(0, .ref (a 19)), (1, .int x)]) {post : Int32 → Prop} (vc : V_Pl_kindBits ki co pr pa tw nv sv x post)
    (hret : ∀ (v : Int32) (ls : Array Slot) (pc : Nat), decode b_Pl_kindBits pc = .ok (.ireturn, 1) → post v → W p l e R s m args below meth c H locs cells slots Q (F0 m pc ls [.int v])) : W p l e R s m args below meth c H locs cells slots Q (F0 m 0 ls []) := by
  have hx := S.1
  have hb := S.2.1
  have hown := S.2.2.2.1
  have hts := S.2.2.2.2
  unfold V_Pl_kindBits at vc
  refine lv_aload_n hx hb d_Pl_kindBits_0 rfl (lv_at hl 0 rfl) ?_
  refine va_get (D := D) (ci := 2) (v := .ref (a 0)) (C := R_Pl) (T := F_Pl) (N := 2) hx hb hts in_Pl hown hK hP 0 rfl rfl 0 (by decide) (hts _ fl_Pl_7) (fun _ h => h) rfl d_Pl_kindBits_1 ?_
  refine lv_iload_n hx hb d_Pl_kindBits_4 rfl (lv_at hl 1 rfl) ?_
  obtain ⟨hpre, vc⟩ := vc
  refine pc_V (As := [.int x]) (rest := []) S (c_Va_kindOf l D a cI cJ cZ ki co pr pa tw nv sv x hpre) wB_blind k_Va_kindOf i_Va_kindOf e_Va_kindOf o_Va ml_Pl_23 hd_Va_kindOf (Nat.le_trans (by decide) hRf) (Nat.le_trans (by decide) hRl) hRc (va_recv hK hP (q0 := 1) (ci := 4) rfl rfl) (wB_at (hP.sub (ws' := (wV a cI cJ ki co pr pa tw nv sv)) [1, 2, 3, 4, 5, 6] rfl) hK) hl.1 rfl (Nat.le_of_ble_eq_true rfl) d_Pl_kindBits_5 ?_
  refine lv_istore_n hx hb d_Pl_kindBits_8 rfl hl (by decide) (lv' := [(2, .int (ki x.toNatClampNeg)), (0, .ref (a 19)), (1, .int x)]) rfl (fun ls hl => ?_)
  refine lv_iload_n hx hb d_Pl_kindBits_9 rfl (lv_at hl 0 rfl) ?_
  refine lv_iconst (v := 2) hx hb d_Pl_kindBits_10 (by decide) ?_
  obtain ⟨J1, vc, vc2⟩ := vc
  have jJ1 : ∀ (x3 : Int32) (ls : Array Slot), J1 x3 → lv_has ls 4 [(0, .ref (a 19)), (1, .int x), (2, .int (ki x.toNatClampNeg))] → W p l e R s m args below meth c H locs cells slots Q (F0 m 36 ls [.int x3]) := by
    intro x3 ls vc hl
    have vc := vc2 x3 vc
    refine lv_istore_n hx hb d_Pl_kindBits_36 rfl hl (by decide) (lv' := [(3, .int x3), (0, .ref (a 19)), (1, .int x), (2, .int (ki x.toNatClampNeg))]) rfl (fun ls hl => ?_)
    refine lv_iload_n hx hb d_Pl_kindBits_37 rfl (lv_at hl 0 rfl) ?_
    refine lv_if_eq (tgt := 50) hx hb d_Pl_kindBits_38 (by decide) (fun h => ?_) (fun h => ?_)
    · have vc := vc.1 h
      refine lv_iconst (v := 1) hx hb d_Pl_kindBits_50 (by decide) ?_
      refine lv_iload_n hx hb d_Pl_kindBits_51 rfl (lv_at hl 3 rfl) ?_
      refine lv_ishl hx hb d_Pl_kindBits_52 ?_
      exact hret _ ls _ d_Pl_kindBits_53 vc
    · have vc := vc.2 h
      refine lv_iconst (v := 1) hx hb d_Pl_kindBits_41 (by decide) ?_
      refine lv_iload_n hx hb d_Pl_kindBits_42 rfl (lv_at hl 3 rfl) ?_
      refine lv_ishl hx hb d_Pl_kindBits_43 ?_
      refine lv_bipush (v := 64) hx hb d_Pl_kindBits_44 (by decide) ?_
      refine lv_ior hx hb d_Pl_kindBits_46 ?_
      refine lv_goto (tgt := 53) hx hb d_Pl_kindBits_47 (by decide) ?_
      exact hret _ ls _ d_Pl_kindBits_53 vc
  clear vc2
  refine lv_icmp_ne (tgt := 35) hx hb d_Pl_kindBits_11 (by decide) (fun h => ?_) (fun h => ?_)
  · have vc := vc.1 h
    refine lv_iconst (v := 0) hx hb d_Pl_kindBits_35 (by decide) ?_
    exact jJ1 0 ls vc (lv_sub hl [1, 2, 0] rfl)
  · have vc := vc.2 h
    refine lv_aload_n hx hb d_Pl_kindBits_14 rfl (lv_at hl 1 rfl) ?_
    refine va_get (D := D) (ci := 2) (v := .ref (a 0)) (C := R_Pl) (T := F_Pl) (N := 2) hx hb hts in_Pl hown hK hP 0 rfl rfl 0 (by decide) (hts _ fl_Pl_7) (fun _ h => h) rfl d_Pl_kindBits_15 ?_
    refine lv_iload_n hx hb d_Pl_kindBits_18 rfl (lv_at hl 2 rfl) ?_
    obtain ⟨hpre, vc⟩ := vc
    refine pc_V (As := [.int x]) (rest := []) S (c_Va_coreOf l D a cI cJ cZ ki co pr pa tw nv sv x hpre) wB_blind k_Va_coreOf i_Va_coreOf e_Va_coreOf o_Va ml_Pl_39 hd_Va_coreOf (Nat.le_trans (by decide) hRf) (Nat.le_trans (by decide) hRl) hRc (va_recv hK hP (q0 := 1) (ci := 4) rfl rfl) (wB_at (hP.sub (ws' := (wV a cI cJ ki co pr pa tw nv sv)) [1, 2, 3, 4, 5, 6] rfl) hK) hl.1 rfl (Nat.le_of_ble_eq_true rfl) d_Pl_kindBits_19 ?_
    refine lv_ldc2 hx hb hown (hts _ cg_Pl_62) d_Pl_kindBits_22 ?_
    refine pc_S (As := [.long (co x.toNatClampNeg), .long 1000]) (rest := []) S (c_Pl_isMultiple l (co x.toNatClampNeg) 1000) wT_blind k_Pl_isMultiple s_Pl_isMultiple o_Pl ml_Pl_43 hd_Pl_isMultiple (Nat.le_trans (by decide) hRf) (Nat.le_trans (by decide) hRl) hRc (fun _ _ _ => trivial) hl.1 rfl (Nat.le_of_ble_eq_true rfl) d_Pl_kindBits_25 ?_
    refine lv_if_eq (tgt := 35) hx hb d_Pl_kindBits_28 (by decide) (fun h => ?_) (fun h => ?_)
    · have vc := vc.1 h
      refine lv_iconst (v := 0) hx hb d_Pl_kindBits_35 (by decide) ?_
      exact jJ1 0 ls vc (lv_sub hl [1, 2, 0] rfl)
    · have vc := vc.2 h
      refine lv_iconst (v := 1) hx hb d_Pl_kindBits_31 (by decide) ?_
      refine lv_goto (tgt := 36) hx hb d_Pl_kindBits_32 (by decide) ?_
      exact jJ1 1 ls vc (lv_sub hl [1, 2, 0] rfl)
theorem h_Pl_kindBits (l : Launch) (D : va_G) (a : Nat → Nat) (cI cJ cZ : ClassId) (ki : Nat → Int32) (co : Nat → Int64) (pr : Nat → Int32) (pa : Nat → Int32) (tw : Nat → Int32) (nv : Int32) (sv : Int32) (x : Int32) (r : Int32) (vc : V_Pl_kindBits ki co pr pa tw nv sv x (fun v => v = r)) : Pm l y_Pl_kindBits b_Pl_kindBits 4 (some .int) 1 23 [.ref (a 19), .int x] (wB D (tyA cI cJ cZ) (wL a ++ wV a cI cJ ki co pr pa tw nv sv)) (.int r) :=
  pm_i (by decide) rfl (Nat.le_of_ble_eq_true rfl) (fun p e s m below meth c ls Q S hB hl hret => g_Pl_kindBits S (Nat.le_refl _) (Nat.le_refl _) ⟨Nat.le_refl _, Nat.le_refl _⟩ D a cI cJ cZ ki co pr pa tw nv sv x hB.2 hB.1 hl vc hret)
theorem c_Pl_kindBits (l : Launch) (D : va_G) (a : Nat → Nat) (cI cJ cZ : ClassId) (ki : Nat → Int32) (co : Nat → Int64) (pr : Nat → Int32) (pa : Nat → Int32) (tw : Nat → Int32) (nv : Int32) (sv : Int32) (x : Int32) (hpre : vp_in x 40) : Pm l y_Pl_kindBits b_Pl_kindBits 4 (some .int) 1 23 [.ref (a 19), .int x] (wB D (tyA cI cJ cZ) (wL a ++ wV a cI cJ ki co pr pa tw nv sv)) (.int (if ki x.toNatClampNeg = 2 ∧ 0 < (1000 : Int64) ∧ co x.toNatClampNeg - co x.toNatClampNeg / 1000 * 1000 = 0 then (1 <<< (ki x.toNatClampNeg &&& 31)) ||| 64 else (1 <<< (ki x.toNatClampNeg &&& 31)))) := h_Pl_kindBits l D a cI cJ cZ ki co pr pa tw nv sv x _ (by
  unfold V_Pl_kindBits
  refine ⟨hpre, ?_⟩
  generalize hv : x.toNatClampNeg = v
  refine ⟨fun z => z = bI (decide (ki v = 2 ∧ 0 < (1000 : Int64) ∧ co v - co v / 1000 * 1000 = 0)), ⟨fun h => by simp [bI, h], fun h => ⟨hpre, fun h2 => ?_, fun h2 => ?_⟩⟩, ?_⟩
  · rw [bI0] at h2
    have h3 := of_decide_eq_false h2
    rw [decide_eq_false (fun q => h3 q.2)]; rfl
  · have h3 := of_decide_eq_true (bI_ne.mp h2)
    rw [decide_eq_true ⟨h, h3⟩]; rfl
  rintro _ rfl
  exact ⟨fun h => by rw [if_neg (of_decide_eq_false (bI0.mp h))], fun h => by rw [if_pos (of_decide_eq_true (bI_ne.mp h))]⟩)
theorem hd_Pl_kindBits : y_Pl_kindBits.cls ≠ "java/lang/invoke/MethodHandle" ∧ y_Pl_kindBits.cls ≠ "java/lang/invoke/VarHandle" ∧ (parseMethodDescriptor y_Pl_kindBits.desc).map (fun d => d.parameters.length) = some 1 := ⟨by decide, by decide, by decide +kernel⟩
def V_Va_hasEqualElement (ki : Nat → Int32) (co : Nat → Int64) (pr : Nat → Int32) (pa : Nat → Int32) (tw : Nat → Int32) (nv : Int32) (sv : Int32) (x : Int32) (y : Int32) (post : Int32 → Prop) : Prop :=
  (∃ (I3 : Int32 → Prop) (mI3 : Int32 → Nat), I3 0 ∧ (∀ (x2 : Int32), I3 x2 → ((8 ≤ x2 → post 0) ∧ (¬ 8 ≤ x2 → (vp_in x 40 ∧ (((bI (sBit (pr x.toNatClampNeg) x2)) = 0 → (I3 (x2 + 1) ∧ mI3 (x2 + 1) < mI3 x2)) ∧ (¬ (bI (sBit (pr x.toNatClampNeg) x2)) = 0 → (vp_in (x * 12 + x2) 480 ∧ ((vp_in (pa (x * 12 + x2 : Int32).toNatClampNeg) 40 ∧ vp_in y 40) ∧ (((bI (decide (tw (pa (x * 12 + x2 : Int32).toNatClampNeg : Int32).toNatClampNeg = tw y.toNatClampNeg))) = 0 → (I3 (x2 + 1) ∧ mI3 (x2 + 1) < mI3 x2)) ∧ (¬ (bI (decide (tw (pa (x * 12 + x2 : Int32).toNatClampNeg : Int32).toNatClampNeg = tw y.toNatClampNeg))) = 0 → post 1)))))))))))
set_option maxHeartbeats 4000000 in
set_option maxRecDepth 100000 in
theorem g_Va_hasEqualElement {p : Program} {l : Launch} {e : Env} {R : Room} {s : State} {m : MethodId} {args : Array Value} {below : List Frame} {meth : Method} {c : Code} {H : Heap} {locs : List Loc} {cells slots : Nat} {Q : State → Prop} {ls : Array Slot} (S : CallFix p m c b_Va_hasEqualElement 4 s args W0 R_Va) (hRf : 1 ≤ R.frames) (hRl : 22 ≤ R.locals) (hRc : cells ≤ R.cells ∧ slots ≤ R.slots) (D : va_G) (a : Nat → Nat) (cI cJ cZ : ClassId) (ki : Nat → Int32) (co : Nat → Int64) (pr : Nat → Int32) (pa : Nat → Int32) (tw : Nat → Int32) (nv : Int32) (sv : Int32) (x : Int32) (y : Int32) (hK : va_K D vwCl (tyA cI cJ cZ) s) (hP : va_P D vwCl (wV a cI cJ ki co pr pa tw nv sv) H) (hl : lv_has ls 4 [(0, .ref (a 0)), (1, .int x), (2, .int y)]) {post : Int32 → Prop} (vc : V_Va_hasEqualElement ki co pr pa tw nv sv x y post)
    (hret : ∀ (v : Int32) (ls : Array Slot) (pc : Nat), decode b_Va_hasEqualElement pc = .ok (.ireturn, 1) → post v → W p l e R s m args below meth c H locs cells slots Q (F0 m pc ls [.int v])) : W p l e R s m args below meth c H locs cells slots Q (F0 m 0 ls []) := by
  have hx := S.1
  have hb := S.2.1
  have hown := S.2.2.2.1
  have hts := S.2.2.2.2
  unfold V_Va_hasEqualElement at vc
  refine lv_iconst (v := 0) hx hb d_Va_hasEqualElement_0 (by decide) ?_
  refine lv_istore_n hx hb d_Va_hasEqualElement_1 rfl hl (by decide) (lv' := [(3, .int 0), (0, .ref (a 0)), (1, .int x), (2, .int y)]) rfl (fun ls hl => ?_)
  obtain ⟨I3, mI3, vc0, vcs⟩ := vc
  have lI3 : ∀ n : Nat, ∀ (x2 : Int32) (ls : Array Slot), I3 x2 → mI3 x2 < n → lv_has ls 4 [(0, .ref (a 0)), (1, .int x), (2, .int y), (3, .int x2)] → W p l e R s m args below meth c H locs cells slots Q (F0 m 2 ls []) := by
    intro n
    induction n with
    | zero => intro x2 ls _ h; exact absurd h (Nat.not_lt_zero _)
    | succ n ihI3 =>
      intro x2 ls vc hmI3 hl
      have vc := vcs x2 vc
      refine lv_iload_n hx hb d_Va_hasEqualElement_2 rfl (lv_at hl 3 rfl) ?_
      refine lv_bipush (v := 8) hx hb d_Va_hasEqualElement_3 (by decide) ?_
      refine lv_icmp_ge (tgt := 39) hx hb d_Va_hasEqualElement_5 (by decide) (fun h => ?_) (fun h => ?_)
      · have vc := vc.1 h
        refine lv_iconst (v := 0) hx hb d_Va_hasEqualElement_39 (by decide) ?_
        exact hret _ ls _ d_Va_hasEqualElement_40 vc
      · have vc := vc.2 h
        refine lv_aload_n hx hb d_Va_hasEqualElement_8 rfl (lv_at hl 0 rfl) ?_
        refine lv_iload_n hx hb d_Va_hasEqualElement_9 rfl (lv_at hl 1 rfl) ?_
        refine lv_iload_n hx hb d_Va_hasEqualElement_10 rfl (lv_at hl 3 rfl) ?_
        obtain ⟨hpre, vc⟩ := vc
        refine pc_V (As := [.int x, .int x2]) (rest := []) S (c_Va_isPresent l D a cI cJ cZ ki co pr pa tw nv sv x x2 hpre) wB_blind k_Va_isPresent i_Va_isPresent e_Va_isPresent o_Va ml_Va_59 hd_Va_isPresent (Nat.le_trans (by decide) hRf) (Nat.le_trans (by decide) hRl) hRc (va_recv hK hP (q0 := 0) (ci := 4) rfl rfl) (wB_at hP hK) hl.1 rfl (Nat.le_of_ble_eq_true rfl) d_Va_hasEqualElement_11 ?_
        refine lv_if_eq (tgt := 33) hx hb d_Va_hasEqualElement_14 (by decide) (fun h => ?_) (fun h => ?_)
        · have vc := vc.1 h
          refine lv_iinc (k := 3) (v := x2 + 1) hx hb d_Va_hasEqualElement_33 hl rfl rfl (by decide) (lv' := [(3, .int (x2 + 1)), (0, .ref (a 0)), (1, .int x), (2, .int y)]) rfl (fun ls hl => ?_)
          refine lv_goto (tgt := 2) hx hb d_Va_hasEqualElement_36 (by decide) ?_
          exact ihI3 (x2 + 1) ls vc.1 (Nat.lt_of_lt_of_le vc.2 (Nat.le_of_lt_succ hmI3)) (lv_sub hl [1, 2, 3, 0] rfl)
        · have vc := vc.2 h
          refine lv_aload_n hx hb d_Va_hasEqualElement_17 rfl (lv_at hl 0 rfl) ?_
          refine lv_aload_n hx hb d_Va_hasEqualElement_18 rfl (lv_at hl 0 rfl) ?_
          refine lv_iload_n hx hb d_Va_hasEqualElement_19 rfl (lv_at hl 1 rfl) ?_
          refine lv_iload_n hx hb d_Va_hasEqualElement_20 rfl (lv_at hl 3 rfl) ?_
          obtain ⟨hpre, vc⟩ := vc
          refine pc_V (As := [.int x, .int x2]) (rest := [.ref (a 0)]) S (c_Va_partOf l D a cI cJ cZ ki co pr pa tw nv sv x x2 hpre) wB_blind k_Va_partOf i_Va_partOf e_Va_partOf o_Va ml_Va_62 hd_Va_partOf (Nat.le_trans (by decide) hRf) (Nat.le_trans (by decide) hRl) hRc (va_recv hK hP (q0 := 0) (ci := 4) rfl rfl) (wB_at hP hK) hl.1 rfl (Nat.le_of_ble_eq_true rfl) d_Va_hasEqualElement_21 ?_
          refine lv_iload_n hx hb d_Va_hasEqualElement_24 rfl (lv_at hl 2 rfl) ?_
          obtain ⟨hpre, vc⟩ := vc
          refine pc_V (As := [.int (pa (x * 12 + x2 : Int32).toNatClampNeg), .int y]) (rest := []) S (c_Va_areEqual l D a cI cJ cZ ki co pr pa tw nv sv (pa (x * 12 + x2 : Int32).toNatClampNeg) y hpre) wB_blind k_Va_areEqual i_Va_areEqual e_Va_areEqual o_Va ml_Va_65 hd_Va_areEqual (Nat.le_trans (by decide) hRf) (Nat.le_trans (by decide) hRl) hRc (va_recv hK hP (q0 := 0) (ci := 4) rfl rfl) (wB_at hP hK) hl.1 rfl (Nat.le_of_ble_eq_true rfl) d_Va_hasEqualElement_25 ?_
          refine lv_if_eq (tgt := 33) hx hb d_Va_hasEqualElement_28 (by decide) (fun h => ?_) (fun h => ?_)
          · have vc := vc.1 h
            refine lv_iinc (k := 3) (v := x2 + 1) hx hb d_Va_hasEqualElement_33 hl rfl rfl (by decide) (lv' := [(3, .int (x2 + 1)), (0, .ref (a 0)), (1, .int x), (2, .int y)]) rfl (fun ls hl => ?_)
            refine lv_goto (tgt := 2) hx hb d_Va_hasEqualElement_36 (by decide) ?_
            exact ihI3 (x2 + 1) ls vc.1 (Nat.lt_of_lt_of_le vc.2 (Nat.le_of_lt_succ hmI3)) (lv_sub hl [1, 2, 3, 0] rfl)
          · have vc := vc.2 h
            refine lv_iconst (v := 1) hx hb d_Va_hasEqualElement_31 (by decide) ?_
            exact hret _ ls _ d_Va_hasEqualElement_32 vc
  exact lI3 _ 0 ls vc0 (Nat.lt_succ_self _) (lv_sub hl [1, 2, 3, 0] rfl)
theorem h_Va_hasEqualElement (l : Launch) (D : va_G) (a : Nat → Nat) (cI cJ cZ : ClassId) (ki : Nat → Int32) (co : Nat → Int64) (pr : Nat → Int32) (pa : Nat → Int32) (tw : Nat → Int32) (nv : Int32) (sv : Int32) (x : Int32) (y : Int32) (r : Int32) (hr : narrow .boolean (.int r) = .int r) (vc : V_Va_hasEqualElement ki co pr pa tw nv sv x y (fun v => v = r)) : Pm l y_Va_hasEqualElement b_Va_hasEqualElement 4 (some .boolean) 1 22 [.ref (a 0), .int x, .int y] (wB D (tyA cI cJ cZ) (wV a cI cJ ki co pr pa tw nv sv)) (.int r) :=
  pm_i (by decide) hr (Nat.le_of_ble_eq_true rfl) (fun p e s m below meth c ls Q S hB hl hret => g_Va_hasEqualElement S (Nat.le_refl _) (Nat.le_refl _) ⟨Nat.le_refl _, Nat.le_refl _⟩ D a cI cJ cZ ki co pr pa tw nv sv x y hB.2 hB.1 hl vc hret)
theorem c_Va_hasEqualElement (l : Launch) (D : va_G) (a : Nat → Nat) (cI cJ cZ : ClassId) (ki : Nat → Int32) (co : Nat → Int64) (pr : Nat → Int32) (pa : Nat → Int32) (tw : Nat → Int32) (nv : Int32) (sv : Int32) (x : Int32) (y : Int32) (hpre : (vp_in x 40 ∧ vp_in y 40 ∧ ∀ j : Nat, j < 480 → vp_in (pa j) 40)) : Pm l y_Va_hasEqualElement b_Va_hasEqualElement 4 (some .boolean) 1 22 [.ref (a 0), .int x, .int y] (wB D (tyA cI cJ cZ) (wV a cI cJ ki co pr pa tw nv sv)) (.int (bI ((List.range 8).any (fun i => bt (pr x.toNatClampNeg) i && decide (tw (pa (x.toNatClampNeg * 12 + i)).toNatClampNeg = tw y.toNatClampNeg))))) := h_Va_hasEqualElement l D a cI cJ cZ ki co pr pa tw nv sv x y _ (bI_nar _) (by
  unfold V_Va_hasEqualElement
  obtain ⟨hx, hy, hpa⟩ := hpre
  obtain ⟨v, hv, rfl, hcv⟩ := vp_nat hx (by decide)
  rw [hcv]
  generalize y.toNatClampNeg = w0
  refine ⟨fun i => ∃ k, k ≤ 8 ∧ i = nI k ∧ ∀ j, j < k → (bt (pr v) j && decide (tw (pa (v * 12 + j)).toNatClampNeg = tw w0)) = false, fun i => 8 - i.toInt.toNat, ⟨0, by decide, rfl, fun j hj => absurd hj (Nat.not_lt_zero _)⟩, ?_⟩
  rintro i ⟨k, hk, rfl, hall⟩
  refine ⟨fun h => ?_, fun h => ?_⟩
  · obtain rfl := fill_end (N := 8) h (by decide) hk
    have : (List.range 8).any (fun i => bt (pr v) i && decide (tw (pa (v * 12 + i)).toNatClampNeg = tw w0)) = false := by
      rw [List.any_eq_false]; intro j hj; rw [hall j (List.mem_range.mp hj)]; decide
    rw [this]; rfl
  · have hk2 := fill_step (N := 8) h (by decide) hk
    have st : (bt (pr v) k && decide (tw (pa (v * 12 + k)).toNatClampNeg = tw w0)) = false → (∃ k2, k2 ≤ 8 ∧ nI k + 1 = nI k2 ∧ ∀ j, j < k2 → (bt (pr v) j && decide (tw (pa (v * 12 + j)).toNatClampNeg = tw w0)) = false) ∧ 8 - (nI k + 1).toInt.toNat < 8 - (nI k).toInt.toNat := fun q => ⟨⟨k + 1, hk2, nI_1 k, fun j hj => by
      by_cases e : j = k
      · subst e; exact q
      · exact hall j (by omega)⟩, fill_mu hk2 (by decide)⟩
    have i1 : nI v * 12 + nI k = nI (v * 12 + k) := by rw [nI_mulR, nI_add]
    rw [sBit_bt _ (by omega), i1, nI_clamp (n := v * 12 + k) (by omega)]
    refine ⟨hx, fun h2 => st (by rw [bI0.mp h2]; rfl), fun h2 => ⟨vp_in_nI (by omega) (by decide), ⟨hpa _ (by omega), hy⟩, fun h3 => st (by rw [bI0.mp h3]; simp), fun h3 => ?_⟩⟩
    have : (List.range 8).any (fun i => bt (pr v) i && decide (tw (pa (v * 12 + i)).toNatClampNeg = tw w0)) = true := by
      rw [List.any_eq_true]; exact ⟨k, List.mem_range.mpr hk2, by rw [bI_ne.mp h2, bI_ne.mp h3]; rfl⟩
    rw [this]; rfl)
theorem hd_Va_hasEqualElement : y_Va_hasEqualElement.cls ≠ "java/lang/invoke/MethodHandle" ∧ y_Va_hasEqualElement.cls ≠ "java/lang/invoke/VarHandle" ∧ (parseMethodDescriptor y_Va_hasEqualElement.desc).map (fun d => d.parameters.length) = some 2 := ⟨by decide, by decide, by decide +kernel⟩
def V_Va_hasEqualElements (ki : Nat → Int32) (co : Nat → Int64) (pr : Nat → Int32) (pa : Nat → Int32) (tw : Nat → Int32) (nv : Int32) (sv : Int32) (x : Int32) (post : Int32 → (Nat → Int32) → (Nat → Int64) → (Nat → Int32) → (Nat → Int32) → (Nat → Int32) → Int32 → Int32 → Prop) : Prop :=
  (vp_in x 40 ∧ (∃ (I6 : Int32 → Prop) (mI6 : Int32 → Nat), I6 1 ∧ (∀ (x5 : Int32), I6 x5 → (((if ki x.toNatClampNeg = 3 then sCount (co x.toNatClampNeg).toInt32 else iBits (pr x.toNatClampNeg)) ≤ x5 → post 0 ki co pr pa tw nv sv) ∧ (¬ (if ki x.toNatClampNeg = 3 then sCount (co x.toNatClampNeg).toInt32 else iBits (pr x.toNatClampNeg)) ≤ x5 → (∃ (I9 : Int32 → Prop) (mI9 : Int32 → Nat), I9 0 ∧ (∀ (x8 : Int32), I9 x8 → ((x5 ≤ x8 → (I6 (x5 + 1) ∧ mI6 (x5 + 1) < mI6 x5)) ∧ (¬ x5 ≤ x8 → (vp_in (x * 12 + x5) 480 ∧ (vp_in (x * 12 + x8) 480 ∧ ((vp_in (pa (x * 12 + x5 : Int32).toNatClampNeg) 40 ∧ vp_in (pa (x * 12 + x8 : Int32).toNatClampNeg) 40) ∧ (((bI (decide (tw (pa (x * 12 + x5 : Int32).toNatClampNeg : Int32).toNatClampNeg = tw (pa (x * 12 + x8 : Int32).toNatClampNeg : Int32).toNatClampNeg))) = 0 → (I9 (x8 + 1) ∧ mI9 (x8 + 1) < mI9 x8)) ∧ (¬ (bI (decide (tw (pa (x * 12 + x5 : Int32).toNatClampNeg : Int32).toNatClampNeg = tw (pa (x * 12 + x8 : Int32).toNatClampNeg : Int32).toNatClampNeg))) = 0 → post 1 ki co pr pa tw nv sv))))))))))))))
set_option maxHeartbeats 4000000 in
set_option maxRecDepth 100000 in
theorem g_Va_hasEqualElements {p : Program} {l : Launch} {e : Env} {R : Room} {s : State} {m : MethodId} {args : Array Value} {below : List Frame} {meth : Method} {c : Code} {H : Heap} {locs : List Loc} {cells slots : Nat} {Q : State → Prop} {ls : Array Slot} {A : Nat → Prop} (S : CallFix p m c b_Va_hasEqualElements 5 s args W0 R_Va) (hRf : 2 ≤ R.frames) (hRl : 44 ≤ R.locals) (hRc : cells ≤ R.cells ∧ slots ≤ R.slots) (D : va_G) (a : Nat → Nat) (cI cJ cZ : ClassId) (ki : Nat → Int32) (co : Nat → Int64) (pr : Nat → Int32) (pa : Nat → Int32) (tw : Nat → Int32) (nv : Int32) (sv : Int32) (x : Int32) (hK : va_K D vwCl (tyA cI cJ cZ) s) (hP : va_P D vwCl (wV a cI cJ ki co pr pa tw nv sv) H) (hD : va_D A (wV a cI cJ ki co pr pa tw nv sv)) (hA : ∀ q, s.heap.size ≤ q → A q) (hS : va_S A s.heap H locs) (hl : lv_has ls 5 [(0, .ref (a 0)), (1, .int x)]) {post : Int32 → (Nat → Int32) → (Nat → Int64) → (Nat → Int32) → (Nat → Int32) → (Nat → Int32) → Int32 → Int32 → Prop} (vc : V_Va_hasEqualElements ki co pr pa tw nv sv x post)
    (hret : ∀ (v : Int32) (ki : Nat → Int32) (co : Nat → Int64) (pr : Nat → Int32) (pa : Nat → Int32) (tw : Nat → Int32) (nv : Int32) (sv : Int32) (ls : Array Slot) (pc : Nat) (H : Heap) (locs : List Loc), decode b_Va_hasEqualElements pc = .ok (.ireturn, 1) → post v ki co pr pa tw nv sv → va_P D vwCl (wV a cI cJ ki co pr pa tw nv sv) H → va_D A (wV a cI cJ ki co pr pa tw nv sv) → va_S A s.heap H locs → W p l e R s m args below meth c H locs cells slots Q (F0 m pc ls [.int v])) : W p l e R s m args below meth c H locs cells slots Q (F0 m 0 ls []) := by
  have hx := S.1
  have hb := S.2.1
  have hown := S.2.2.2.1
  have hts := S.2.2.2.2
  unfold V_Va_hasEqualElements at vc
  refine lv_aload_n hx hb d_Va_hasEqualElements_0 rfl (lv_at hl 0 rfl) ?_
  refine lv_iload_n hx hb d_Va_hasEqualElements_1 rfl (lv_at hl 1 rfl) ?_
  obtain ⟨hpre, vc⟩ := vc
  refine pc_V (As := [.int x]) (rest := []) S (c_Va_sizeOf l D a cI cJ cZ ki co pr pa tw nv sv x hpre) wB_blind k_Va_sizeOf i_Va_sizeOf e_Va_sizeOf o_Va ml_Va_68 hd_Va_sizeOf (Nat.le_trans (by decide) hRf) (Nat.le_trans (by decide) hRl) hRc (va_recv hK hP (q0 := 0) (ci := 4) rfl rfl) (wB_at hP hK) hl.1 rfl (Nat.le_of_ble_eq_true rfl) d_Va_hasEqualElements_2 ?_
  refine lv_istore_n hx hb d_Va_hasEqualElements_5 rfl hl (by decide) (lv' := [(2, .int (if ki x.toNatClampNeg = 3 then sCount (co x.toNatClampNeg).toInt32 else iBits (pr x.toNatClampNeg))), (0, .ref (a 0)), (1, .int x)]) rfl (fun ls hl => ?_)
  refine lv_iconst (v := 1) hx hb d_Va_hasEqualElements_6 (by decide) ?_
  refine lv_istore_n hx hb d_Va_hasEqualElements_7 rfl hl (by decide) (lv' := [(3, .int 1), (2, .int (if ki x.toNatClampNeg = 3 then sCount (co x.toNatClampNeg).toInt32 else iBits (pr x.toNatClampNeg))), (0, .ref (a 0)), (1, .int x)]) rfl (fun ls hl => ?_)
  obtain ⟨I6, mI6, vc0, vcs⟩ := vc
  have lI6 : ∀ n : Nat, ∀ (x5 : Int32) (ls : Array Slot) (H : Heap) (locs : List Loc), I6 x5 → mI6 x5 < n → lv_has ls 5 [(0, .ref (a 0)), (1, .int x), (2, .int (if ki x.toNatClampNeg = 3 then sCount (co x.toNatClampNeg).toInt32 else iBits (pr x.toNatClampNeg))), (3, .int x5)] → va_P D vwCl (wV a cI cJ ki co pr pa tw nv sv) H → va_D A (wV a cI cJ ki co pr pa tw nv sv) → va_S A s.heap H locs → W p l e R s m args below meth c H locs cells slots Q (F0 m 8 ls []) := by
    intro n
    induction n with
    | zero => intro x5 ls H locs _ h; exact absurd h (Nat.not_lt_zero _)
    | succ n ihI6 =>
      intro x5 ls H locs vc hmI6 hl hP hD hS
      have vc := vcs x5 vc
      refine lv_iload_n hx hb d_Va_hasEqualElements_8 rfl (lv_at hl 3 rfl) ?_
      refine lv_iload_n hx hb d_Va_hasEqualElements_9 rfl (lv_at hl 2 rfl) ?_
      refine lv_icmp_ge (tgt := 56) hx hb d_Va_hasEqualElements_10 (by decide) (fun h => ?_) (fun h => ?_)
      · have vc := vc.1 h
        refine lv_iconst (v := 0) hx hb d_Va_hasEqualElements_56 (by decide) ?_
        exact hret _ _ _ _ _ _ _ _ ls _ H locs d_Va_hasEqualElements_57 vc hP hD hS
      · have vc := vc.2 h
        refine lv_iconst (v := 0) hx hb d_Va_hasEqualElements_13 (by decide) ?_
        refine lv_istore hx hb d_Va_hasEqualElements_14 hl (by decide) (lv' := [(4, .int 0), (0, .ref (a 0)), (1, .int x), (2, .int (if ki x.toNatClampNeg = 3 then sCount (co x.toNatClampNeg).toInt32 else iBits (pr x.toNatClampNeg))), (3, .int x5)]) rfl (fun ls hl => ?_)
        obtain ⟨I9, mI9, vc0, vcs⟩ := vc
        have lI9 : ∀ n : Nat, ∀ (x8 : Int32) (ls : Array Slot) (H : Heap) (locs : List Loc), I9 x8 → mI9 x8 < n → lv_has ls 5 [(0, .ref (a 0)), (1, .int x), (2, .int (if ki x.toNatClampNeg = 3 then sCount (co x.toNatClampNeg).toInt32 else iBits (pr x.toNatClampNeg))), (3, .int x5), (4, .int x8)] → va_P D vwCl (wV a cI cJ ki co pr pa tw nv sv) H → va_D A (wV a cI cJ ki co pr pa tw nv sv) → va_S A s.heap H locs → W p l e R s m args below meth c H locs cells slots Q (F0 m 16 ls []) := by
          intro n
          induction n with
          | zero => intro x8 ls H locs _ h; exact absurd h (Nat.not_lt_zero _)
          | succ n ihI9 =>
            intro x8 ls H locs vc hmI9 hl hP hD hS
            have vc := vcs x8 vc
            refine lv_iload hx hb d_Va_hasEqualElements_16 (lv_at hl 4 rfl) ?_
            refine lv_iload_n hx hb d_Va_hasEqualElements_18 rfl (lv_at hl 3 rfl) ?_
            refine lv_icmp_ge (tgt := 50) hx hb d_Va_hasEqualElements_19 (by decide) (fun h => ?_) (fun h => ?_)
            · have vc := vc.1 h
              refine lv_iinc (k := 3) (v := x5 + 1) hx hb d_Va_hasEqualElements_50 hl rfl rfl (by decide) (lv' := [(3, .int (x5 + 1)), (0, .ref (a 0)), (1, .int x), (2, .int (if ki x.toNatClampNeg = 3 then sCount (co x.toNatClampNeg).toInt32 else iBits (pr x.toNatClampNeg))), (4, .int x8)]) rfl (fun ls hl => ?_)
              refine lv_goto (tgt := 8) hx hb d_Va_hasEqualElements_53 (by decide) ?_
              exact ihI6 (x5 + 1) ls H locs vc.1 (Nat.lt_of_lt_of_le vc.2 (Nat.le_of_lt_succ hmI6)) (lv_sub hl [1, 2, 3, 0] rfl) hP hD hS
            · have vc := vc.2 h
              refine lv_aload_n hx hb d_Va_hasEqualElements_22 rfl (lv_at hl 0 rfl) ?_
              refine lv_aload_n hx hb d_Va_hasEqualElements_23 rfl (lv_at hl 0 rfl) ?_
              refine lv_iload_n hx hb d_Va_hasEqualElements_24 rfl (lv_at hl 1 rfl) ?_
              refine lv_iload_n hx hb d_Va_hasEqualElements_25 rfl (lv_at hl 3 rfl) ?_
              obtain ⟨hpre, vc⟩ := vc
              refine pc_V (As := [.int x, .int x5]) (rest := [.ref (a 0)]) S (c_Va_partOf l D a cI cJ cZ ki co pr pa tw nv sv x x5 hpre) wB_blind k_Va_partOf i_Va_partOf e_Va_partOf o_Va ml_Va_62 hd_Va_partOf (Nat.le_trans (by decide) hRf) (Nat.le_trans (by decide) hRl) hRc (va_recv hK hP (q0 := 0) (ci := 4) rfl rfl) (wB_at hP hK) hl.1 rfl (Nat.le_of_ble_eq_true rfl) d_Va_hasEqualElements_26 ?_
              refine lv_aload_n hx hb d_Va_hasEqualElements_29 rfl (lv_at hl 0 rfl) ?_
              refine lv_iload_n hx hb d_Va_hasEqualElements_30 rfl (lv_at hl 1 rfl) ?_
              refine lv_iload hx hb d_Va_hasEqualElements_31 (lv_at hl 4 rfl) ?_
              obtain ⟨hpre, vc⟩ := vc
              refine pc_V (As := [.int x, .int x8]) (rest := [.int (pa (x * 12 + x5 : Int32).toNatClampNeg), .ref (a 0)]) S (c_Va_partOf l D a cI cJ cZ ki co pr pa tw nv sv x x8 hpre) wB_blind k_Va_partOf i_Va_partOf e_Va_partOf o_Va ml_Va_62 hd_Va_partOf (Nat.le_trans (by decide) hRf) (Nat.le_trans (by decide) hRl) hRc (va_recv hK hP (q0 := 0) (ci := 4) rfl rfl) (wB_at hP hK) hl.1 rfl (Nat.le_of_ble_eq_true rfl) d_Va_hasEqualElements_33 ?_
              obtain ⟨hpre, vc⟩ := vc
              refine pc_V (As := [.int (pa (x * 12 + x5 : Int32).toNatClampNeg), .int (pa (x * 12 + x8 : Int32).toNatClampNeg)]) (rest := []) S (c_Va_areEqual l D a cI cJ cZ ki co pr pa tw nv sv (pa (x * 12 + x5 : Int32).toNatClampNeg) (pa (x * 12 + x8 : Int32).toNatClampNeg) hpre) wB_blind k_Va_areEqual i_Va_areEqual e_Va_areEqual o_Va ml_Va_65 hd_Va_areEqual (Nat.le_trans (by decide) hRf) (Nat.le_trans (by decide) hRl) hRc (va_recv hK hP (q0 := 0) (ci := 4) rfl rfl) (wB_at hP hK) hl.1 rfl (Nat.le_of_ble_eq_true rfl) d_Va_hasEqualElements_36 ?_
              refine lv_if_eq (tgt := 44) hx hb d_Va_hasEqualElements_39 (by decide) (fun h => ?_) (fun h => ?_)
              · have vc := vc.1 h
                refine lv_iinc (k := 4) (v := x8 + 1) hx hb d_Va_hasEqualElements_44 hl rfl rfl (by decide) (lv' := [(4, .int (x8 + 1)), (0, .ref (a 0)), (1, .int x), (2, .int (if ki x.toNatClampNeg = 3 then sCount (co x.toNatClampNeg).toInt32 else iBits (pr x.toNatClampNeg))), (3, .int x5)]) rfl (fun ls hl => ?_)
                refine lv_goto (tgt := 16) hx hb d_Va_hasEqualElements_47 (by decide) ?_
                exact ihI9 (x8 + 1) ls H locs vc.1 (Nat.lt_of_lt_of_le vc.2 (Nat.le_of_lt_succ hmI9)) (lv_sub hl [1, 2, 3, 4, 0] rfl) hP hD hS
              · have vc := vc.2 h
                refine lv_iconst (v := 1) hx hb d_Va_hasEqualElements_42 (by decide) ?_
                exact hret _ _ _ _ _ _ _ _ ls _ H locs d_Va_hasEqualElements_43 vc hP hD hS
        exact lI9 _ 0 ls H locs vc0 (Nat.lt_succ_self _) (lv_sub hl [1, 2, 3, 4, 0] rfl) hP hD hS
  exact lI6 _ 1 ls H locs vc0 (Nat.lt_succ_self _) (lv_sub hl [2, 3, 1, 0] rfl) hP hD hS
set_option maxHeartbeats 4000000 in
theorem v_Va_hasEqualElements (ki : Nat → Int32) (co : Nat → Int64) (pr : Nat → Int32) (pa : Nat → Int32) (tw : Nat → Int32) (nv : Int32) (sv : Int32) (x : Int32) (hpre : (∃ n : Nat, vp_in x 40 ∧ ki x.toNatClampNeg = 4 ∧ VOK ki co pr pa n)) : V_Va_hasEqualElements ki co pr pa tw nv sv x (fun v ki' co' pr' pa' tw' nv' sv' => ∃ rr : Bool, v = bI rr ∧ ((rr = true ↔ ∃ i j, i < 12 ∧ j < i ∧ cpb ki pr x.toNatClampNeg i ∧ cpb ki pr x.toNatClampNeg j ∧ tw (cpt ki pr pa x.toNatClampNeg i) = tw (cpt ki pr pa x.toNatClampNeg j))) ∧ ki' = ki ∧ co' = co ∧ pr' = pr ∧ pa' = pa ∧ tw' = tw ∧ nv' = nv ∧ sv' = sv) := by
  unfold V_Va_hasEqualElements
  obtain ⟨n, hx, hk4, hV⟩ := hpre
  obtain ⟨v, hv, rfl, hcv⟩ := vp_nat hx (by decide)
  rw [hcv] at hk4
  obtain ⟨hn, hpa, hV⟩ := hV
  obtain ⟨_, hb, _, hrow, _⟩ := hV v hv
  obtain ⟨L, hL, bL⟩ := hrow hk4
  have hsz : (if ki v = 3 then sCount (co v).toInt32 else iBits (pr v)) = nI L := by
    rw [if_neg (by rw [hk4]; decide), size_cN hv hb (Or.inl hk4)]
    congr 1
    have : cN (cpb ki pr v) 12 = cN (fun i => i < L) 12 := cN_iff 12 (fun i hi => by
      unfold cpb; rw [bL i hi, decide_eq_true_eq]; exact ⟨fun h => h.1, fun h => ⟨h, hi, hv, Or.inl hk4⟩⟩)
    rw [this]; exact cN_lt_eq L 12 (by omega)
  have hcp : ∀ i, cpb ki pr v i ↔ i < L := fun i => by
    unfold cpb
    constructor
    · rintro ⟨h1, h2, _⟩; rw [bL i h2] at h1; exact of_decide_eq_true h1
    · intro h; exact ⟨by rw [bL i (by omega)]; exact decide_eq_true h, by omega, hv, Or.inl hk4⟩
  have hct : ∀ i, i < L → cpt ki pr pa v i = (pa (v * 12 + i)).toNatClampNeg := fun i hi => cpt_at ((hcp i).mpr hi)
  rw [hcv, hsz]
  have i1 : ∀ k, nI v * 12 + nI k = nI (v * 12 + k) := fun k => by rw [nI_mulR, nI_add]
  refine ⟨hx, fun x => ∃ i, 1 ≤ i ∧ i ≤ max 1 L ∧ x = nI i ∧ ∀ i' j, i' < i → i' < L → j < i' → tw (pa (v * 12 + i')).toNatClampNeg ≠ tw (pa (v * 12 + j)).toNatClampNeg, fun x => 9 - x.toInt.toNat, ⟨1, by omega, by omega, rfl, fun i' j h1 _ h2 => by omega⟩, ?_⟩
  rintro x ⟨i, hi1, hi, rfl, hall⟩
  refine ⟨fun h => ?_, fun h => ?_⟩
  · have hiL := (nI_leI (by omega) (by omega)).mp h
    refine ⟨false, rfl, ⟨fun q => absurd q (by decide), fun ⟨i', j, q1, q2, q3, q4, q5⟩ => ?_⟩, rfl, rfl, rfl, rfl, rfl, rfl, rfl⟩
    rw [hcp] at q3 q4
    rw [hct i' q3, hct j q4] at q5
    exact absurd q5 (hall i' j (by omega) q3 q2)
  · have hiL : i < L := by
      rcases Nat.lt_or_ge i L with q | q
      · exact q
      · exact absurd ((nI_leI (by omega) (by omega)).mpr q) h
    refine ⟨fun x => ∃ k, k ≤ i ∧ x = nI k ∧ ∀ j, j < k → tw (pa (v * 12 + i)).toNatClampNeg ≠ tw (pa (v * 12 + j)).toNatClampNeg, fun x => i - x.toInt.toNat, ⟨0, Nat.zero_le _, rfl, fun j hj => absurd hj (Nat.not_lt_zero _)⟩, ?_⟩
    rintro x ⟨k, hk, rfl, hin⟩
    refine ⟨fun h2 => ?_, fun h2 => ?_⟩
    · obtain rfl := (fill_end (N := i) h2 (by omega) hk).symm
      refine ⟨⟨i + 1, by omega, by omega, nI_1 i, fun i' j q1 q2 q3 => ?_⟩, fill_mu (N := 9) (by omega) (by decide)⟩
      by_cases e : i' = i
      · subst e; exact hin j q3
      · exact hall i' j (by omega) q2 q3
    · have hk2 := fill_step (N := i) h2 (by omega) hk
      rw [i1, i1, nI_clamp (n := v * 12 + i) (by omega), nI_clamp (n := v * 12 + k) (by omega)]
      refine ⟨vp_in_nI (by omega) (by decide), vp_in_nI (by omega) (by decide), ⟨hpa _ (by omega), hpa _ (by omega)⟩, fun h3 => ⟨⟨k + 1, hk2, nI_1 k, fun j hj => ?_⟩, fill_mu hk2 (by omega)⟩, fun h3 => ⟨true, rfl, ⟨fun _ => ⟨i, k, by omega, hk2, (hcp i).mpr hiL, (hcp k).mpr (by omega), ?_⟩, fun _ => rfl⟩, rfl, rfl, rfl, rfl, rfl, rfl, rfl⟩⟩
      · by_cases e : j = k
        · subst e; exact of_decide_eq_false (bI0.mp h3)
        · exact hin j (by omega)
      · rw [hct i hiL, hct k (by omega)]; exact of_decide_eq_true (bI_ne.mp h3)
theorem c_Va_hasEqualElements (l : Launch) (D : va_G) (a : Nat → Nat) (cI cJ cZ : ClassId) (ki : Nat → Int32) (co : Nat → Int64) (pr : Nat → Int32) (pa : Nat → Int32) (tw : Nat → Int32) (nv : Int32) (sv : Int32) (x : Int32) (hpre : (∃ n : Nat, vp_in x 40 ∧ ki x.toNatClampNeg = 4 ∧ VOK ki co pr pa n)) : Wm (S := Bool) l y_Va_hasEqualElements b_Va_hasEqualElements 5 (some .boolean) 2 44 [.ref (a 0), .int x] D (tyA cI cJ cZ) (wV a cI cJ ki co pr pa tw nv sv) (fun uu => (uu = true ↔ ∃ i j, i < 12 ∧ j < i ∧ cpb ki pr x.toNatClampNeg i ∧ cpb ki pr x.toNatClampNeg j ∧ tw (cpt ki pr pa x.toNatClampNeg i) = tw (cpt ki pr pa x.toNatClampNeg j))) (fun uu => some (.int (bI uu))) (fun uu => (wV a cI cJ ki co pr pa tw nv sv)) :=
  wm_i (by decide) (fun _ _ => bI_nar _) (Nat.le_of_ble_eq_true rfl) (fun p e s m below meth c ls Q A S hK hP hD hA hS hl hret => g_Va_hasEqualElements S (Nat.le_refl _) (Nat.le_refl _) ⟨Nat.le_refl _, Nat.le_refl _⟩ D a cI cJ cZ ki co pr pa tw nv sv x hK hP hD hA hS hl (v_Va_hasEqualElements ki co pr pa tw nv sv x hpre) (fun v ki' co' pr' pa' tw' nv' sv' ls1 pc H1 locs1 hd hv hP1 hD1 hS1 => by obtain ⟨rr, rfl, hp, rfl, rfl, rfl, rfl, rfl, rfl, rfl⟩ := hv; exact hret rr _ ls1 pc H1 locs1 hd hp rfl hP1 hD1 hS1))
theorem hd_Va_hasEqualElements : y_Va_hasEqualElements.cls ≠ "java/lang/invoke/MethodHandle" ∧ y_Va_hasEqualElements.cls ≠ "java/lang/invoke/VarHandle" ∧ (parseMethodDescriptor y_Va_hasEqualElements.desc).map (fun d => d.parameters.length) = some 1 := ⟨by decide, by decide, by decide +kernel⟩
