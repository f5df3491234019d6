theorem of_i {x : Int32} (h : ¬ x < 0) : ∃ n : Nat, n < 2 ^ 31 ∧ x = nI n := nI_of h
theorem div5 {n : Nat} (h : n < 2 ^ 31) : nI n / 5 = nI (n / 5) := pk_div h (by decide) (by decide)
theorem rem5 {n : Nat} (h : n < 2 ^ 31) : nI n - nI n / 5 * 5 = nI (n % 5) := pk_rem h (by decide) (by decide)
theorem nI_le0 {n : Nat} (h : n < 2 ^ 31) : nI n ≤ 0 ↔ n = 0 := by
  have e : nI n ≤ nI 0 ↔ n ≤ 0 := nI_leI h (by decide)
  exact e.trans (by omega)
theorem nI_eq0 {n : Nat} (h : n < 2 ^ 31) : nI n = 0 ↔ n = 0 := by
  have e : nI n = nI 0 ↔ n = 0 := nI_eq h (by decide)
  exact e
/-- the letters of a text told by n, at most k of them: none is 0 -/
def told : Nat → Nat → Bool
  | 0, n => decide (n = 0)
  | k + 1, n => if n = 0 then true else if n % 5 = 0 then false else told k (n / 5)
/-- whether t tells a text -/
def sText (t : Int32) : Bool := decide (¬ t < 0) && told 8 t.toInt.toNat
theorem told_0 (k : Nat) : told k 0 = true := by cases k <;> simp [told]
theorem sText_n {n : Nat} (h : n < 2 ^ 31) : sText (nI n) = told 8 n := by
  simp [sText, nI_pos h, nI_toInt h]
def V_Le_areTold (t : Int32) (post : Int32 → Prop) : Prop :=
  (∃ (I4 : Int32 → Int32 → Prop) (mI4 : Int32 → Int32 → Nat), I4 t 0 ∧ (∀ (x2 : Int32) (x3 : Int32), I4 x2 x3 → (∃ J5 : Prop, ((8 ≤ x3 → J5) ∧ (¬ 8 ≤ x3 → ((x2 ≤ 0 → J5) ∧ (¬ x2 ≤ 0 → ((¬ (x2 - x2 / 5 * 5) = 0 → (I4 (x2 / 5) (x3 + 1) ∧ mI4 (x2 / 5) (x3 + 1) < mI4 x2 x3)) ∧ ((x2 - x2 / 5 * 5) = 0 → post 0)))))) ∧ (J5 → ((¬ x2 = 0 → post 0) ∧ (x2 = 0 → post 1))))))
set_option maxHeartbeats 4000000 in
set_option maxRecDepth 100000 in
theorem g_Le_areTold {p : Program} {l : Launch} {e : Env} {R : Room} {s : State} {m : MethodId} {args : Array Value} {below : List Frame} {meth : Method} {c : Code} {H : Heap} {locs : List Loc} {cells slots : Nat} {Q : State → Prop} {ls : Array Slot} (S : CallFix p m c b_Le_areTold 3 s args W0 R_Le) (hRf : 0 ≤ R.frames) (hRl : 0 ≤ R.locals) (hRc : cells ≤ R.cells ∧ slots ≤ R.slots) (t : Int32) (hl : lv_has ls 3 [(0, .int t)]) {post : Int32 → Prop} (vc : V_Le_areTold t post)
    (hret : ∀ (v : Int32) (ls : Array Slot) (pc : Nat), decode b_Le_areTold pc = .ok (.ireturn, 1) → post v → W p l e R s m args below meth c H locs cells slots Q (F0 m pc ls [.int v])) : W p l e R s m args below meth c H locs cells slots Q (F0 m 0 ls []) := by
  have hx := S.1
  have hb := S.2.1
  have hown := S.2.2.2.1
  have hts := S.2.2.2.2
  unfold V_Le_areTold at vc
  refine lv_iload_n hx hb d_Le_areTold_0 rfl (lv_at hl 0 rfl) ?_
  refine lv_istore_n hx hb d_Le_areTold_1 rfl hl (by decide) (lv' := [(1, .int t), (0, .int t)]) rfl (fun ls hl => ?_)
  refine lv_iconst (v := 0) hx hb d_Le_areTold_2 (by decide) ?_
  refine lv_istore_n hx hb d_Le_areTold_3 rfl hl (by decide) (lv' := [(2, .int 0), (1, .int t), (0, .int t)]) rfl (fun ls hl => ?_)
  obtain ⟨I4, mI4, vc0, vcs⟩ := vc
  have lI4 : ∀ n : Nat, ∀ (x2 : Int32) (x3 : Int32) (ls : Array Slot), I4 x2 x3 → mI4 x2 x3 < n → lv_has ls 3 [(0, .int t), (1, .int x2), (2, .int x3)] → W p l e R s m args below meth c H locs cells slots Q (F0 m 4 ls []) := by
    intro n
    induction n with
    | zero => intro x2 x3 ls _ h; exact absurd h (Nat.not_lt_zero _)
    | succ n ihI4 =>
      intro x2 x3 ls vc hmI4 hl
      have vc := vcs x2 x3 vc
      refine lv_iload_n hx hb d_Le_areTold_4 rfl (lv_at hl 2 rfl) ?_
      refine lv_bipush (v := 8) hx hb d_Le_areTold_5 (by decide) ?_
      obtain ⟨J5, vc, vc2⟩ := vc
      have jJ5 : ∀ (ls : Array Slot), J5 → lv_has ls 3 [(0, .int t), (1, .int x2), (2, .int x3)] → W p l e R s m args below meth c H locs cells slots Q (F0 m 32 ls []) := by
        intro  ls vc hl
        have vc := vc2  vc
        refine lv_iload_n hx hb d_Le_areTold_32 rfl (lv_at hl 1 rfl) ?_
        refine lv_if_ne (tgt := 40) hx hb d_Le_areTold_33 (by decide) (fun h => ?_) (fun h => ?_)
        · have vc := vc.1 h
          refine lv_iconst (v := 0) hx hb d_Le_areTold_40 (by decide) ?_
          exact hret _ ls _ d_Le_areTold_41 vc
        · have vc := vc.2 h
          refine lv_iconst (v := 1) hx hb d_Le_areTold_36 (by decide) ?_
          refine lv_goto (tgt := 41) hx hb d_Le_areTold_37 (by decide) ?_
          exact hret _ ls _ d_Le_areTold_41 vc
      clear vc2
      refine lv_icmp_ge (tgt := 32) hx hb d_Le_areTold_7 (by decide) (fun h => ?_) (fun h => ?_)
      · have vc := vc.1 h
        exact jJ5 ls vc (lv_sub hl [0, 1, 2] rfl)
      · have vc := vc.2 h
        refine lv_iload_n hx hb d_Le_areTold_10 rfl (lv_at hl 1 rfl) ?_
        refine lv_if_le (tgt := 32) hx hb d_Le_areTold_11 (by decide) (fun h => ?_) (fun h => ?_)
        · have vc := vc.1 h
          exact jJ5 ls vc (lv_sub hl [0, 1, 2] rfl)
        · have vc := vc.2 h
          refine lv_iload_n hx hb d_Le_areTold_14 rfl (lv_at hl 1 rfl) ?_
          refine lv_iconst (v := 5) hx hb d_Le_areTold_15 (by decide) ?_
          refine lv_irem hx hb d_Le_areTold_16 (by decide) ?_
          refine lv_if_ne (tgt := 22) hx hb d_Le_areTold_17 (by decide) (fun h => ?_) (fun h => ?_)
          · have vc := vc.1 h
            refine lv_iload_n hx hb d_Le_areTold_22 rfl (lv_at hl 1 rfl) ?_
            refine lv_iconst (v := 5) hx hb d_Le_areTold_23 (by decide) ?_
            refine lv_idiv hx hb d_Le_areTold_24 (by decide) ?_
            refine lv_istore_n hx hb d_Le_areTold_25 rfl hl (by decide) (lv' := [(1, .int (x2 / 5)), (0, .int t), (2, .int x3)]) rfl (fun ls hl => ?_)
            refine lv_iinc (k := 2) (v := x3 + 1) hx hb d_Le_areTold_26 hl rfl rfl (by decide) (lv' := [(2, .int (x3 + 1)), (1, .int (x2 / 5)), (0, .int t)]) rfl (fun ls hl => ?_)
            refine lv_goto (tgt := 4) hx hb d_Le_areTold_29 (by decide) ?_
            exact ihI4 (x2 / 5) (x3 + 1) ls vc.1 (Nat.lt_of_lt_of_le vc.2 (Nat.le_of_lt_succ hmI4)) (lv_sub hl [2, 1, 0] rfl)
          · have vc := vc.2 h
            refine lv_iconst (v := 0) hx hb d_Le_areTold_20 (by decide) ?_
            exact hret _ ls _ d_Le_areTold_21 vc
  exact lI4 _ t 0 ls vc0 (Nat.lt_succ_self _) (lv_sub hl [2, 1, 0] rfl)
theorem h_Le_areTold (l : Launch) (t : Int32) (r : Int32) (hr : narrow .boolean (.int r) = .int r) (vc : V_Le_areTold t (fun v => v = r)) : Pm l y_Le_areTold b_Le_areTold 3 (some .boolean) 0 0 [.int t] wT (.int r) :=
  pm_i (by decide) hr (Nat.le_of_ble_eq_true rfl) (fun p e s m below meth c ls Q S hB hl hret => g_Le_areTold S (Nat.le_refl _) (Nat.le_refl _) ⟨Nat.le_refl _, Nat.le_refl _⟩ t hl vc hret)
theorem c_Le_areTold (l : Launch) (t : Int32) : Pm l y_Le_areTold b_Le_areTold 3 (some .boolean) 0 0 [.int t] wT (.int (bI (sText t))) := h_Le_areTold l t _ (bI_nar _) (by
  unfold V_Le_areTold
  refine ⟨fun x i => (x = t ∧ i = 0 ∧ t < 0) ∨ ∃ k n : Nat, k ≤ 8 ∧ n < 2 ^ 31 ∧ x = nI n ∧ i = nI (8 - k) ∧ sText t = told k n, fun _ i => 8 - i.toInt.toNat, ?_, ?_⟩
  · by_cases h : t < 0
    · exact Or.inl ⟨rfl, rfl, h⟩
    · obtain ⟨n, hn, rfl⟩ := of_i h
      exact Or.inr ⟨8, n, by decide, hn, rfl, rfl, sText_n hn⟩
  · intro x i hI
    refine ⟨(x < 0 ∧ t < 0) ∨ ∃ n : Nat, n < 2 ^ 31 ∧ x = nI n ∧ sText t = decide (n = 0), ⟨fun h => ?_, fun h => ⟨fun h2 => ?_, fun h2 => ⟨fun h3 => ?_, fun h3 => ?_⟩⟩⟩, fun hJ => ⟨fun h => ?_, fun h => ?_⟩⟩
    · rcases hI with ⟨rfl, rfl, h0⟩ | ⟨k, n, hk, hn, rfl, rfl, e⟩
      · exact absurd h (by decide)
      · have h' : (8 : Nat) ≤ 8 - k := (nI_leI (a := 8) (b := 8 - k) (by decide) (by omega)).mp h
        have : k = 0 := by omega
        subst this
        exact Or.inr ⟨n, hn, rfl, e⟩
    · rcases hI with ⟨rfl, rfl, h0⟩ | ⟨k, n, hk, hn, rfl, rfl, e⟩
      · exact Or.inl ⟨h0, h0⟩
      · have : n = 0 := (nI_le0 hn).mp h2
        subst this
        exact Or.inr ⟨0, hn, rfl, by rw [e, told_0]; rfl⟩
    · rcases hI with ⟨rfl, rfl, h0⟩ | ⟨k, n, hk, hn, rfl, rfl, e⟩
      · exact absurd (Int32.le_of_lt h0) h2
      · have hk8 : 8 - k < 8 := by
          have := mt (nI_leI (a := 8) (b := 8 - k) (by decide) (by omega)).mpr h
          omega
        have hn0 : n ≠ 0 := fun h => h2 ((nI_le0 hn).mpr h)
        rw [rem5 hn] at h3
        have h5 : n % 5 ≠ 0 := fun h => h3 ((nI_eq0 (by omega)).mpr h)
        obtain ⟨k, rfl⟩ : ∃ k', k = k' + 1 := ⟨k - 1, by omega⟩
        have e2 : nI (8 - (k + 1)) + 1 = nI (8 - k) := by rw [nI_1]; congr 1; omega
        refine ⟨Or.inr ⟨k, n / 5, by omega, by omega, div5 hn, e2, ?_⟩, ?_⟩
        · rw [e]; simp [told, hn0, h5]
        · show 8 - (nI (8 - (k + 1)) + 1).toInt.toNat < 8 - (nI (8 - (k + 1))).toInt.toNat
          rw [e2, nI_toInt (by omega), nI_toInt (by omega)]; omega
    · rcases hI with ⟨rfl, rfl, h0⟩ | ⟨k, n, hk, hn, rfl, rfl, e⟩
      · exact absurd (Int32.le_of_lt h0) h2
      · have hk8 : 8 - k < 8 := by
          have := mt (nI_leI (a := 8) (b := 8 - k) (by decide) (by omega)).mpr h
          omega
        have hn0 : n ≠ 0 := fun h => h2 ((nI_le0 hn).mpr h)
        rw [rem5 hn] at h3
        have h5 : n % 5 = 0 := (nI_eq0 (by omega)).mp h3
        obtain ⟨k, rfl⟩ : ∃ k', k = k' + 1 := ⟨k - 1, by omega⟩
        rw [e]; simp [told, hn0, h5, bI]
    · rcases hJ with ⟨h1, h0⟩ | ⟨n, hn, rfl, e⟩
      · simp [sText, h0, bI]
      · have : n ≠ 0 := fun h0 => h ((nI_eq0 hn).mpr h0)
        rw [e]; simp [this, bI]
    · rcases hJ with ⟨h1, h0⟩ | ⟨n, hn, rfl, e⟩
      · subst h; exact absurd h1 (by decide)
      · have : n = 0 := (nI_eq0 hn).mp h
        rw [e]; simp [this, bI])
theorem hd_Le_areTold : y_Le_areTold.cls ≠ "java/lang/invoke/MethodHandle" ∧ y_Le_areTold.cls ≠ "java/lang/invoke/VarHandle" ∧ (parseMethodDescriptor y_Le_areTold.desc).map (fun d => d.parameters.length) = some 1 := ⟨by decide, by decide, by decide +kernel⟩
def sIn (x y z : Int32) : Bool := decide (y ≤ x ∧ x ≤ z)
def V_Sj_isWithin (x : Int32) (y : Int32) (z : Int32) (post : Int32 → Prop) : Prop :=
  ((x < y → post 0) ∧ (¬ x < y → ((z < x → post 0) ∧ (¬ z < x → post 1))))
set_option maxHeartbeats 4000000 in
set_option maxRecDepth 100000 in
theorem g_Sj_isWithin {p : Program} {l : Launch} {e : Env} {R : Room} {s : State} {m : MethodId} {args : Array Value} {below : List Frame} {meth : Method} {c : Code} {H : Heap} {locs : List Loc} {cells slots : Nat} {Q : State → Prop} {ls : Array Slot} (S : CallFix p m c b_Sj_isWithin 3 s args W0 R_Sj) (hRf : 0 ≤ R.frames) (hRl : 0 ≤ R.locals) (hRc : cells ≤ R.cells ∧ slots ≤ R.slots) (x : Int32) (y : Int32) (z : Int32) (hl : lv_has ls 3 [(0, .int x), (1, .int y), (2, .int z)]) {post : Int32 → Prop} (vc : V_Sj_isWithin x y z post)
    (hret : ∀ (v : Int32) (ls : Array Slot) (pc : Nat), decode b_Sj_isWithin pc = .ok (.ireturn, 1) → post v → W p l e R s m args below meth c H locs cells slots Q (F0 m pc ls [.int v])) : W p l e R s m args below meth c H locs cells slots Q (F0 m 0 ls []) := by
  have hx := S.1
  have hb := S.2.1
  have hown := S.2.2.2.1
  have hts := S.2.2.2.2
  unfold V_Sj_isWithin at vc
  refine lv_iload_n hx hb d_Sj_isWithin_0 rfl (lv_at hl 0 rfl) ?_
  refine lv_iload_n hx hb d_Sj_isWithin_1 rfl (lv_at hl 1 rfl) ?_
  refine lv_icmp_lt (tgt := 14) hx hb d_Sj_isWithin_2 (by decide) (fun h => ?_) (fun h => ?_)
  · have vc := vc.1 h
    refine lv_iconst (v := 0) hx hb d_Sj_isWithin_14 (by decide) ?_
    exact hret _ ls _ d_Sj_isWithin_15 vc
  · have vc := vc.2 h
    refine lv_iload_n hx hb d_Sj_isWithin_5 rfl (lv_at hl 0 rfl) ?_
    refine lv_iload_n hx hb d_Sj_isWithin_6 rfl (lv_at hl 2 rfl) ?_
    refine lv_icmp_gt (tgt := 14) hx hb d_Sj_isWithin_7 (by decide) (fun h => ?_) (fun h => ?_)
    · have vc := vc.1 h
      refine lv_iconst (v := 0) hx hb d_Sj_isWithin_14 (by decide) ?_
      exact hret _ ls _ d_Sj_isWithin_15 vc
    · have vc := vc.2 h
      refine lv_iconst (v := 1) hx hb d_Sj_isWithin_10 (by decide) ?_
      refine lv_goto (tgt := 15) hx hb d_Sj_isWithin_11 (by decide) ?_
      exact hret _ ls _ d_Sj_isWithin_15 vc
theorem h_Sj_isWithin (l : Launch) (x : Int32) (y : Int32) (z : Int32) (r : Int32) (hr : narrow .boolean (.int r) = .int r) (vc : V_Sj_isWithin x y z (fun v => v = r)) : Pm l y_Sj_isWithin b_Sj_isWithin 3 (some .boolean) 0 0 [.int x, .int y, .int z] wT (.int r) :=
  pm_i (by decide) hr (Nat.le_of_ble_eq_true rfl) (fun p e s m below meth c ls Q S hB hl hret => g_Sj_isWithin S (Nat.le_refl _) (Nat.le_refl _) ⟨Nat.le_refl _, Nat.le_refl _⟩ x y z hl vc hret)
theorem c_Sj_isWithin (l : Launch) (x : Int32) (y : Int32) (z : Int32) : Pm l y_Sj_isWithin b_Sj_isWithin 3 (some .boolean) 0 0 [.int x, .int y, .int z] wT (.int (bI (sIn x y z))) := h_Sj_isWithin l x y z _ (bI_nar _) (by
  unfold V_Sj_isWithin
  refine ⟨fun h => ?_, fun h => ⟨fun h2 => ?_, fun h2 => ?_⟩⟩ <;> simp_all [bI, sIn]
  intro h3; exact absurd (Int32.lt_of_lt_of_le h h3) Int32.lt_irrefl)
theorem hd_Sj_isWithin : y_Sj_isWithin.cls ≠ "java/lang/invoke/MethodHandle" ∧ y_Sj_isWithin.cls ≠ "java/lang/invoke/VarHandle" ∧ (parseMethodDescriptor y_Sj_isWithin.desc).map (fun d => d.parameters.length) = some 3 := ⟨by decide, by decide, by decide +kernel⟩
def V_Sj_isName (x : Int32) (post : Int32 → Prop) : Prop :=
  post (bI (sIn x 0 11))
set_option maxHeartbeats 4000000 in
set_option maxRecDepth 100000 in
theorem g_Sj_isName {p : Program} {l : Launch} {e : Env} {R : Room} {s : State} {m : MethodId} {args : Array Value} {below : List Frame} {meth : Method} {c : Code} {H : Heap} {locs : List Loc} {cells slots : Nat} {Q : State → Prop} {ls : Array Slot} (S : CallFix p m c b_Sj_isName 1 s args W0 R_Sj) (hRf : 1 ≤ R.frames) (hRl : 22 ≤ R.locals) (hRc : cells ≤ R.cells ∧ slots ≤ R.slots) (x : Int32) (hl : lv_has ls 1 [(0, .int x)]) {post : Int32 → Prop} (vc : V_Sj_isName x post)
    (hret : ∀ (v : Int32) (ls : Array Slot) (pc : Nat), decode b_Sj_isName pc = .ok (.ireturn, 1) → post v → W p l e R s m args below meth c H locs cells slots Q (F0 m pc ls [.int v])) : W p l e R s m args below meth c H locs cells slots Q (F0 m 0 ls []) := by
  have hx := S.1
  have hb := S.2.1
  have hown := S.2.2.2.1
  have hts := S.2.2.2.2
  unfold V_Sj_isName at vc
  refine lv_iload_n hx hb d_Sj_isName_0 rfl (lv_at hl 0 rfl) ?_
  refine lv_iconst (v := 0) hx hb d_Sj_isName_1 (by decide) ?_
  refine lv_bipush (v := 11) hx hb d_Sj_isName_2 (by decide) ?_
  refine pc_S (As := [.int x, .int 0, .int 11]) (rest := []) S (c_Sj_isWithin l x 0 11) wT_blind k_Sj_isWithin s_Sj_isWithin o_Sj ml_Sj_59 hd_Sj_isWithin (Nat.le_trans (by decide) hRf) (Nat.le_trans (by decide) hRl) hRc (fun _ _ _ => trivial) hl.1 rfl (Nat.le_of_ble_eq_true rfl) d_Sj_isName_4 ?_
  exact hret _ ls _ d_Sj_isName_7 vc
theorem h_Sj_isName (l : Launch) (x : Int32) (r : Int32) (hr : narrow .boolean (.int r) = .int r) (vc : V_Sj_isName x (fun v => v = r)) : Pm l y_Sj_isName b_Sj_isName 1 (some .boolean) 1 22 [.int x] wT (.int r) :=
  pm_i (by decide) hr (Nat.le_of_ble_eq_true rfl) (fun p e s m below meth c ls Q S hB hl hret => g_Sj_isName S (Nat.le_refl _) (Nat.le_refl _) ⟨Nat.le_refl _, Nat.le_refl _⟩ x hl vc hret)
theorem c_Sj_isName (l : Launch) (x : Int32) : Pm l y_Sj_isName b_Sj_isName 1 (some .boolean) 1 22 [.int x] wT (.int (bI (sIn x 0 11))) := h_Sj_isName l x _ (bI_nar _) (by
  unfold V_Sj_isName
  rfl)
theorem hd_Sj_isName : y_Sj_isName.cls ≠ "java/lang/invoke/MethodHandle" ∧ y_Sj_isName.cls ≠ "java/lang/invoke/VarHandle" ∧ (parseMethodDescriptor y_Sj_isName.desc).map (fun d => d.parameters.length) = some 1 := ⟨by decide, by decide, by decide +kernel⟩
theorem k_mmin : Cond.code Lib.Math.min.name Lib.Math.min.code 2 (some .int) ∈ W0 := k_Ma_min
theorem k_mmax : Cond.code Lib.Math.max.name Lib.Math.max.code 2 (some .int) ∈ W0 := k_Ma_max
theorem s_mmin : Cond.static Lib.Math.min.name ∈ W0 := s_Ma_min
theorem s_mmax : Cond.static Lib.Math.max.name ∈ W0 := s_Ma_max
theorem o_mm : Cond.initialized "java/lang/Math" ∈ W0 := o_Ma
theorem sw_of {x : Int32} {lo : Int} {n : Nat} (h1 : ¬ x.toInt < lo) (h2 : ¬ lo + n < x.toInt) : ∃ k : Nat, k ≤ n ∧ x = Int32.ofInt (lo + k) := by
  refine ⟨(x.toInt - lo).toNat, by omega, ?_⟩
  have e : lo + ((x.toInt - lo).toNat : Int) = x.toInt := by omega
  rw [e, Int32.ofInt_toInt]
