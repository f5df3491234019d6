/-! ===== where a schema leads ===== -/
def sBitOf (x : Int32) : Int32 := if x = -1 then 0 else 1 <<< (x &&& 31)
def orN (f : Nat → Int32) : Nat → Int32
  | 0 => 0
  | k + 1 => orN f k ||| f k
def sLB (le li : Nat → Int32) (s k : Nat) : Int32 := orN (fun i => sBitOf (li ((s * 4 + k) * 3 + i))) (le (s * 4 + k)).toNatClampNeg
def sNB (bn : Nat → Int32) (s k : Nat) : Int32 := orN (fun n => sBitOf (bn ((s * 3 + k) * 12 + n))) 12
def sLIP (ru le li bn : Nat → Int32) (s : Nat) : Int32 := (orN (fun k => sBitOf (ru (s * 29 + (17 + k)))) 5 ||| orN (fun k => sLB le li s k) 3) ||| sNB bn s 1
def sLEW (ru le li bn : Nat → Int32) (s : Nat) : Int32 := ((sLB le li s 3 ||| sNB bn s 0) ||| (sBitOf (ru (s * 29 + 22)) ||| sBitOf (ru (s * 29 + 23)))) ||| orN (fun k => sBitOf (ru (s * 29 + (26 + k)))) 3
/-- the lists are no longer than 3 -/
def LeOK (le : Nat → Int32) : Prop := ∀ j, j < 96 → ∃ L, L ≤ 3 ∧ le j = nI L
theorem orN_bt (f : Nat → Int32) (i : Nat) : ∀ n, bt (orN f n) i = true ↔ ∃ k, k < n ∧ bt (f k) i = true := by
  intro n
  induction n with
  | zero => simp [orN, b_0]
  | succ n ih =>
    simp only [orN]
    rw [b_or, Bool.or_eq_true, ih]
    constructor
    · rintro (⟨k, hk, h⟩ | h)
      · exact ⟨k, by omega, h⟩
      · exact ⟨n, by omega, h⟩
    · rintro ⟨k, hk, h⟩
      by_cases e : k = n
      · subst e; exact Or.inr h
      · exact Or.inl ⟨k, by omega, h⟩
theorem or0 (x : Int32) : x ||| 0 = x := b_ext (fun i _ => by rw [b_or, b_0, Bool.or_false])
theorem or_as (x y z : Int32) : x ||| y ||| z = x ||| (y ||| z) := b_ext (fun i _ => by simp only [b_or, Bool.or_assoc])
theorem sBitOf_bt {x : Int32} (h : x = -1 ∨ ∃ q, q < 32 ∧ x = nI q) (t : Nat) : bt (sBitOf x) t = true ↔ t < 32 ∧ x = nI t := by
  unfold sBitOf
  rcases h with h | ⟨q, hq, h⟩
  · subst h
    rw [if_pos rfl, b_0]
    refine ⟨fun h => absurd h (by decide), fun ⟨h1, h2⟩ => ?_⟩
    exact absurd (h2 ▸ neg1_lt) (nI_pos (by omega))
  · subst h
    have : ¬ nI q = -1 := fun e => absurd (e.symm ▸ neg1_lt) (nI_pos (by omega))
    rw [if_neg this, b_shl1 hq, decide_eq_true_eq]
    refine ⟨fun e => by subst e; exact ⟨hq, rfl⟩, fun ⟨h1, h2⟩ => ?_⟩
    rw [nI_eq (by omega) (by omega)] at h2; exact h2.symm
theorem ix4 {s k : Nat} : nI s * 4 + nI (29 + k) - 29 = nI (s * 4 + k) := by
  rw [nI_mulR, nI_add, nI_subR (by omega)]; congr 1; omega
theorem ix12 {s k n : Nat} : (nI s * 4 + nI (29 + k) - 29) * 3 + nI n = nI ((s * 4 + k) * 3 + n) := by rw [ix4, nI_mulR, nI_add]
theorem ix36 {s k n : Nat} : (nI s * 3 + nI (33 + k) - 33) * 12 + nI n = nI ((s * 3 + k) * 12 + n) := by
  rw [nI_mulR, nI_add, nI_subR (by omega), nI_mulR, nI_add]; congr 1; omega
theorem ix29 {s k : Nat} : nI s * 29 + nI k = nI (s * 29 + k) := by rw [nI_mulR, nI_add]
def V_Sc_bitOf (x : Int32) (post : Int32 → Prop) : Prop :=
  ((¬ x = (-1) → post (1 <<< (x &&& 31))) ∧ (x = (-1) → post 0))
set_option maxHeartbeats 4000000 in
set_option maxRecDepth 100000 in
theorem g_Sc_bitOf {p : Program} {l : Launch} {e : Env} {R : Room} {s : State} {m : MethodId} {args : Array Value} {below : List Frame} {meth : Method} {c : Code} {H : Heap} {locs : List Loc} {cells slots : Nat} {Q : State → Prop} {ls : Array Slot} (S : CallFix p m c b_Sc_bitOf 1 s args W0 R_Sc) (hRf : 0 ≤ R.frames) (hRl : 0 ≤ R.locals) (hRc : cells ≤ R.cells ∧ slots ≤ R.slots) (x : Int32) (hl : lv_has ls 1 [(0, .int x)]) {post : Int32 → Prop} (vc : V_Sc_bitOf x post)
    (hret : ∀ (v : Int32) (ls : Array Slot) (pc : Nat), decode b_Sc_bitOf pc = .ok (.ireturn, 1) → post v → W p l e R s m args below meth c H locs cells slots Q (F0 m pc ls [.int v])) : W p l e R s m args below meth c H locs cells slots Q (F0 m 0 ls []) := by
  have hx := S.1
  have hb := S.2.1
  have hown := S.2.2.2.1
  have hts := S.2.2.2.2
  unfold V_Sc_bitOf at vc
  refine lv_iload_n hx hb d_Sc_bitOf_0 rfl (lv_at hl 0 rfl) ?_
  refine lv_iconst (v := (-1)) hx hb d_Sc_bitOf_1 (by decide) ?_
  refine lv_icmp_ne (tgt := 9) hx hb d_Sc_bitOf_2 (by decide) (fun h => ?_) (fun h => ?_)
  · have vc := vc.1 h
    refine lv_iconst (v := 1) hx hb d_Sc_bitOf_9 (by decide) ?_
    refine lv_iload_n hx hb d_Sc_bitOf_10 rfl (lv_at hl 0 rfl) ?_
    refine lv_ishl hx hb d_Sc_bitOf_11 ?_
    exact hret _ ls _ d_Sc_bitOf_12 vc
  · have vc := vc.2 h
    refine lv_iconst (v := 0) hx hb d_Sc_bitOf_5 (by decide) ?_
    refine lv_goto (tgt := 12) hx hb d_Sc_bitOf_6 (by decide) ?_
    exact hret _ ls _ d_Sc_bitOf_12 vc
theorem h_Sc_bitOf (l : Launch) (x : Int32) (r : Int32) (vc : V_Sc_bitOf x (fun v => v = r)) : Pm l y_Sc_bitOf b_Sc_bitOf 1 (some .int) 0 0 [.int x] wT (.int r) :=
  pm_i (by decide) rfl (Nat.le_of_ble_eq_true rfl) (fun p e s m below meth c ls Q S hB hl hret => g_Sc_bitOf S (Nat.le_refl _) (Nat.le_refl _) ⟨Nat.le_refl _, Nat.le_refl _⟩ x hl vc hret)
theorem c_Sc_bitOf (l : Launch) (x : Int32) : Pm l y_Sc_bitOf b_Sc_bitOf 1 (some .int) 0 0 [.int x] wT (.int (sBitOf x)) := h_Sc_bitOf l x _ (by
  unfold V_Sc_bitOf
  exact ⟨fun h => by simp [sBitOf, h], fun h => by simp [sBitOf, h]⟩)
theorem hd_Sc_bitOf : y_Sc_bitOf.cls ≠ "java/lang/invoke/MethodHandle" ∧ y_Sc_bitOf.cls ≠ "java/lang/invoke/VarHandle" ∧ (parseMethodDescriptor y_Sc_bitOf.desc).map (fun d => d.parameters.length) = some 1 := ⟨by decide, by decide, by decide +kernel⟩
def V_Sc_listedBits (ru : Nat → Int32) (le : Nat → Int32) (li : Nat → Int32) (bn : Nat → Int32) (ip : Nat → Int32) (aw : Nat → Int32) (ns : Int32) (x : Int32) (y : Int32) (post : Int32 → Prop) : Prop :=
  (∃ (I4 : Int32 → Int32 → Prop) (mI4 : Int32 → Int32 → Nat), I4 0 0 ∧ (∀ (x2 : Int32) (x3 : Int32), I4 x2 x3 → (vp_in (x * 4 + y - 29) 96 ∧ (((le (x * 4 + y - 29 : Int32).toNatClampNeg) ≤ x3 → post x2) ∧ (¬ (le (x * 4 + y - 29 : Int32).toNatClampNeg) ≤ x3 → (vp_in ((x * 4 + y - 29) * 3 + x3) 288 ∧ (I4 (x2 ||| (sBitOf (li ((x * 4 + y - 29) * 3 + x3 : Int32).toNatClampNeg))) (x3 + 1) ∧ mI4 (x2 ||| (sBitOf (li ((x * 4 + y - 29) * 3 + x3 : Int32).toNatClampNeg))) (x3 + 1) < mI4 x2 x3)))))))
set_option maxHeartbeats 4000000 in
set_option maxRecDepth 100000 in
theorem g_Sc_listedBits {p : Program} {l : Launch} {e : Env} {R : Room} {s : State} {m : MethodId} {args : Array Value} {below : List Frame} {meth : Method} {c : Code} {H : Heap} {locs : List Loc} {cells slots : Nat} {Q : State → Prop} {ls : Array Slot} (S : CallFix p m c b_Sc_listedBits 5 s args W0 R_Sc) (hRf : 2 ≤ R.frames) (hRl : 44 ≤ R.locals) (hRc : cells ≤ R.cells ∧ slots ≤ R.slots) (D : va_G) (a : Nat → Nat) (cI cJ cZ : ClassId) (ru : Nat → Int32) (le : Nat → Int32) (li : Nat → Int32) (bn : Nat → Int32) (ip : Nat → Int32) (aw : Nat → Int32) (ns : Int32) (x : Int32) (y : Int32) (hK : va_K D vwCl (tyA cI cJ cZ) s) (hP : va_P D vwCl (wS a cI ru le li bn ip aw ns) H) (hl : lv_has ls 5 [(0, .ref (a 12)), (1, .int x), (2, .int y)]) {post : Int32 → Prop} (vc : V_Sc_listedBits ru le li bn ip aw ns x y post)
    (hret : ∀ (v : Int32) (ls : Array Slot) (pc : Nat), decode b_Sc_listedBits pc = .ok (.ireturn, 1) → post v → W p l e R s m args below meth c H locs cells slots Q (F0 m pc ls [.int v])) : W p l e R s m args below meth c H locs cells slots Q (F0 m 0 ls []) := by
  have hx := S.1
  have hb := S.2.1
  have hown := S.2.2.2.1
  have hts := S.2.2.2.2
  unfold V_Sc_listedBits at vc
  refine lv_iconst (v := 0) hx hb d_Sc_listedBits_0 (by decide) ?_
  refine lv_istore_n hx hb d_Sc_listedBits_1 rfl hl (by decide) (lv' := [(3, .int 0), (0, .ref (a 12)), (1, .int x), (2, .int y)]) rfl (fun ls hl => ?_)
  refine lv_iconst (v := 0) hx hb d_Sc_listedBits_2 (by decide) ?_
  refine lv_istore hx hb d_Sc_listedBits_3 hl (by decide) (lv' := [(4, .int 0), (3, .int 0), (0, .ref (a 12)), (1, .int x), (2, .int y)]) rfl (fun ls hl => ?_)
  obtain ⟨I4, mI4, vc0, vcs⟩ := vc
  have lI4 : ∀ n : Nat, ∀ (x2 : Int32) (x3 : Int32) (ls : Array Slot), I4 x2 x3 → mI4 x2 x3 < n → lv_has ls 5 [(0, .ref (a 12)), (1, .int x), (2, .int y), (3, .int x2), (4, .int x3)] → W p l e R s m args below meth c H locs cells slots Q (F0 m 5 ls []) := by
    intro n
    induction n with
    | zero => intro x2 x3 ls _ h; exact absurd h (Nat.not_lt_zero _)
    | succ n ihI4 =>
      intro x2 x3 ls vc hmI4 hl
      have vc := vcs x2 x3 vc
      refine lv_iload hx hb d_Sc_listedBits_5 (lv_at hl 4 rfl) ?_
      refine lv_aload_n hx hb d_Sc_listedBits_7 rfl (lv_at hl 0 rfl) ?_
      refine lv_iload_n hx hb d_Sc_listedBits_8 rfl (lv_at hl 1 rfl) ?_
      refine lv_iload_n hx hb d_Sc_listedBits_9 rfl (lv_at hl 2 rfl) ?_
      obtain ⟨hpre, vc⟩ := vc
      refine pc_V (As := [.int x, .int y]) (rest := [.int x3]) S (c_Sc_lengthOf l D a cI cJ cZ ru le li bn ip aw ns x y hpre) wB_blind k_Sc_lengthOf i_Sc_lengthOf e_Sc_lengthOf o_Sc ml_Sc_73 hd_Sc_lengthOf (Nat.le_trans (by decide) hRf) (Nat.le_trans (by decide) hRl) hRc (va_recv hK hP (q0 := 0) (ci := 3) rfl rfl) (wB_at hP hK) hl.1 rfl (Nat.le_of_ble_eq_true rfl) d_Sc_listedBits_10 ?_
      refine lv_icmp_ge (tgt := 36) hx hb d_Sc_listedBits_13 (by decide) (fun h => ?_) (fun h => ?_)
      · have vc := vc.1 h
        refine lv_iload_n hx hb d_Sc_listedBits_36 rfl (lv_at hl 3 rfl) ?_
        exact hret _ ls _ d_Sc_listedBits_37 vc
      · have vc := vc.2 h
        refine lv_iload_n hx hb d_Sc_listedBits_16 rfl (lv_at hl 3 rfl) ?_
        refine lv_aload_n hx hb d_Sc_listedBits_17 rfl (lv_at hl 0 rfl) ?_
        refine lv_iload_n hx hb d_Sc_listedBits_18 rfl (lv_at hl 1 rfl) ?_
        refine lv_iload_n hx hb d_Sc_listedBits_19 rfl (lv_at hl 2 rfl) ?_
        refine lv_iload hx hb d_Sc_listedBits_20 (lv_at hl 4 rfl) ?_
        obtain ⟨hpre, vc⟩ := vc
        refine pc_V (As := [.int x, .int y, .int x3]) (rest := [.int x2]) S (c_Sc_listedAt l D a cI cJ cZ ru le li bn ip aw ns x y x3 hpre) wB_blind k_Sc_listedAt i_Sc_listedAt e_Sc_listedAt o_Sc ml_Sc_76 hd_Sc_listedAt (Nat.le_trans (by decide) hRf) (Nat.le_trans (by decide) hRl) hRc (va_recv hK hP (q0 := 0) (ci := 3) rfl rfl) (wB_at hP hK) hl.1 rfl (Nat.le_of_ble_eq_true rfl) d_Sc_listedBits_22 ?_
        refine pc_S (As := [.int (li ((x * 4 + y - 29) * 3 + x3 : Int32).toNatClampNeg)]) (rest := [.int x2]) S (c_Sc_bitOf l (li ((x * 4 + y - 29) * 3 + x3 : Int32).toNatClampNeg)) wT_blind k_Sc_bitOf s_Sc_bitOf o_Sc ml_Sc_64 hd_Sc_bitOf (Nat.le_trans (by decide) hRf) (Nat.le_trans (by decide) hRl) hRc (fun _ _ _ => trivial) hl.1 rfl (Nat.le_of_ble_eq_true rfl) d_Sc_listedBits_25 ?_
        refine lv_ior hx hb d_Sc_listedBits_28 ?_
        refine lv_istore_n hx hb d_Sc_listedBits_29 rfl hl (by decide) (lv' := [(3, .int (x2 ||| (sBitOf (li ((x * 4 + y - 29) * 3 + x3 : Int32).toNatClampNeg)))), (0, .ref (a 12)), (1, .int x), (2, .int y), (4, .int x3)]) rfl (fun ls hl => ?_)
        refine lv_iinc (k := 4) (v := x3 + 1) hx hb d_Sc_listedBits_30 hl rfl rfl (by decide) (lv' := [(4, .int (x3 + 1)), (3, .int (x2 ||| (sBitOf (li ((x * 4 + y - 29) * 3 + x3 : Int32).toNatClampNeg)))), (0, .ref (a 12)), (1, .int x), (2, .int y)]) rfl (fun ls hl => ?_)
        refine lv_goto (tgt := 5) hx hb d_Sc_listedBits_33 (by decide) ?_
        exact ihI4 (x2 ||| (sBitOf (li ((x * 4 + y - 29) * 3 + x3 : Int32).toNatClampNeg))) (x3 + 1) ls vc.1 (Nat.lt_of_lt_of_le vc.2 (Nat.le_of_lt_succ hmI4)) (lv_sub hl [2, 3, 4, 1, 0] rfl)
  exact lI4 _ 0 0 ls vc0 (Nat.lt_succ_self _) (lv_sub hl [2, 3, 4, 1, 0] rfl)
theorem h_Sc_listedBits (l : Launch) (D : va_G) (a : Nat → Nat) (cI cJ cZ : ClassId) (ru : Nat → Int32) (le : Nat → Int32) (li : Nat → Int32) (bn : Nat → Int32) (ip : Nat → Int32) (aw : Nat → Int32) (ns : Int32) (x : Int32) (y : Int32) (r : Int32) (vc : V_Sc_listedBits ru le li bn ip aw ns x y (fun v => v = r)) : Pm l y_Sc_listedBits b_Sc_listedBits 5 (some .int) 2 44 [.ref (a 12), .int x, .int y] (wB D (tyA cI cJ cZ) (wS a cI ru le li bn ip aw ns)) (.int r) :=
  pm_i (by decide) rfl (Nat.le_of_ble_eq_true rfl) (fun p e s m below meth c ls Q S hB hl hret => g_Sc_listedBits S (Nat.le_refl _) (Nat.le_refl _) ⟨Nat.le_refl _, Nat.le_refl _⟩ D a cI cJ cZ ru le li bn ip aw ns x y hB.2 hB.1 hl vc hret)
theorem c_Sc_listedBits (l : Launch) (D : va_G) (a : Nat → Nat) (cI cJ cZ : ClassId) (ru : Nat → Int32) (le : Nat → Int32) (li : Nat → Int32) (bn : Nat → Int32) (ip : Nat → Int32) (aw : Nat → Int32) (ns : Int32) (x : Int32) (y : Int32) (hpre : (∃ s k : Nat, s < 24 ∧ k < 4 ∧ x = nI s ∧ y = nI (29 + k) ∧ LeOK le)) : Pm l y_Sc_listedBits b_Sc_listedBits 5 (some .int) 2 44 [.ref (a 12), .int x, .int y] (wB D (tyA cI cJ cZ) (wS a cI ru le li bn ip aw ns)) (.int (sLB le li x.toNatClampNeg (y.toNatClampNeg - 29))) := h_Sc_listedBits l D a cI cJ cZ ru le li bn ip aw ns x y _ (by
  unfold V_Sc_listedBits
  obtain ⟨q, k, hq, hk, rfl, rfl, hle⟩ := hpre
  obtain ⟨L, hL, eL⟩ := hle (q * 4 + k) (by omega)
  simp only [ix12, ix4, nI_clamp (show q * 4 + k < 2 ^ 31 by omega), eL]
  have e1 : sLB le li (nI q).toNatClampNeg ((nI (29 + k)).toNatClampNeg - 29) = orN (fun i => sBitOf (li ((q * 4 + k) * 3 + i))) L := by
    rw [nI_clamp (by omega), nI_clamp (by omega), Nat.add_sub_cancel_left]; unfold sLB; rw [eL, nI_clamp (by omega)]
  rw [e1]
  refine ⟨fun z i => ∃ j, j ≤ L ∧ i = nI j ∧ z = orN (fun i => sBitOf (li ((q * 4 + k) * 3 + i))) j, fun _ i => L - i.toInt.toNat, ⟨0, Nat.zero_le _, rfl, rfl⟩, ?_⟩
  rintro z i ⟨j, hj, rfl, rfl⟩
  refine ⟨vp_in_nI (by omega) (by decide), fun h => ?_, fun h => ?_⟩
  · obtain rfl := fill_end (N := L) h (by omega) hj; rfl
  · have hj2 := fill_step (N := L) h (by omega) hj
    have i3 : nI (q * 4 + k) * 3 + nI j = nI ((q * 4 + k) * 3 + j) := by rw [nI_mulR, nI_add]
    rw [i3, nI_clamp (by omega)]
    exact ⟨vp_in_nI (by omega) (by decide), ⟨j + 1, hj2, nI_1 j, rfl⟩, fill_mu hj2 (by omega)⟩)
theorem hd_Sc_listedBits : y_Sc_listedBits.cls ≠ "java/lang/invoke/MethodHandle" ∧ y_Sc_listedBits.cls ≠ "java/lang/invoke/VarHandle" ∧ (parseMethodDescriptor y_Sc_listedBits.desc).map (fun d => d.parameters.length) = some 2 := ⟨by decide, by decide, by decide +kernel⟩
def V_Sc_namedBits (ru : Nat → Int32) (le : Nat → Int32) (li : Nat → Int32) (bn : Nat → Int32) (ip : Nat → Int32) (aw : Nat → Int32) (ns : Int32) (x : Int32) (y : Int32) (post : Int32 → Prop) : Prop :=
  (∃ (I4 : Int32 → Int32 → Prop) (mI4 : Int32 → Int32 → Nat), I4 0 0 ∧ (∀ (x2 : Int32) (x3 : Int32), I4 x2 x3 → ((12 ≤ x3 → post x2) ∧ (¬ 12 ≤ x3 → (vp_in ((x * 3 + y - 33) * 12 + x3) 864 ∧ (I4 (x2 ||| (sBitOf (bn ((x * 3 + y - 33) * 12 + x3 : Int32).toNatClampNeg))) (x3 + 1) ∧ mI4 (x2 ||| (sBitOf (bn ((x * 3 + y - 33) * 12 + x3 : Int32).toNatClampNeg))) (x3 + 1) < mI4 x2 x3))))))
set_option maxHeartbeats 4000000 in
set_option maxRecDepth 100000 in
theorem g_Sc_namedBits {p : Program} {l : Launch} {e : Env} {R : Room} {s : State} {m : MethodId} {args : Array Value} {below : List Frame} {meth : Method} {c : Code} {H : Heap} {locs : List Loc} {cells slots : Nat} {Q : State → Prop} {ls : Array Slot} (S : CallFix p m c b_Sc_namedBits 5 s args W0 R_Sc) (hRf : 2 ≤ R.frames) (hRl : 45 ≤ R.locals) (hRc : cells ≤ R.cells ∧ slots ≤ R.slots) (D : va_G) (a : Nat → Nat) (cI cJ cZ : ClassId) (ru : Nat → Int32) (le : Nat → Int32) (li : Nat → Int32) (bn : Nat → Int32) (ip : Nat → Int32) (aw : Nat → Int32) (ns : Int32) (x : Int32) (y : Int32) (hK : va_K D vwCl (tyA cI cJ cZ) s) (hP : va_P D vwCl (wS a cI ru le li bn ip aw ns) H) (hl : lv_has ls 5 [(0, .ref (a 12)), (1, .int x), (2, .int y)]) {post : Int32 → Prop} (vc : V_Sc_namedBits ru le li bn ip aw ns x y post)
    (hret : ∀ (v : Int32) (ls : Array Slot) (pc : Nat), decode b_Sc_namedBits pc = .ok (.ireturn, 1) → post v → W p l e R s m args below meth c H locs cells slots Q (F0 m pc ls [.int v])) : W p l e R s m args below meth c H locs cells slots Q (F0 m 0 ls []) := by
  have hx := S.1
  have hb := S.2.1
  have hown := S.2.2.2.1
  have hts := S.2.2.2.2
  unfold V_Sc_namedBits at vc
  refine lv_iconst (v := 0) hx hb d_Sc_namedBits_0 (by decide) ?_
  refine lv_istore_n hx hb d_Sc_namedBits_1 rfl hl (by decide) (lv' := [(3, .int 0), (0, .ref (a 12)), (1, .int x), (2, .int y)]) rfl (fun ls hl => ?_)
  refine lv_iconst (v := 0) hx hb d_Sc_namedBits_2 (by decide) ?_
  refine lv_istore hx hb d_Sc_namedBits_3 hl (by decide) (lv' := [(4, .int 0), (3, .int 0), (0, .ref (a 12)), (1, .int x), (2, .int y)]) rfl (fun ls hl => ?_)
  obtain ⟨I4, mI4, vc0, vcs⟩ := vc
  have lI4 : ∀ n : Nat, ∀ (x2 : Int32) (x3 : Int32) (ls : Array Slot), I4 x2 x3 → mI4 x2 x3 < n → lv_has ls 5 [(0, .ref (a 12)), (1, .int x), (2, .int y), (3, .int x2), (4, .int x3)] → W p l e R s m args below meth c H locs cells slots Q (F0 m 5 ls []) := by
    intro n
    induction n with
    | zero => intro x2 x3 ls _ h; exact absurd h (Nat.not_lt_zero _)
    | succ n ihI4 =>
      intro x2 x3 ls vc hmI4 hl
      have vc := vcs x2 x3 vc
      refine lv_iload hx hb d_Sc_namedBits_5 (lv_at hl 4 rfl) ?_
      refine lv_bipush (v := 12) hx hb d_Sc_namedBits_7 (by decide) ?_
      refine lv_icmp_ge (tgt := 32) hx hb d_Sc_namedBits_9 (by decide) (fun h => ?_) (fun h => ?_)
      · have vc := vc.1 h
        refine lv_iload_n hx hb d_Sc_namedBits_32 rfl (lv_at hl 3 rfl) ?_
        exact hret _ ls _ d_Sc_namedBits_33 vc
      · have vc := vc.2 h
        refine lv_iload_n hx hb d_Sc_namedBits_12 rfl (lv_at hl 3 rfl) ?_
        refine lv_aload_n hx hb d_Sc_namedBits_13 rfl (lv_at hl 0 rfl) ?_
        refine lv_iload_n hx hb d_Sc_namedBits_14 rfl (lv_at hl 1 rfl) ?_
        refine lv_iload_n hx hb d_Sc_namedBits_15 rfl (lv_at hl 2 rfl) ?_
        refine lv_iload hx hb d_Sc_namedBits_16 (lv_at hl 4 rfl) ?_
        obtain ⟨hpre, vc⟩ := vc
        refine pc_V (As := [.int x, .int y, .int x3]) (rest := [.int x2]) S (c_Sc_byNameOf l D a cI cJ cZ ru le li bn ip aw ns x y x3 hpre) wB_blind k_Sc_byNameOf i_Sc_byNameOf e_Sc_byNameOf o_Sc ml_Sc_79 hd_Sc_byNameOf (Nat.le_trans (by decide) hRf) (Nat.le_trans (by decide) hRl) hRc (va_recv hK hP (q0 := 0) (ci := 3) rfl rfl) (wB_at hP hK) hl.1 rfl (Nat.le_of_ble_eq_true rfl) d_Sc_namedBits_18 ?_
        refine pc_S (As := [.int (bn ((x * 3 + y - 33) * 12 + x3 : Int32).toNatClampNeg)]) (rest := [.int x2]) S (c_Sc_bitOf l (bn ((x * 3 + y - 33) * 12 + x3 : Int32).toNatClampNeg)) wT_blind k_Sc_bitOf s_Sc_bitOf o_Sc ml_Sc_64 hd_Sc_bitOf (Nat.le_trans (by decide) hRf) (Nat.le_trans (by decide) hRl) hRc (fun _ _ _ => trivial) hl.1 rfl (Nat.le_of_ble_eq_true rfl) d_Sc_namedBits_21 ?_
        refine lv_ior hx hb d_Sc_namedBits_24 ?_
        refine lv_istore_n hx hb d_Sc_namedBits_25 rfl hl (by decide) (lv' := [(3, .int (x2 ||| (sBitOf (bn ((x * 3 + y - 33) * 12 + x3 : Int32).toNatClampNeg)))), (0, .ref (a 12)), (1, .int x), (2, .int y), (4, .int x3)]) rfl (fun ls hl => ?_)
        refine lv_iinc (k := 4) (v := x3 + 1) hx hb d_Sc_namedBits_26 hl rfl rfl (by decide) (lv' := [(4, .int (x3 + 1)), (3, .int (x2 ||| (sBitOf (bn ((x * 3 + y - 33) * 12 + x3 : Int32).toNatClampNeg)))), (0, .ref (a 12)), (1, .int x), (2, .int y)]) rfl (fun ls hl => ?_)
        refine lv_goto (tgt := 5) hx hb d_Sc_namedBits_29 (by decide) ?_
        exact ihI4 (x2 ||| (sBitOf (bn ((x * 3 + y - 33) * 12 + x3 : Int32).toNatClampNeg))) (x3 + 1) ls vc.1 (Nat.lt_of_lt_of_le vc.2 (Nat.le_of_lt_succ hmI4)) (lv_sub hl [2, 3, 4, 1, 0] rfl)
  exact lI4 _ 0 0 ls vc0 (Nat.lt_succ_self _) (lv_sub hl [2, 3, 4, 1, 0] rfl)
theorem h_Sc_namedBits (l : Launch) (D : va_G) (a : Nat → Nat) (cI cJ cZ : ClassId) (ru : Nat → Int32) (le : Nat → Int32) (li : Nat → Int32) (bn : Nat → Int32) (ip : Nat → Int32) (aw : Nat → Int32) (ns : Int32) (x : Int32) (y : Int32) (r : Int32) (vc : V_Sc_namedBits ru le li bn ip aw ns x y (fun v => v = r)) : Pm l y_Sc_namedBits b_Sc_namedBits 5 (some .int) 2 45 [.ref (a 12), .int x, .int y] (wB D (tyA cI cJ cZ) (wS a cI ru le li bn ip aw ns)) (.int r) :=
  pm_i (by decide) rfl (Nat.le_of_ble_eq_true rfl) (fun p e s m below meth c ls Q S hB hl hret => g_Sc_namedBits S (Nat.le_refl _) (Nat.le_refl _) ⟨Nat.le_refl _, Nat.le_refl _⟩ D a cI cJ cZ ru le li bn ip aw ns x y hB.2 hB.1 hl vc hret)
theorem c_Sc_namedBits (l : Launch) (D : va_G) (a : Nat → Nat) (cI cJ cZ : ClassId) (ru : Nat → Int32) (le : Nat → Int32) (li : Nat → Int32) (bn : Nat → Int32) (ip : Nat → Int32) (aw : Nat → Int32) (ns : Int32) (x : Int32) (y : Int32) (hpre : (∃ s k : Nat, s < 24 ∧ k < 3 ∧ x = nI s ∧ y = nI (33 + k))) : Pm l y_Sc_namedBits b_Sc_namedBits 5 (some .int) 2 45 [.ref (a 12), .int x, .int y] (wB D (tyA cI cJ cZ) (wS a cI ru le li bn ip aw ns)) (.int (sNB bn x.toNatClampNeg (y.toNatClampNeg - 33))) := h_Sc_namedBits l D a cI cJ cZ ru le li bn ip aw ns x y _ (by
  unfold V_Sc_namedBits
  obtain ⟨q, k, hq, hk, rfl, rfl⟩ := hpre
  have e1 : sNB bn (nI q).toNatClampNeg ((nI (33 + k)).toNatClampNeg - 33) = orN (fun i => sBitOf (bn ((q * 3 + k) * 12 + i))) 12 := by
    rw [nI_clamp (by omega), nI_clamp (by omega), Nat.add_sub_cancel_left]; rfl
  rw [e1]
  refine ⟨fun z i => ∃ j, j ≤ 12 ∧ i = nI j ∧ z = orN (fun i => sBitOf (bn ((q * 3 + k) * 12 + i))) j, fun _ i => 12 - i.toInt.toNat, ⟨0, Nat.zero_le _, rfl, rfl⟩, ?_⟩
  rintro z i ⟨j, hj, rfl, rfl⟩
  refine ⟨fun h => ?_, fun h => ?_⟩
  · obtain rfl := fill_end (N := 12) h (by decide) hj; rfl
  · have hj2 := fill_step (N := 12) h (by decide) hj
    rw [ix36, nI_clamp (by omega)]
    exact ⟨vp_in_nI (by omega) (by decide), ⟨j + 1, hj2, nI_1 j, rfl⟩, fill_mu hj2 (by decide)⟩)
theorem hd_Sc_namedBits : y_Sc_namedBits.cls ≠ "java/lang/invoke/MethodHandle" ∧ y_Sc_namedBits.cls ≠ "java/lang/invoke/VarHandle" ∧ (parseMethodDescriptor y_Sc_namedBits.desc).map (fun d => d.parameters.length) = some 2 := ⟨by decide, by decide, by decide +kernel⟩
def V_Sc_leadsInPlace (ru : Nat → Int32) (le : Nat → Int32) (li : Nat → Int32) (bn : Nat → Int32) (ip : Nat → Int32) (aw : Nat → Int32) (ns : Int32) (x : Int32) (post : Int32 → Prop) : Prop :=
  (∃ (I4 : Int32 → Int32 → Prop) (mI4 : Int32 → Int32 → Nat), I4 0 17 ∧ (∀ (x2 : Int32) (x3 : Int32), I4 x2 x3 → ((21 < x3 → (∃ (I8 : Int32 → Int32 → Prop) (mI8 : Int32 → Int32 → Nat), I8 x2 29 ∧ (∀ (x6 : Int32) (x7 : Int32), I8 x6 x7 → ((31 < x7 → ((∃ s k : Nat, s < 24 ∧ k < 3 ∧ x = nI s ∧ 34 = nI (33 + k)) ∧ post (x6 ||| (sNB bn x.toNatClampNeg ((34 : Int32).toNatClampNeg - 33))))) ∧ (¬ 31 < x7 → ((∃ s k : Nat, s < 24 ∧ k < 4 ∧ x = nI s ∧ x7 = nI (29 + k) ∧ LeOK le) ∧ (I8 (x6 ||| (sLB le li x.toNatClampNeg (x7.toNatClampNeg - 29))) (x7 + 1) ∧ mI8 (x6 ||| (sLB le li x.toNatClampNeg (x7.toNatClampNeg - 29))) (x7 + 1) < mI8 x6 x7))))))) ∧ (¬ 21 < x3 → (vp_in (x * 29 + x3) 696 ∧ (I4 (x2 ||| (sBitOf (ru (x * 29 + x3 : Int32).toNatClampNeg))) (x3 + 1) ∧ mI4 (x2 ||| (sBitOf (ru (x * 29 + x3 : Int32).toNatClampNeg))) (x3 + 1) < mI4 x2 x3))))))
set_option maxHeartbeats 4000000 in
set_option maxRecDepth 100000 in
theorem g_Sc_leadsInPlace {p : Program} {l : Launch} {e : Env} {R : Room} {s : State} {m : MethodId} {args : Array Value} {below : List Frame} {meth : Method} {c : Code} {H : Heap} {locs : List Loc} {cells slots : Nat} {Q : State → Prop} {ls : Array Slot} (S : CallFix p m c b_Sc_leadsInPlace 4 s args W0 R_Sc) (hRf : 3 ≤ R.frames) (hRl : 69 ≤ R.locals) (hRc : cells ≤ R.cells ∧ slots ≤ R.slots) (D : va_G) (a : Nat → Nat) (cI cJ cZ : ClassId) (ru : Nat → Int32) (le : Nat → Int32) (li : Nat → Int32) (bn : Nat → Int32) (ip : Nat → Int32) (aw : Nat → Int32) (ns : Int32) (x : Int32) (hK : va_K D vwCl (tyA cI cJ cZ) s) (hP : va_P D vwCl (wS a cI ru le li bn ip aw ns) H) (hl : lv_has ls 4 [(0, .ref (a 12)), (1, .int x)]) {post : Int32 → Prop} (vc : V_Sc_leadsInPlace ru le li bn ip aw ns x post)
    (hret : ∀ (v : Int32) (ls : Array Slot) (pc : Nat), decode b_Sc_leadsInPlace pc = .ok (.ireturn, 1) → post v → W p l e R s m args below meth c H locs cells slots Q (F0 m pc ls [.int v])) : W p l e R s m args below meth c H locs cells slots Q (F0 m 0 ls []) := by
  have hx := S.1
  have hb := S.2.1
  have hown := S.2.2.2.1
  have hts := S.2.2.2.2
  unfold V_Sc_leadsInPlace at vc
  refine lv_iconst (v := 0) hx hb d_Sc_leadsInPlace_0 (by decide) ?_
  refine lv_istore_n hx hb d_Sc_leadsInPlace_1 rfl hl (by decide) (lv' := [(2, .int 0), (0, .ref (a 12)), (1, .int x)]) rfl (fun ls hl => ?_)
  refine lv_bipush (v := 17) hx hb d_Sc_leadsInPlace_2 (by decide) ?_
  refine lv_istore_n hx hb d_Sc_leadsInPlace_4 rfl hl (by decide) (lv' := [(3, .int 17), (2, .int 0), (0, .ref (a 12)), (1, .int x)]) rfl (fun ls hl => ?_)
  obtain ⟨I4, mI4, vc0, vcs⟩ := vc
  have lI4 : ∀ n : Nat, ∀ (x2 : Int32) (x3 : Int32) (ls : Array Slot), I4 x2 x3 → mI4 x2 x3 < n → lv_has ls 4 [(0, .ref (a 12)), (1, .int x), (2, .int x2), (3, .int x3)] → W p l e R s m args below meth c H locs cells slots Q (F0 m 5 ls []) := by
    intro n
    induction n with
    | zero => intro x2 x3 ls _ h; exact absurd h (Nat.not_lt_zero _)
    | succ n ihI4 =>
      intro x2 x3 ls vc hmI4 hl
      have vc := vcs x2 x3 vc
      refine lv_iload_n hx hb d_Sc_leadsInPlace_5 rfl (lv_at hl 3 rfl) ?_
      refine lv_bipush (v := 21) hx hb d_Sc_leadsInPlace_6 (by decide) ?_
      refine lv_icmp_gt (tgt := 29) hx hb d_Sc_leadsInPlace_8 (by decide) (fun h => ?_) (fun h => ?_)
      · have vc := vc.1 h
        refine lv_bipush (v := 29) hx hb d_Sc_leadsInPlace_29 (by decide) ?_
        refine lv_istore_n hx hb d_Sc_leadsInPlace_31 rfl hl (by decide) (lv' := [(3, .int 29), (0, .ref (a 12)), (1, .int x), (2, .int x2)]) rfl (fun ls hl => ?_)
        obtain ⟨I8, mI8, vc0, vcs⟩ := vc
        have lI8 : ∀ n : Nat, ∀ (x6 : Int32) (x7 : Int32) (ls : Array Slot), I8 x6 x7 → mI8 x6 x7 < n → lv_has ls 4 [(0, .ref (a 12)), (1, .int x), (2, .int x6), (3, .int x7)] → W p l e R s m args below meth c H locs cells slots Q (F0 m 32 ls []) := by
          intro n
          induction n with
          | zero => intro x6 x7 ls _ h; exact absurd h (Nat.not_lt_zero _)
          | succ n ihI8 =>
            intro x6 x7 ls vc hmI8 hl
            have vc := vcs x6 x7 vc
            refine lv_iload_n hx hb d_Sc_leadsInPlace_32 rfl (lv_at hl 3 rfl) ?_
            refine lv_bipush (v := 31) hx hb d_Sc_leadsInPlace_33 (by decide) ?_
            refine lv_icmp_gt (tgt := 53) hx hb d_Sc_leadsInPlace_35 (by decide) (fun h => ?_) (fun h => ?_)
            · have vc := vc.1 h
              refine lv_iload_n hx hb d_Sc_leadsInPlace_53 rfl (lv_at hl 2 rfl) ?_
              refine lv_aload_n hx hb d_Sc_leadsInPlace_54 rfl (lv_at hl 0 rfl) ?_
              refine lv_iload_n hx hb d_Sc_leadsInPlace_55 rfl (lv_at hl 1 rfl) ?_
              refine lv_bipush (v := 34) hx hb d_Sc_leadsInPlace_56 (by decide) ?_
              obtain ⟨hpre, vc⟩ := vc
              refine pc_V (As := [.int x, .int 34]) (rest := [.int x6]) S (c_Sc_namedBits l D a cI cJ cZ ru le li bn ip aw ns x 34 hpre) wB_blind k_Sc_namedBits i_Sc_namedBits e_Sc_namedBits o_Sc ml_Sc_70 hd_Sc_namedBits (Nat.le_trans (by decide) hRf) (Nat.le_trans (by decide) hRl) hRc (va_recv hK hP (q0 := 0) (ci := 3) rfl rfl) (wB_at hP hK) hl.1 rfl (Nat.le_of_ble_eq_true rfl) d_Sc_leadsInPlace_58 ?_
              refine lv_ior hx hb d_Sc_leadsInPlace_61 ?_
              exact hret _ ls _ d_Sc_leadsInPlace_62 vc
            · have vc := vc.2 h
              refine lv_iload_n hx hb d_Sc_leadsInPlace_38 rfl (lv_at hl 2 rfl) ?_
              refine lv_aload_n hx hb d_Sc_leadsInPlace_39 rfl (lv_at hl 0 rfl) ?_
              refine lv_iload_n hx hb d_Sc_leadsInPlace_40 rfl (lv_at hl 1 rfl) ?_
              refine lv_iload_n hx hb d_Sc_leadsInPlace_41 rfl (lv_at hl 3 rfl) ?_
              obtain ⟨hpre, vc⟩ := vc
              refine pc_V (As := [.int x, .int x7]) (rest := [.int x6]) S (c_Sc_listedBits l D a cI cJ cZ ru le li bn ip aw ns x x7 hpre) wB_blind k_Sc_listedBits i_Sc_listedBits e_Sc_listedBits o_Sc ml_Sc_67 hd_Sc_listedBits (Nat.le_trans (by decide) hRf) (Nat.le_trans (by decide) hRl) hRc (va_recv hK hP (q0 := 0) (ci := 3) rfl rfl) (wB_at hP hK) hl.1 rfl (Nat.le_of_ble_eq_true rfl) d_Sc_leadsInPlace_42 ?_
              refine lv_ior hx hb d_Sc_leadsInPlace_45 ?_
              refine lv_istore_n hx hb d_Sc_leadsInPlace_46 rfl hl (by decide) (lv' := [(2, .int (x6 ||| (sLB le li x.toNatClampNeg (x7.toNatClampNeg - 29)))), (0, .ref (a 12)), (1, .int x), (3, .int x7)]) rfl (fun ls hl => ?_)
              refine lv_iinc (k := 3) (v := x7 + 1) hx hb d_Sc_leadsInPlace_47 hl rfl rfl (by decide) (lv' := [(3, .int (x7 + 1)), (2, .int (x6 ||| (sLB le li x.toNatClampNeg (x7.toNatClampNeg - 29)))), (0, .ref (a 12)), (1, .int x)]) rfl (fun ls hl => ?_)
              refine lv_goto (tgt := 32) hx hb d_Sc_leadsInPlace_50 (by decide) ?_
              exact ihI8 (x6 ||| (sLB le li x.toNatClampNeg (x7.toNatClampNeg - 29))) (x7 + 1) ls vc.1 (Nat.lt_of_lt_of_le vc.2 (Nat.le_of_lt_succ hmI8)) (lv_sub hl [2, 3, 1, 0] rfl)
        exact lI8 _ x2 29 ls vc0 (Nat.lt_succ_self _) (lv_sub hl [1, 2, 3, 0] rfl)
      · have vc := vc.2 h
        refine lv_iload_n hx hb d_Sc_leadsInPlace_11 rfl (lv_at hl 2 rfl) ?_
        refine lv_aload_n hx hb d_Sc_leadsInPlace_12 rfl (lv_at hl 0 rfl) ?_
        refine lv_iload_n hx hb d_Sc_leadsInPlace_13 rfl (lv_at hl 1 rfl) ?_
        refine lv_iload_n hx hb d_Sc_leadsInPlace_14 rfl (lv_at hl 3 rfl) ?_
        obtain ⟨hpre, vc⟩ := vc
        refine pc_V (As := [.int x, .int x3]) (rest := [.int x2]) S (c_Sc_ruleOf l D a cI cJ cZ ru le li bn ip aw ns x x3 hpre) wB_blind k_Sc_ruleOf i_Sc_ruleOf e_Sc_ruleOf o_Sc ml_Sc_61 hd_Sc_ruleOf (Nat.le_trans (by decide) hRf) (Nat.le_trans (by decide) hRl) hRc (va_recv hK hP (q0 := 0) (ci := 3) rfl rfl) (wB_at hP hK) hl.1 rfl (Nat.le_of_ble_eq_true rfl) d_Sc_leadsInPlace_15 ?_
        refine pc_S (As := [.int (ru (x * 29 + x3 : Int32).toNatClampNeg)]) (rest := [.int x2]) S (c_Sc_bitOf l (ru (x * 29 + x3 : Int32).toNatClampNeg)) wT_blind k_Sc_bitOf s_Sc_bitOf o_Sc ml_Sc_64 hd_Sc_bitOf (Nat.le_trans (by decide) hRf) (Nat.le_trans (by decide) hRl) hRc (fun _ _ _ => trivial) hl.1 rfl (Nat.le_of_ble_eq_true rfl) d_Sc_leadsInPlace_18 ?_
        refine lv_ior hx hb d_Sc_leadsInPlace_21 ?_
        refine lv_istore_n hx hb d_Sc_leadsInPlace_22 rfl hl (by decide) (lv' := [(2, .int (x2 ||| (sBitOf (ru (x * 29 + x3 : Int32).toNatClampNeg)))), (0, .ref (a 12)), (1, .int x), (3, .int x3)]) rfl (fun ls hl => ?_)
        refine lv_iinc (k := 3) (v := x3 + 1) hx hb d_Sc_leadsInPlace_23 hl rfl rfl (by decide) (lv' := [(3, .int (x3 + 1)), (2, .int (x2 ||| (sBitOf (ru (x * 29 + x3 : Int32).toNatClampNeg)))), (0, .ref (a 12)), (1, .int x)]) rfl (fun ls hl => ?_)
        refine lv_goto (tgt := 5) hx hb d_Sc_leadsInPlace_26 (by decide) ?_
        exact ihI4 (x2 ||| (sBitOf (ru (x * 29 + x3 : Int32).toNatClampNeg))) (x3 + 1) ls vc.1 (Nat.lt_of_lt_of_le vc.2 (Nat.le_of_lt_succ hmI4)) (lv_sub hl [2, 3, 1, 0] rfl)
  exact lI4 _ 0 17 ls vc0 (Nat.lt_succ_self _) (lv_sub hl [2, 3, 1, 0] rfl)
theorem h_Sc_leadsInPlace (l : Launch) (D : va_G) (a : Nat → Nat) (cI cJ cZ : ClassId) (ru : Nat → Int32) (le : Nat → Int32) (li : Nat → Int32) (bn : Nat → Int32) (ip : Nat → Int32) (aw : Nat → Int32) (ns : Int32) (x : Int32) (r : Int32) (vc : V_Sc_leadsInPlace ru le li bn ip aw ns x (fun v => v = r)) : Pm l y_Sc_leadsInPlace b_Sc_leadsInPlace 4 (some .int) 3 69 [.ref (a 12), .int x] (wB D (tyA cI cJ cZ) (wS a cI ru le li bn ip aw ns)) (.int r) :=
  pm_i (by decide) rfl (Nat.le_of_ble_eq_true rfl) (fun p e s m below meth c ls Q S hB hl hret => g_Sc_leadsInPlace S (Nat.le_refl _) (Nat.le_refl _) ⟨Nat.le_refl _, Nat.le_refl _⟩ D a cI cJ cZ ru le li bn ip aw ns x hB.2 hB.1 hl vc hret)
theorem c_Sc_leadsInPlace (l : Launch) (D : va_G) (a : Nat → Nat) (cI cJ cZ : ClassId) (ru : Nat → Int32) (le : Nat → Int32) (li : Nat → Int32) (bn : Nat → Int32) (ip : Nat → Int32) (aw : Nat → Int32) (ns : Int32) (x : Int32) (hpre : (∃ s : Nat, s < 24 ∧ x = nI s ∧ LeOK le)) : Pm l y_Sc_leadsInPlace b_Sc_leadsInPlace 4 (some .int) 3 69 [.ref (a 12), .int x] (wB D (tyA cI cJ cZ) (wS a cI ru le li bn ip aw ns)) (.int (sLIP ru le li bn x.toNatClampNeg)) := h_Sc_leadsInPlace l D a cI cJ cZ ru le li bn ip aw ns x _ (by
  unfold V_Sc_leadsInPlace
  obtain ⟨q, hq, rfl, hle⟩ := hpre
  have hc : (nI q).toNatClampNeg = q := nI_clamp (by omega)
  rw [hc]
  refine ⟨fun z i => ∃ j, j ≤ 5 ∧ i = nI (17 + j) ∧ z = orN (fun k => sBitOf (ru (q * 29 + (17 + k)))) j, fun _ i => 22 - i.toInt.toNat, ⟨0, Nat.zero_le _, rfl, rfl⟩, ?_⟩
  rintro z i ⟨j, hj, rfl, rfl⟩
  refine ⟨fun h => ?_, fun h => ?_⟩
  · obtain rfl : j = 5 := by have := (nI_ltL (n := 21) (by decide) (by omega)).mp h; have e : (OfNat.ofNat 21 : Nat) = 21 := rfl; omega
    refine ⟨fun z i => ∃ j, j ≤ 3 ∧ i = nI (29 + j) ∧ z = orN (fun k => sBitOf (ru (q * 29 + (17 + k)))) 5 ||| orN (fun k => sLB le li q k) j, fun _ i => 32 - i.toInt.toNat, ⟨0, Nat.zero_le _, rfl, (or0 _).symm⟩, ?_⟩
    rintro z i ⟨j, hj, rfl, rfl⟩
    refine ⟨fun h => ?_, fun h => ?_⟩
    · obtain rfl : j = 3 := by have := (nI_ltL (n := 31) (by decide) (by omega)).mp h; have e : (OfNat.ofNat 31 : Nat) = 31 := rfl; omega
      refine ⟨⟨q, 1, hq, by decide, rfl, rfl⟩, ?_⟩
      rw [show ((34 : Int32).toNatClampNeg - 33) = 1 from rfl]; rfl
    · have hj2 : j < 3 := by
        rcases Nat.lt_or_ge j 3 with w | w
        · exact w
        · exact absurd ((nI_ltL (n := 31) (by decide) (by omega)).mpr (by have e : (OfNat.ofNat 31 : Nat) = 31 := rfl; omega)) h
      refine ⟨⟨q, j, hq, by omega, rfl, rfl, hle⟩, ⟨j + 1, hj2, nI_1 _, ?_⟩, fill_mu (N := 32) (k := 29 + j) (by omega) (by decide)⟩
      rw [nI_clamp (n := 29 + j) (by omega), Nat.add_sub_cancel_left, or_as]; rfl
  · have hj2 : j < 5 := by
      rcases Nat.lt_or_ge j 5 with w | w
      · exact w
      · exact absurd ((nI_ltL (n := 21) (by decide) (by omega)).mpr (by have e : (OfNat.ofNat 21 : Nat) = 21 := rfl; omega)) h
    rw [ix29, nI_clamp (by omega)]
    exact ⟨vp_in_nI (by omega) (by decide), ⟨j + 1, hj2, nI_1 _, rfl⟩, fill_mu (N := 22) (k := 17 + j) (by omega) (by decide)⟩)
theorem hd_Sc_leadsInPlace : y_Sc_leadsInPlace.cls ≠ "java/lang/invoke/MethodHandle" ∧ y_Sc_leadsInPlace.cls ≠ "java/lang/invoke/VarHandle" ∧ (parseMethodDescriptor y_Sc_leadsInPlace.desc).map (fun d => d.parameters.length) = some 1 := ⟨by decide, by decide, by decide +kernel⟩
def V_Sc_leadsElsewhere (ru : Nat → Int32) (le : Nat → Int32) (li : Nat → Int32) (bn : Nat → Int32) (ip : Nat → Int32) (aw : Nat → Int32) (ns : Int32) (x : Int32) (post : Int32 → Prop) : Prop :=
  ((∃ s k : Nat, s < 24 ∧ k < 4 ∧ x = nI s ∧ 32 = nI (29 + k) ∧ LeOK le) ∧ ((∃ s k : Nat, s < 24 ∧ k < 3 ∧ x = nI s ∧ 33 = nI (33 + k)) ∧ (vp_in (x * 29 + 22) 696 ∧ (vp_in (x * 29 + 23) 696 ∧ (∀ z1 : Int32, z1 = ((sLB le li x.toNatClampNeg ((32 : Int32).toNatClampNeg - 29)) ||| (sNB bn x.toNatClampNeg ((33 : Int32).toNatClampNeg - 33))) ||| ((sBitOf (ru (x * 29 + 22 : Int32).toNatClampNeg)) ||| (sBitOf (ru (x * 29 + 23 : Int32).toNatClampNeg))) → (∃ (I5 : Int32 → Int32 → Prop) (mI5 : Int32 → Int32 → Nat), I5 z1 26 ∧ (∀ (x3 : Int32) (x4 : Int32), I5 x3 x4 → ((28 < x4 → post x3) ∧ (¬ 28 < x4 → (vp_in (x * 29 + x4) 696 ∧ (I5 (x3 ||| (sBitOf (ru (x * 29 + x4 : Int32).toNatClampNeg))) (x4 + 1) ∧ mI5 (x3 ||| (sBitOf (ru (x * 29 + x4 : Int32).toNatClampNeg))) (x4 + 1) < mI5 x3 x4)))))))))))
set_option maxHeartbeats 4000000 in
set_option maxRecDepth 100000 in
theorem g_Sc_leadsElsewhere {p : Program} {l : Launch} {e : Env} {R : Room} {s : State} {m : MethodId} {args : Array Value} {below : List Frame} {meth : Method} {c : Code} {H : Heap} {locs : List Loc} {cells slots : Nat} {Q : State → Prop} {ls : Array Slot} (S : CallFix p m c b_Sc_leadsElsewhere 4 s args W0 R_Sc) (hRf : 3 ≤ R.frames) (hRl : 69 ≤ R.locals) (hRc : cells ≤ R.cells ∧ slots ≤ R.slots) (D : va_G) (a : Nat → Nat) (cI cJ cZ : ClassId) (ru : Nat → Int32) (le : Nat → Int32) (li : Nat → Int32) (bn : Nat → Int32) (ip : Nat → Int32) (aw : Nat → Int32) (ns : Int32) (x : Int32) (hK : va_K D vwCl (tyA cI cJ cZ) s) (hP : va_P D vwCl (wS a cI ru le li bn ip aw ns) H) (hl : lv_has ls 4 [(0, .ref (a 12)), (1, .int x)]) {post : Int32 → Prop} (vc : V_Sc_leadsElsewhere ru le li bn ip aw ns x post)
    (hret : ∀ (v : Int32) (ls : Array Slot) (pc : Nat), decode b_Sc_leadsElsewhere pc = .ok (.ireturn, 1) → post v → W p l e R s m args below meth c H locs cells slots Q (F0 m pc ls [.int v])) : W p l e R s m args below meth c H locs cells slots Q (F0 m 0 ls []) := by
  have hx := S.1
  have hb := S.2.1
  have hown := S.2.2.2.1
  have hts := S.2.2.2.2
  unfold V_Sc_leadsElsewhere at vc
  refine lv_aload_n hx hb d_Sc_leadsElsewhere_0 rfl (lv_at hl 0 rfl) ?_
  refine lv_iload_n hx hb d_Sc_leadsElsewhere_1 rfl (lv_at hl 1 rfl) ?_
  refine lv_bipush (v := 32) hx hb d_Sc_leadsElsewhere_2 (by decide) ?_
  obtain ⟨hpre, vc⟩ := vc
  refine pc_V (As := [.int x, .int 32]) (rest := []) S (c_Sc_listedBits l D a cI cJ cZ ru le li bn ip aw ns x 32 hpre) wB_blind k_Sc_listedBits i_Sc_listedBits e_Sc_listedBits o_Sc ml_Sc_67 hd_Sc_listedBits (Nat.le_trans (by decide) hRf) (Nat.le_trans (by decide) hRl) hRc (va_recv hK hP (q0 := 0) (ci := 3) rfl rfl) (wB_at hP hK) hl.1 rfl (Nat.le_of_ble_eq_true rfl) d_Sc_leadsElsewhere_4 ?_
  refine lv_aload_n hx hb d_Sc_leadsElsewhere_7 rfl (lv_at hl 0 rfl) ?_
  refine lv_iload_n hx hb d_Sc_leadsElsewhere_8 rfl (lv_at hl 1 rfl) ?_
  refine lv_bipush (v := 33) hx hb d_Sc_leadsElsewhere_9 (by decide) ?_
  obtain ⟨hpre, vc⟩ := vc
  refine pc_V (As := [.int x, .int 33]) (rest := [.int (sLB le li x.toNatClampNeg ((32 : Int32).toNatClampNeg - 29))]) S (c_Sc_namedBits l D a cI cJ cZ ru le li bn ip aw ns x 33 hpre) wB_blind k_Sc_namedBits i_Sc_namedBits e_Sc_namedBits o_Sc ml_Sc_70 hd_Sc_namedBits (Nat.le_trans (by decide) hRf) (Nat.le_trans (by decide) hRl) hRc (va_recv hK hP (q0 := 0) (ci := 3) rfl rfl) (wB_at hP hK) hl.1 rfl (Nat.le_of_ble_eq_true rfl) d_Sc_leadsElsewhere_11 ?_
  refine lv_ior hx hb d_Sc_leadsElsewhere_14 ?_
  refine lv_istore_n hx hb d_Sc_leadsElsewhere_15 rfl hl (by decide) (lv' := [(2, .int ((sLB le li x.toNatClampNeg ((32 : Int32).toNatClampNeg - 29)) ||| (sNB bn x.toNatClampNeg ((33 : Int32).toNatClampNeg - 33)))), (0, .ref (a 12)), (1, .int x)]) rfl (fun ls hl => ?_)
  refine lv_iload_n hx hb d_Sc_leadsElsewhere_16 rfl (lv_at hl 0 rfl) ?_
  refine lv_aload_n hx hb d_Sc_leadsElsewhere_17 rfl (lv_at hl 1 rfl) ?_
  refine lv_iload_n hx hb d_Sc_leadsElsewhere_18 rfl (lv_at hl 2 rfl) ?_
  refine lv_bipush (v := 22) hx hb d_Sc_leadsElsewhere_19 (by decide) ?_
  obtain ⟨hpre, vc⟩ := vc
  refine pc_V (As := [.int x, .int 22]) (rest := [.int ((sLB le li x.toNatClampNeg ((32 : Int32).toNatClampNeg - 29)) ||| (sNB bn x.toNatClampNeg ((33 : Int32).toNatClampNeg - 33)))]) S (c_Sc_ruleOf l D a cI cJ cZ ru le li bn ip aw ns x 22 hpre) wB_blind k_Sc_ruleOf i_Sc_ruleOf e_Sc_ruleOf o_Sc ml_Sc_61 hd_Sc_ruleOf (Nat.le_trans (by decide) hRf) (Nat.le_trans (by decide) hRl) hRc (va_recv hK hP (q0 := 0) (ci := 3) rfl rfl) (wB_at hP hK) hl.1 rfl (Nat.le_of_ble_eq_true rfl) d_Sc_leadsElsewhere_21 ?_
  refine pc_S (As := [.int (ru (x * 29 + 22 : Int32).toNatClampNeg)]) (rest := [.int ((sLB le li x.toNatClampNeg ((32 : Int32).toNatClampNeg - 29)) ||| (sNB bn x.toNatClampNeg ((33 : Int32).toNatClampNeg - 33)))]) S (c_Sc_bitOf l (ru (x * 29 + 22 : Int32).toNatClampNeg)) wT_blind k_Sc_bitOf s_Sc_bitOf o_Sc ml_Sc_64 hd_Sc_bitOf (Nat.le_trans (by decide) hRf) (Nat.le_trans (by decide) hRl) hRc (fun _ _ _ => trivial) hl.1 rfl (Nat.le_of_ble_eq_true rfl) d_Sc_leadsElsewhere_24 ?_
  refine lv_aload_n hx hb d_Sc_leadsElsewhere_27 rfl (lv_at hl 1 rfl) ?_
  refine lv_iload_n hx hb d_Sc_leadsElsewhere_28 rfl (lv_at hl 2 rfl) ?_
  refine lv_bipush (v := 23) hx hb d_Sc_leadsElsewhere_29 (by decide) ?_
  obtain ⟨hpre, vc⟩ := vc
  refine pc_V (As := [.int x, .int 23]) (rest := [.int (sBitOf (ru (x * 29 + 22 : Int32).toNatClampNeg)), .int ((sLB le li x.toNatClampNeg ((32 : Int32).toNatClampNeg - 29)) ||| (sNB bn x.toNatClampNeg ((33 : Int32).toNatClampNeg - 33)))]) S (c_Sc_ruleOf l D a cI cJ cZ ru le li bn ip aw ns x 23 hpre) wB_blind k_Sc_ruleOf i_Sc_ruleOf e_Sc_ruleOf o_Sc ml_Sc_61 hd_Sc_ruleOf (Nat.le_trans (by decide) hRf) (Nat.le_trans (by decide) hRl) hRc (va_recv hK hP (q0 := 0) (ci := 3) rfl rfl) (wB_at hP hK) hl.1 rfl (Nat.le_of_ble_eq_true rfl) d_Sc_leadsElsewhere_31 ?_
  refine pc_S (As := [.int (ru (x * 29 + 23 : Int32).toNatClampNeg)]) (rest := [.int (sBitOf (ru (x * 29 + 22 : Int32).toNatClampNeg)), .int ((sLB le li x.toNatClampNeg ((32 : Int32).toNatClampNeg - 29)) ||| (sNB bn x.toNatClampNeg ((33 : Int32).toNatClampNeg - 33)))]) S (c_Sc_bitOf l (ru (x * 29 + 23 : Int32).toNatClampNeg)) wT_blind k_Sc_bitOf s_Sc_bitOf o_Sc ml_Sc_64 hd_Sc_bitOf (Nat.le_trans (by decide) hRf) (Nat.le_trans (by decide) hRl) hRc (fun _ _ _ => trivial) hl.1 rfl (Nat.le_of_ble_eq_true rfl) d_Sc_leadsElsewhere_34 ?_
  refine lv_ior hx hb d_Sc_leadsElsewhere_37 ?_
  refine lv_ior hx hb d_Sc_leadsElsewhere_38 ?_
  refine lv_topi (fun z1 ez1 => ?_)
  have vc := vc z1 ez1
  refine lv_istore_n hx hb d_Sc_leadsElsewhere_39 rfl hl (by decide) (lv' := [(2, .int z1), (0, .ref (a 12)), (1, .int x)]) rfl (fun ls hl => ?_)
  refine lv_bipush (v := 26) hx hb d_Sc_leadsElsewhere_40 (by decide) ?_
  refine lv_istore_n hx hb d_Sc_leadsElsewhere_42 rfl hl (by decide) (lv' := [(3, .int 26), (2, .int z1), (0, .ref (a 12)), (1, .int x)]) rfl (fun ls hl => ?_)
  obtain ⟨I5, mI5, vc0, vcs⟩ := vc
  have lI5 : ∀ n : Nat, ∀ (x3 : Int32) (x4 : Int32) (ls : Array Slot), I5 x3 x4 → mI5 x3 x4 < n → lv_has ls 4 [(0, .ref (a 12)), (1, .int x), (2, .int x3), (3, .int x4)] → W p l e R s m args below meth c H locs cells slots Q (F0 m 43 ls []) := by
    intro n
    induction n with
    | zero => intro x3 x4 ls _ h; exact absurd h (Nat.not_lt_zero _)
    | succ n ihI5 =>
      intro x3 x4 ls vc hmI5 hl
      have vc := vcs x3 x4 vc
      refine lv_iload_n hx hb d_Sc_leadsElsewhere_43 rfl (lv_at hl 3 rfl) ?_
      refine lv_bipush (v := 28) hx hb d_Sc_leadsElsewhere_44 (by decide) ?_
      refine lv_icmp_gt (tgt := 67) hx hb d_Sc_leadsElsewhere_46 (by decide) (fun h => ?_) (fun h => ?_)
      · have vc := vc.1 h
        refine lv_iload_n hx hb d_Sc_leadsElsewhere_67 rfl (lv_at hl 2 rfl) ?_
        exact hret _ ls _ d_Sc_leadsElsewhere_68 vc
      · have vc := vc.2 h
        refine lv_iload_n hx hb d_Sc_leadsElsewhere_49 rfl (lv_at hl 2 rfl) ?_
        refine lv_aload_n hx hb d_Sc_leadsElsewhere_50 rfl (lv_at hl 0 rfl) ?_
        refine lv_iload_n hx hb d_Sc_leadsElsewhere_51 rfl (lv_at hl 1 rfl) ?_
        refine lv_iload_n hx hb d_Sc_leadsElsewhere_52 rfl (lv_at hl 3 rfl) ?_
        obtain ⟨hpre, vc⟩ := vc
        refine pc_V (As := [.int x, .int x4]) (rest := [.int x3]) S (c_Sc_ruleOf l D a cI cJ cZ ru le li bn ip aw ns x x4 hpre) wB_blind k_Sc_ruleOf i_Sc_ruleOf e_Sc_ruleOf o_Sc ml_Sc_61 hd_Sc_ruleOf (Nat.le_trans (by decide) hRf) (Nat.le_trans (by decide) hRl) hRc (va_recv hK hP (q0 := 0) (ci := 3) rfl rfl) (wB_at hP hK) hl.1 rfl (Nat.le_of_ble_eq_true rfl) d_Sc_leadsElsewhere_53 ?_
        refine pc_S (As := [.int (ru (x * 29 + x4 : Int32).toNatClampNeg)]) (rest := [.int x3]) S (c_Sc_bitOf l (ru (x * 29 + x4 : Int32).toNatClampNeg)) wT_blind k_Sc_bitOf s_Sc_bitOf o_Sc ml_Sc_64 hd_Sc_bitOf (Nat.le_trans (by decide) hRf) (Nat.le_trans (by decide) hRl) hRc (fun _ _ _ => trivial) hl.1 rfl (Nat.le_of_ble_eq_true rfl) d_Sc_leadsElsewhere_56 ?_
        refine lv_ior hx hb d_Sc_leadsElsewhere_59 ?_
        refine lv_istore_n hx hb d_Sc_leadsElsewhere_60 rfl hl (by decide) (lv' := [(2, .int (x3 ||| (sBitOf (ru (x * 29 + x4 : Int32).toNatClampNeg)))), (0, .ref (a 12)), (1, .int x), (3, .int x4)]) rfl (fun ls hl => ?_)
        refine lv_iinc (k := 3) (v := x4 + 1) hx hb d_Sc_leadsElsewhere_61 hl rfl rfl (by decide) (lv' := [(3, .int (x4 + 1)), (2, .int (x3 ||| (sBitOf (ru (x * 29 + x4 : Int32).toNatClampNeg)))), (0, .ref (a 12)), (1, .int x)]) rfl (fun ls hl => ?_)
        refine lv_goto (tgt := 43) hx hb d_Sc_leadsElsewhere_64 (by decide) ?_
        exact ihI5 (x3 ||| (sBitOf (ru (x * 29 + x4 : Int32).toNatClampNeg))) (x4 + 1) ls vc.1 (Nat.lt_of_lt_of_le vc.2 (Nat.le_of_lt_succ hmI5)) (lv_sub hl [2, 3, 1, 0] rfl)
  exact lI5 _ z1 26 ls vc0 (Nat.lt_succ_self _) (lv_sub hl [2, 3, 1, 0] rfl)
theorem h_Sc_leadsElsewhere (l : Launch) (D : va_G) (a : Nat → Nat) (cI cJ cZ : ClassId) (ru : Nat → Int32) (le : Nat → Int32) (li : Nat → Int32) (bn : Nat → Int32) (ip : Nat → Int32) (aw : Nat → Int32) (ns : Int32) (x : Int32) (r : Int32) (vc : V_Sc_leadsElsewhere ru le li bn ip aw ns x (fun v => v = r)) : Pm l y_Sc_leadsElsewhere b_Sc_leadsElsewhere 4 (some .int) 3 69 [.ref (a 12), .int x] (wB D (tyA cI cJ cZ) (wS a cI ru le li bn ip aw ns)) (.int r) :=
  pm_i (by decide) rfl (Nat.le_of_ble_eq_true rfl) (fun p e s m below meth c ls Q S hB hl hret => g_Sc_leadsElsewhere S (Nat.le_refl _) (Nat.le_refl _) ⟨Nat.le_refl _, Nat.le_refl _⟩ D a cI cJ cZ ru le li bn ip aw ns x hB.2 hB.1 hl vc hret)
theorem c_Sc_leadsElsewhere (l : Launch) (D : va_G) (a : Nat → Nat) (cI cJ cZ : ClassId) (ru : Nat → Int32) (le : Nat → Int32) (li : Nat → Int32) (bn : Nat → Int32) (ip : Nat → Int32) (aw : Nat → Int32) (ns : Int32) (x : Int32) (hpre : (∃ s : Nat, s < 24 ∧ x = nI s ∧ LeOK le)) : Pm l y_Sc_leadsElsewhere b_Sc_leadsElsewhere 4 (some .int) 3 69 [.ref (a 12), .int x] (wB D (tyA cI cJ cZ) (wS a cI ru le li bn ip aw ns)) (.int (sLEW ru le li bn x.toNatClampNeg)) := h_Sc_leadsElsewhere l D a cI cJ cZ ru le li bn ip aw ns x _ (by
  unfold V_Sc_leadsElsewhere
  obtain ⟨q, hq, rfl, hle⟩ := hpre
  have hc : (nI q).toNatClampNeg = q := nI_clamp (by omega)
  have i22 : nI q * 29 + 22 = nI (q * 29 + 22) := by rw [nI_mulR, nI_addR]
  have i23 : nI q * 29 + 23 = nI (q * 29 + 23) := by rw [nI_mulR, nI_addR]
  rw [hc, i22, i23, nI_clamp (by omega), nI_clamp (by omega), show ((32 : Int32).toNatClampNeg - 29) = 3 from rfl, show ((33 : Int32).toNatClampNeg - 33) = 0 from rfl]
  refine ⟨⟨q, 3, hq, by decide, rfl, rfl, hle⟩, ⟨q, 0, hq, by decide, rfl, rfl⟩, vp_in_nI (by omega) (by decide), vp_in_nI (by omega) (by decide), ?_⟩
  intro X0 hX
  have hf : sLEW ru le li bn q = X0 ||| orN (fun k => sBitOf (ru (q * 29 + (26 + k)))) 3 := by unfold sLEW; rw [hX]
  rw [hf]
  refine ⟨fun z i => ∃ j, j ≤ 3 ∧ i = nI (26 + j) ∧ z = X0 ||| orN (fun k => sBitOf (ru (q * 29 + (26 + k)))) j, fun _ i => 29 - i.toInt.toNat, ⟨0, Nat.zero_le _, rfl, (or0 _).symm⟩, ?_⟩
  rintro z i ⟨j, hj, rfl, rfl⟩
  refine ⟨fun h => ?_, fun h => ?_⟩
  · obtain rfl : j = 3 := by have := (nI_ltL (n := 28) (by decide) (by omega)).mp h; have e : (OfNat.ofNat 28 : Nat) = 28 := rfl; omega
    rfl
  · have hj2 : j < 3 := by
      rcases Nat.lt_or_ge j 3 with w | w
      · exact w
      · exact absurd ((nI_ltL (n := 28) (by decide) (by omega)).mpr (by have e : (OfNat.ofNat 28 : Nat) = 28 := rfl; omega)) h
    rw [ix29, nI_clamp (by omega)]
    exact ⟨vp_in_nI (by omega) (by decide), ⟨j + 1, hj2, nI_1 _, by rw [or_as]; rfl⟩, fill_mu (N := 29) (k := 26 + j) (by omega) (by decide)⟩)
theorem hd_Sc_leadsElsewhere : y_Sc_leadsElsewhere.cls ≠ "java/lang/invoke/MethodHandle" ∧ y_Sc_leadsElsewhere.cls ≠ "java/lang/invoke/VarHandle" ∧ (parseMethodDescriptor y_Sc_leadsElsewhere.desc).map (fun d => d.parameters.length) = some 1 := ⟨by decide, by decide, by decide +kernel⟩
