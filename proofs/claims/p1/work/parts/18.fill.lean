def wF (a : Nat → Nat) (cI : ClassId) (N : Nat) (f : Nat → Int32) : va_W := [(a 0, .inl (cI, N, .inl f))]
def wG (a : Nat → Nat) (cJ : ClassId) (N : Nat) (f : Nat → Int64) : va_W := [(a 0, .inl (cJ, N, .inr (.inl f)))]
def V_Ar_fill (f : Nat → Int32) (x : Int32) (N : Nat) (post : (Nat → Int32) → Prop) : Prop :=
  (∃ (I4 : Int32 → (Nat → Int32) → Prop) (mI4 : Int32 → (Nat → Int32) → Nat), I4 0 f ∧ (∀ (x2 : Int32) (f3 : Nat → Int32), I4 x2 f3 → (((Int32.ofNat N) ≤ x2 → post f3) ∧ (¬ (Int32.ofNat N) ≤ x2 → (vp_in x2 N ∧ (I4 (x2 + 1) (upd f3 x2.toNatClampNeg x) ∧ mI4 (x2 + 1) (upd f3 x2.toNatClampNeg x) < mI4 x2 f3))))))
set_option maxHeartbeats 4000000 in
set_option maxRecDepth 100000 in
theorem g_Ar_fill {p : Program} {l : Launch} {e : Env} {R : Room} {s : State} {m : MethodId} {args : Array Value} {below : List Frame} {meth : Method} {c : Code} {H : Heap} {locs : List Loc} {cells slots : Nat} {Q : State → Prop} {ls : Array Slot} {A : Nat → Prop} (S : CallFix p m c b_Ar_fill 4 s args W0 R_Ar) (hRf : 0 ≤ R.frames) (hRl : 0 ≤ R.locals) (hRc : cells ≤ R.cells ∧ slots ≤ R.slots) (D : va_G) (a : Nat → Nat) (cI cJ cZ : ClassId) (f : Nat → Int32) (x : Int32) (N : Nat) (hK : va_K D vwCl (tyA cI cJ cZ) s) (hP : va_P D vwCl (wF a cI N f) H) (hD : va_D A (wF a cI N f)) (hA : ∀ q, s.heap.size ≤ q → A q) (hS : va_S A s.heap H locs) (hl : lv_has ls 4 [(0, .ref (a 0)), (1, .int x)]) {post : (Nat → Int32) → Prop} (vc : V_Ar_fill f x N post)
    (hret : ∀ (f : Nat → Int32) (ls : Array Slot) (pc : Nat) (H : Heap) (locs : List Loc), decode b_Ar_fill pc = .ok (.return_, 1) → post f → va_P D vwCl (wF a cI N f) H → va_D A (wF a cI N f) → va_S A s.heap H locs → W p l e R s m args below meth c H locs cells slots Q (F0 m pc ls [])) : W p l e R s m args below meth c H locs cells slots Q (F0 m 0 ls []) := by
  have hx := S.1
  have hb := S.2.1
  have hown := S.2.2.2.1
  have hts := S.2.2.2.2
  unfold V_Ar_fill at vc
  refine lv_iconst (v := 0) hx hb d_Ar_fill_0 (by decide) ?_
  refine lv_istore_n hx hb d_Ar_fill_1 rfl hl (by decide) (lv' := [(2, .int 0), (0, .ref (a 0)), (1, .int x)]) rfl (fun ls hl => ?_)
  refine lv_aload_n hx hb d_Ar_fill_2 rfl (lv_at hl 1 rfl) ?_
  refine va_alen hx hb hK hP 0 0 rfl rfl rfl d_Ar_fill_3 ?_
  refine lv_istore_n hx hb d_Ar_fill_4 rfl hl (by decide) (lv' := [(3, .int (Int32.ofNat N)), (2, .int 0), (0, .ref (a 0)), (1, .int x)]) rfl (fun ls hl => ?_)
  obtain ⟨I4, mI4, vc0, vcs⟩ := vc
  have lI4 : ∀ n : Nat, ∀ (x2 : Int32) (f3 : Nat → Int32) (ls : Array Slot) (H : Heap) (locs : List Loc), I4 x2 f3 → mI4 x2 f3 < n → lv_has ls 4 [(0, .ref (a 0)), (1, .int x), (2, .int x2), (3, .int (Int32.ofNat N))] → va_P D vwCl (wF a cI N f3) H → va_D A (wF a cI N f3) → va_S A s.heap H locs → W p l e R s m args below meth c H locs cells slots Q (F0 m 5 ls []) := by
    intro n
    induction n with
    | zero => intro x2 f3 ls H locs _ h; exact absurd h (Nat.not_lt_zero _)
    | succ n ihI4 =>
      intro x2 f3 ls H locs vc hmI4 hl hP hD hS
      have vc := vcs x2 f3 vc
      refine lv_iload_n hx hb d_Ar_fill_5 rfl (lv_at hl 2 rfl) ?_
      refine lv_iload_n hx hb d_Ar_fill_6 rfl (lv_at hl 3 rfl) ?_
      refine lv_icmp_ge (tgt := 20) hx hb d_Ar_fill_7 (by decide) (fun h => ?_) (fun h => ?_)
      · have vc := vc.1 h
        exact hret _ ls _ H locs d_Ar_fill_20 vc hP hD hS
      · have vc := vc.2 h
        refine lv_aload_n hx hb d_Ar_fill_10 rfl (lv_at hl 0 rfl) ?_
        refine lv_iload_n hx hb d_Ar_fill_11 rfl (lv_at hl 2 rfl) ?_
        refine lv_iload_n hx hb d_Ar_fill_12 rfl (lv_at hl 1 rfl) ?_
        obtain ⟨vcb, vc⟩ := vc
        refine va_iast hx hb hK hP hD hS 0 0 rfl rfl vcb d_Ar_fill_13 (fun H locs hP hD hS => ?_)
        have hP : va_P D vwCl (wF a cI N (upd f3 x2.toNatClampNeg x)) H := hP
        have hD : va_D A (wF a cI N (upd f3 x2.toNatClampNeg x)) := hD
        refine lv_iinc (k := 2) (v := x2 + 1) hx hb d_Ar_fill_14 hl rfl rfl (by decide) (lv' := [(2, .int (x2 + 1)), (0, .ref (a 0)), (1, .int x), (3, .int (Int32.ofNat N))]) rfl (fun ls hl => ?_)
        refine lv_goto (tgt := 5) hx hb d_Ar_fill_17 (by decide) ?_
        exact ihI4 (x2 + 1) (upd f3 x2.toNatClampNeg x) ls H locs vc.1 (Nat.lt_of_lt_of_le vc.2 (Nat.le_of_lt_succ hmI4)) (lv_sub hl [1, 2, 0, 3] rfl) hP hD hS
  exact lI4 _ 0 f ls H locs vc0 (Nat.lt_succ_self _) (lv_sub hl [2, 3, 1, 0] rfl) hP hD hS
theorem h_Ar_fill (l : Launch) (D : va_G) (a : Nat → Nat) (cI cJ cZ : ClassId) (f : Nat → Int32) (x : Int32) (N : Nat) (f' : Nat → Int32) (vc : V_Ar_fill f x N (fun f => f = f')) : Wm (S := Unit) l y_Ar_fill b_Ar_fill 4 none 0 0 [.ref (a 0), .int x] D (tyA cI cJ cZ) (wF a cI N f) (fun _ => True) (fun _ => none) (fun _ => (wF a cI N f')) :=
  wm_v (by decide) (Nat.le_of_ble_eq_true rfl) (fun p e s m below meth c ls Q A S hK hP hD hA hS hl hret => g_Ar_fill S (Nat.le_refl _) (Nat.le_refl _) ⟨Nat.le_refl _, Nat.le_refl _⟩ D a cI cJ cZ f x N hK hP hD hA hS hl vc (fun f ls pc H locs hd hv hP hD hS => by obtain ⟨rfl⟩ := hv; exact hret () ls pc H locs hd trivial hP hD hS))
theorem c_Ar_fill (l : Launch) (D : va_G) (a : Nat → Nat) (cI cJ cZ : ClassId) (f : Nat → Int32) (x : Int32) (N : Nat) (hpre : N < 2 ^ 30) : Wm (S := Unit) l y_Ar_fill b_Ar_fill 4 none 0 0 [.ref (a 0), .int x] D (tyA cI cJ cZ) (wF a cI N f) (fun _ => True) (fun _ => none) (fun _ => wF a cI N (fillN x N f)) := h_Ar_fill l D a cI cJ cZ f x N _ (by
  unfold V_Ar_fill
  refine ⟨fun i g => ∃ k : Nat, k ≤ N ∧ i = nI k ∧ g = fillN x k f, fun i _ => N - i.toInt.toNat, ⟨0, Nat.zero_le _, rfl, (fillN_0 x f).symm⟩, ?_⟩
  rintro i g ⟨k, hk, rfl, rfl⟩
  have e : (Int32.ofNat N) = nI N := rfl
  rw [e]
  refine ⟨fun h => ?_, fun h => ?_⟩
  · have : N ≤ k := (nI_leI (by omega) (by omega)).mp h
    have : k = N := by omega
    subst this; rfl
  · have hk2 : k < N := by have := mt (nI_leI (a := N) (b := k) (by omega) (by omega)).mpr h; omega
    refine ⟨vp_in_nI hk2 (by omega), ⟨k + 1, hk2, nI_1 k, ?_⟩, ?_⟩
    · rw [nI_clamp (by omega)]; exact fillN_s x k f
    · show N - (nI k + 1).toInt.toNat < N - (nI k).toInt.toNat
      rw [nI_1, nI_toInt (by omega), nI_toInt (by omega)]; omega)
theorem hd_Ar_fill : y_Ar_fill.cls ≠ "java/lang/invoke/MethodHandle" ∧ y_Ar_fill.cls ≠ "java/lang/invoke/VarHandle" ∧ (parseMethodDescriptor y_Ar_fill.desc).map (fun d => d.parameters.length) = some 2 := ⟨by decide, by decide, by decide +kernel⟩
