/-! ===== circles ===== -/
def LdR (n : Nat) (f : Nat → Int32) (t u : Nat) : Prop := t < n ∧ bt (f t) u = true
def LdT (n k : Nat) (g : Nat → Int32) : Prop := ∀ o, o < k → ∀ t, t < n → bt (g t) o = true → ∀ u, bt (g o) u = true → bt (g t) u = true
theorem ld_phase {n k : Nat} {g0 g1 : Nat → Int32} (hk : k < n) (h1 : ∀ t, t < n → ∀ u, bt (g1 t) u = (bt (g0 t) u || (bt (g0 t) k && bt (g0 k) u))) (ht : LdT n k g0) : LdT n (k + 1) g1 := by
  intro o ho t htn h u hu
  rw [h1 t htn, Bool.or_eq_true, Bool.and_eq_true] at h
  rw [h1 t htn, Bool.or_eq_true, Bool.and_eq_true]
  rw [h1 o (by omega), Bool.or_eq_true, Bool.and_eq_true] at hu
  by_cases e : o = k
  · subst e
    rcases h with h | ⟨h, _⟩
    · rcases hu with hu | ⟨_, hu⟩
      · exact Or.inr ⟨h, hu⟩
      · exact Or.inr ⟨h, hu⟩
    · rcases hu with hu | ⟨_, hu⟩
      · exact Or.inr ⟨h, hu⟩
      · exact Or.inr ⟨h, hu⟩
  · have ho : o < k := by omega
    rcases h with h | ⟨h, h2⟩
    · rcases hu with hu | ⟨hu, hu2⟩
      · exact Or.inl (ht o ho t htn h u hu)
      · exact Or.inr ⟨ht o ho t htn h k hu, hu2⟩
    · rcases hu with hu | ⟨hu, hu2⟩
      · exact Or.inr ⟨h, ht o ho k hk h2 u hu⟩
      · exact Or.inr ⟨h, hu2⟩
theorem ld_end {n : Nat} {f g : Nat → Int32} (hs : ∀ t, t < n → ∀ u, bt (g t) u = true → Relation.TransGen (LdR n f) t u) (hi : ∀ t, t < n → ∀ u, bt (f t) u = true → bt (g t) u = true) (ht : LdT n n g) : ∀ t, t < n → ∀ u, bt (g t) u = true ↔ Relation.TransGen (LdR n f) t u := by
  intro t htn u
  refine ⟨hs t htn u, fun h => ?_⟩
  induction h with
  | single h => exact hi t htn _ h.2
  | tail h1 h2 ih => exact ht _ h2.1 t htn ih _ (hi _ h2.1 _ h2.2)
theorem or_self (x : Int32) : x ||| x = x := b_ext (fun i _ => by rw [b_or, Bool.or_self])
def V_Sc_leadOn (ru : Nat → Int32) (le : Nat → Int32) (li : Nat → Int32) (bn : Nat → Int32) (ip : Nat → Int32) (aw : Nat → Int32) (ns : Int32) (post : (Nat → Int32) → (Nat → Int32) → (Nat → Int32) → (Nat → Int32) → (Nat → Int32) → (Nat → Int32) → Int32 → Prop) : Prop :=
  (∃ (I8 : Int32 → (Nat → Int32) → Prop) (mI8 : Int32 → (Nat → Int32) → Nat), I8 0 ip ∧ (∀ (x6 : Int32) (f7 : Nat → Int32), I8 x6 f7 → ((ns ≤ x6 → post ru le li bn f7 aw ns) ∧ (¬ ns ≤ x6 → (∃ (I12 : Int32 → (Nat → Int32) → Prop) (mI12 : Int32 → (Nat → Int32) → Nat), I12 0 f7 ∧ (∀ (x10 : Int32) (f11 : Nat → Int32), I12 x10 f11 → ((ns ≤ x10 → (I8 (x6 + 1) f11 ∧ mI8 (x6 + 1) f11 < mI8 x6 f7)) ∧ (¬ ns ≤ x10 → (vp_in x10 24 ∧ (((((f11 x10.toNatClampNeg) >>> (x6 &&& 31)) &&& 1) = 0 → (I12 (x10 + 1) f11 ∧ mI12 (x10 + 1) f11 < mI12 x10 f11)) ∧ (¬ (((f11 x10.toNatClampNeg) >>> (x6 &&& 31)) &&& 1) = 0 → (vp_in x10 24 ∧ (vp_in x6 24 ∧ (vp_in x10 24 ∧ (I12 (x10 + 1) (upd f11 x10.toNatClampNeg ((f11 x10.toNatClampNeg) ||| (f11 x6.toNatClampNeg))) ∧ mI12 (x10 + 1) (upd f11 x10.toNatClampNeg ((f11 x10.toNatClampNeg) ||| (f11 x6.toNatClampNeg))) < mI12 x10 f11)))))))))))))))
set_option maxHeartbeats 4000000 in
set_option maxRecDepth 100000 in
theorem g_Sc_leadOn {p : Program} {l : Launch} {e : Env} {R : Room} {s : State} {m : MethodId} {args : Array Value} {below : List Frame} {meth : Method} {c : Code} {H : Heap} {locs : List Loc} {cells slots : Nat} {Q : State → Prop} {ls : Array Slot} {A : Nat → Prop} (S : CallFix p m c b_Sc_leadOn 4 s args W0 R_Sc) (hRf : 0 ≤ R.frames) (hRl : 0 ≤ R.locals) (hRc : cells ≤ R.cells ∧ slots ≤ R.slots) (D : va_G) (a : Nat → Nat) (cI cJ cZ : ClassId) (ru : Nat → Int32) (le : Nat → Int32) (li : Nat → Int32) (bn : Nat → Int32) (ip : Nat → Int32) (aw : Nat → Int32) (ns : Int32) (hK : va_K D vwCl (tyA cI cJ cZ) s) (hP : va_P D vwCl (wS a cI ru le li bn ip aw ns) H) (hD : va_D A (wS a cI ru le li bn ip aw ns)) (hA : ∀ q, s.heap.size ≤ q → A q) (hS : va_S A s.heap H locs) (hl : lv_has ls 4 [(0, .ref (a 12)), (1, .ref (a 17))]) {post : (Nat → Int32) → (Nat → Int32) → (Nat → Int32) → (Nat → Int32) → (Nat → Int32) → (Nat → Int32) → Int32 → Prop} (vc : V_Sc_leadOn ru le li bn ip aw ns post)
    (hret : ∀ (ru : Nat → Int32) (le : Nat → Int32) (li : Nat → Int32) (bn : Nat → Int32) (ip : Nat → Int32) (aw : Nat → Int32) (ns : Int32) (ls : Array Slot) (pc : Nat) (H : Heap) (locs : List Loc), decode b_Sc_leadOn pc = .ok (.return_, 1) → post ru le li bn ip aw ns → va_P D vwCl (wS a cI ru le li bn ip aw ns) H → va_D A (wS a cI ru le li bn ip aw ns) → va_S A s.heap H locs → W p l e R s m args below meth c H locs cells slots Q (F0 m pc ls [])) : W p l e R s m args below meth c H locs cells slots Q (F0 m 0 ls []) := by
  have hx := S.1
  have hb := S.2.1
  have hown := S.2.2.2.1
  have hts := S.2.2.2.2
  unfold V_Sc_leadOn at vc
  refine lv_iconst (v := 0) hx hb d_Sc_leadOn_0 (by decide) ?_
  refine lv_istore_n hx hb d_Sc_leadOn_1 rfl hl (by decide) (lv' := [(2, .int 0), (0, .ref (a 12)), (1, .ref (a 17))]) rfl (fun ls hl => ?_)
  obtain ⟨I8, mI8, vc0, vcs⟩ := vc
  have lI8 : ∀ n : Nat, ∀ (x6 : Int32) (f7 : Nat → Int32) (ls : Array Slot) (H : Heap) (locs : List Loc), I8 x6 f7 → mI8 x6 f7 < n → lv_has ls 4 [(0, .ref (a 12)), (1, .ref (a 17)), (2, .int x6)] → va_P D vwCl (wS a cI ru le li bn f7 aw ns) H → va_D A (wS a cI ru le li bn f7 aw ns) → va_S A s.heap H locs → W p l e R s m args below meth c H locs cells slots Q (F0 m 2 ls []) := by
    intro n
    induction n with
    | zero => intro x6 f7 ls H locs _ h; exact absurd h (Nat.not_lt_zero _)
    | succ n ihI8 =>
      intro x6 f7 ls H locs vc hmI8 hl hP hD hS
      have vc := vcs x6 f7 vc
      refine lv_iload_n hx hb d_Sc_leadOn_2 rfl (lv_at hl 2 rfl) ?_
      refine lv_aload_n hx hb d_Sc_leadOn_3 rfl (lv_at hl 0 rfl) ?_
      refine va_get (D := D) (ci := 3) (v := .int ns) (C := R_Sc) (T := F_Sc) (N := 7) hx hb hts in_Sc hown hK hP 0 rfl rfl 6 (by decide) (hts _ fl_Sc_38) (fun _ h => h) rfl d_Sc_leadOn_4 ?_
      refine lv_icmp_ge (tgt := 51) hx hb d_Sc_leadOn_7 (by decide) (fun h => ?_) (fun h => ?_)
      · have vc := vc.1 h
        exact hret _ _ _ _ _ _ _ ls _ H locs d_Sc_leadOn_51 vc hP hD hS
      · have vc := vc.2 h
        refine lv_iconst (v := 0) hx hb d_Sc_leadOn_10 (by decide) ?_
        refine lv_istore_n hx hb d_Sc_leadOn_11 rfl hl (by decide) (lv' := [(3, .int 0), (0, .ref (a 12)), (1, .ref (a 17)), (2, .int x6)]) rfl (fun ls hl => ?_)
        obtain ⟨I12, mI12, vc0, vcs⟩ := vc
        have lI12 : ∀ n : Nat, ∀ (x10 : Int32) (f11 : Nat → Int32) (ls : Array Slot) (H : Heap) (locs : List Loc), I12 x10 f11 → mI12 x10 f11 < n → lv_has ls 4 [(0, .ref (a 12)), (1, .ref (a 17)), (2, .int x6), (3, .int x10)] → va_P D vwCl (wS a cI ru le li bn f11 aw ns) H → va_D A (wS a cI ru le li bn f11 aw ns) → va_S A s.heap H locs → W p l e R s m args below meth c H locs cells slots Q (F0 m 12 ls []) := by
          intro n
          induction n with
          | zero => intro x10 f11 ls H locs _ h; exact absurd h (Nat.not_lt_zero _)
          | succ n ihI12 =>
            intro x10 f11 ls H locs vc hmI12 hl hP hD hS
            have vc := vcs x10 f11 vc
            refine lv_iload_n hx hb d_Sc_leadOn_12 rfl (lv_at hl 3 rfl) ?_
            refine lv_aload_n hx hb d_Sc_leadOn_13 rfl (lv_at hl 0 rfl) ?_
            refine va_get (D := D) (ci := 3) (v := .int ns) (C := R_Sc) (T := F_Sc) (N := 7) hx hb hts in_Sc hown hK hP 0 rfl rfl 6 (by decide) (hts _ fl_Sc_38) (fun _ h => h) rfl d_Sc_leadOn_14 ?_
            refine lv_icmp_ge (tgt := 45) hx hb d_Sc_leadOn_17 (by decide) (fun h => ?_) (fun h => ?_)
            · have vc := vc.1 h
              refine lv_iinc (k := 2) (v := x6 + 1) hx hb d_Sc_leadOn_45 hl rfl rfl (by decide) (lv' := [(2, .int (x6 + 1)), (0, .ref (a 12)), (1, .ref (a 17)), (3, .int x10)]) rfl (fun ls hl => ?_)
              refine lv_goto (tgt := 2) hx hb d_Sc_leadOn_48 (by decide) ?_
              exact ihI8 (x6 + 1) f11 ls H locs vc.1 (Nat.lt_of_lt_of_le vc.2 (Nat.le_of_lt_succ hmI8)) (lv_sub hl [1, 2, 0] rfl) hP hD hS
            · have vc := vc.2 h
              refine lv_aload_n hx hb d_Sc_leadOn_20 rfl (lv_at hl 1 rfl) ?_
              refine lv_iload_n hx hb d_Sc_leadOn_21 rfl (lv_at hl 3 rfl) ?_
              obtain ⟨vcb, vc⟩ := vc
              refine va_iald hx hb hK hP 5 0 rfl rfl vcb d_Sc_leadOn_22 ?_
              refine lv_iload_n hx hb d_Sc_leadOn_23 rfl (lv_at hl 2 rfl) ?_
              refine lv_ishr hx hb d_Sc_leadOn_24 ?_
              refine lv_iconst (v := 1) hx hb d_Sc_leadOn_25 (by decide) ?_
              refine lv_iand hx hb d_Sc_leadOn_26 ?_
              refine lv_if_eq (tgt := 39) hx hb d_Sc_leadOn_27 (by decide) (fun h => ?_) (fun h => ?_)
              · have vc := vc.1 h
                refine lv_iinc (k := 3) (v := x10 + 1) hx hb d_Sc_leadOn_39 hl rfl rfl (by decide) (lv' := [(3, .int (x10 + 1)), (0, .ref (a 12)), (1, .ref (a 17)), (2, .int x6)]) rfl (fun ls hl => ?_)
                refine lv_goto (tgt := 12) hx hb d_Sc_leadOn_42 (by decide) ?_
                exact ihI12 (x10 + 1) f11 ls H locs vc.1 (Nat.lt_of_lt_of_le vc.2 (Nat.le_of_lt_succ hmI12)) (lv_sub hl [1, 2, 3, 0] rfl) hP hD hS
              · have vc := vc.2 h
                refine lv_aload_n hx hb d_Sc_leadOn_30 rfl (lv_at hl 1 rfl) ?_
                refine lv_iload_n hx hb d_Sc_leadOn_31 rfl (lv_at hl 3 rfl) ?_
                refine lv_dup2_11 hx hb d_Sc_leadOn_32 rfl rfl ?_
                obtain ⟨vcb, vc⟩ := vc
                refine va_iald hx hb hK hP 5 0 rfl rfl vcb d_Sc_leadOn_33 ?_
                refine lv_aload_n hx hb d_Sc_leadOn_34 rfl (lv_at hl 1 rfl) ?_
                refine lv_iload_n hx hb d_Sc_leadOn_35 rfl (lv_at hl 2 rfl) ?_
                obtain ⟨vcb, vc⟩ := vc
                refine va_iald hx hb hK hP 5 0 rfl rfl vcb d_Sc_leadOn_36 ?_
                refine lv_ior hx hb d_Sc_leadOn_37 ?_
                obtain ⟨vcb, vc⟩ := vc
                refine va_iast hx hb hK hP hD hS 5 0 rfl rfl vcb d_Sc_leadOn_38 (fun H locs hP hD hS => ?_)
                have hP : va_P D vwCl (wS a cI ru le li bn (upd f11 x10.toNatClampNeg ((f11 x10.toNatClampNeg) ||| (f11 x6.toNatClampNeg))) aw ns) H := hP
                have hD : va_D A (wS a cI ru le li bn (upd f11 x10.toNatClampNeg ((f11 x10.toNatClampNeg) ||| (f11 x6.toNatClampNeg))) aw ns) := hD
                refine lv_iinc (k := 3) (v := x10 + 1) hx hb d_Sc_leadOn_39 hl rfl rfl (by decide) (lv' := [(3, .int (x10 + 1)), (0, .ref (a 12)), (1, .ref (a 17)), (2, .int x6)]) rfl (fun ls hl => ?_)
                refine lv_goto (tgt := 12) hx hb d_Sc_leadOn_42 (by decide) ?_
                exact ihI12 (x10 + 1) (upd f11 x10.toNatClampNeg ((f11 x10.toNatClampNeg) ||| (f11 x6.toNatClampNeg))) ls H locs vc.1 (Nat.lt_of_lt_of_le vc.2 (Nat.le_of_lt_succ hmI12)) (lv_sub hl [1, 2, 3, 0] rfl) hP hD hS
        exact lI12 _ 0 f7 ls H locs vc0 (Nat.lt_succ_self _) (lv_sub hl [1, 2, 3, 0] rfl) hP hD hS
  exact lI8 _ 0 ip ls H locs vc0 (Nat.lt_succ_self _) (lv_sub hl [1, 2, 0] rfl) hP hD hS
set_option maxHeartbeats 4000000 in
theorem v_Sc_leadOn (ru : Nat → Int32) (le : Nat → Int32) (li : Nat → Int32) (bn : Nat → Int32) (ip : Nat → Int32) (aw : Nat → Int32) (ns : Int32) (hpre : (∃ n : Nat, n ≤ 24 ∧ ns = nI n)) : V_Sc_leadOn ru le li bn ip aw ns (fun ru' le' li' bn' ip' aw' ns' => (∀ n : Nat, ns = nI n → n ≤ 24 → ∀ t, t < n → ∀ u, bt (ip' t) u = true ↔ Relation.TransGen (LdR n ip) t u) ∧ ru' = ru ∧ le' = le ∧ li' = li ∧ bn' = bn ∧ aw' = aw ∧ ns' = ns) := by
  unfold V_Sc_leadOn
  obtain ⟨n, hn, rfl⟩ := hpre
  refine ⟨fun x g => ∃ k, k ≤ n ∧ x = nI k ∧ (∀ t, t < n → ∀ u, bt (g t) u = true → Relation.TransGen (LdR n ip) t u) ∧ (∀ t, t < n → ∀ u, bt (ip t) u = true → bt (g t) u = true) ∧ LdT n k g, fun x _ => n - x.toInt.toNat, ⟨0, Nat.zero_le _, rfl, fun t ht u h => .single ⟨ht, h⟩, fun _ _ _ h => h, fun o ho => absurd ho (Nat.not_lt_zero _)⟩, ?_⟩
  rintro x g0 ⟨k, hk, rfl, s0, i0, t0⟩
  refine ⟨fun h => ?_, fun h => ?_⟩
  · obtain rfl := (fill_end (N := n) h (by omega) hk).symm
    refine ⟨fun n2 e hn2 => ?_, rfl, rfl, rfl, rfl, rfl, rfl⟩
    rw [nI_eq (by omega) (by omega)] at e
    subst e; exact ld_end s0 i0 t0
  · have hk2 := fill_step (N := n) h (by omega) hk
    refine ⟨fun x g => ∃ j, j ≤ n ∧ x = nI j ∧ ∀ t, t < n → g t = if t < j ∧ bt (g0 t) k = true then g0 t ||| g0 k else g0 t, fun x _ => n - x.toInt.toNat, ⟨0, Nat.zero_le _, rfl, fun t _ => (if_neg (fun q => absurd q.1 (Nat.not_lt_zero _))).symm⟩, ?_⟩
    rintro x g ⟨j, hj, rfl, hg⟩
    refine ⟨fun h2 => ?_, fun h2 => ?_⟩
    · obtain rfl := (fill_end (N := n) h2 (by omega) hj).symm
      have hb : ∀ t, t < n → ∀ u, bt (g t) u = (bt (g0 t) u || (bt (g0 t) k && bt (g0 k) u)) := fun t ht u => by
        rw [hg t ht]
        cases e : bt (g0 t) k
        · rw [if_neg (by simp)]; simp
        · rw [if_pos ⟨ht, rfl⟩, b_or]; simp
      refine ⟨⟨k + 1, hk2, nI_1 k, fun t ht u h3 => ?_, fun t ht u h3 => ?_, ld_phase hk2 hb t0⟩, fill_mu hk2 (by omega)⟩
      · rw [hb t ht, Bool.or_eq_true, Bool.and_eq_true] at h3
        rcases h3 with h3 | ⟨h3, h4⟩
        · exact s0 t ht u h3
        · exact (s0 t ht k h3).trans (s0 k hk2 u h4)
      · rw [hb t ht, i0 t ht u h3]; rfl
    · have hj2 := fill_step (N := n) h2 (by omega) hj
      have e1 : g j = g0 j := by rw [hg j hj2, if_neg (fun q => absurd q.1 (Nat.lt_irrefl _))]
      have e2 : g k = g0 k := by
        rw [hg k hk2]
        by_cases q : k < j ∧ bt (g0 k) k = true
        · rw [if_pos q, or_self]
        · rw [if_neg q]
      have v1 : vp_in (nI j) 24 := vp_in_nI (by omega) (by decide)
      have v2 : vp_in (nI k) 24 := vp_in_nI (by omega) (by decide)
      rw [nI_clamp (n := j) (by omega), nI_clamp (n := k) (by omega), e1, e2, b_and1 _ (by omega)]
      refine ⟨v1, fun h3 => ⟨⟨j + 1, hj2, nI_1 j, fun t ht => ?_⟩, fill_mu hj2 (by omega)⟩, fun h3 => ⟨v1, v2, v1, ⟨j + 1, hj2, nI_1 j, fun t ht => ?_⟩, fill_mu hj2 (by omega)⟩⟩
      · by_cases e : t = j
        · subst e
          rw [e1, if_neg (fun q => by rw [bI0.mp h3] at q; cases q.2)]
        · rw [hg t ht]
          by_cases q : t < j ∧ bt (g0 t) k = true
          · rw [if_pos q, if_pos ⟨by omega, q.2⟩]
          · rw [if_neg q, if_neg (fun q2 => q ⟨by omega, q2.2⟩)]
      · by_cases e : t = j
        · subst e
          rw [upd_at, if_pos ⟨Nat.lt_succ_self _, bI_ne.mp h3⟩]
        · rw [upd_ne e, hg t ht]
          by_cases q : t < j ∧ bt (g0 t) k = true
          · rw [if_pos q, if_pos ⟨by omega, q.2⟩]
          · rw [if_neg q, if_neg (fun q2 => q ⟨by omega, q2.2⟩)]
theorem c_Sc_leadOn (l : Launch) (D : va_G) (a : Nat → Nat) (cI cJ cZ : ClassId) (ru : Nat → Int32) (le : Nat → Int32) (li : Nat → Int32) (bn : Nat → Int32) (ip : Nat → Int32) (aw : Nat → Int32) (ns : Int32) (hpre : (∃ n : Nat, n ≤ 24 ∧ ns = nI n)) : Wm (S := (Nat → Int32)) l y_Sc_leadOn b_Sc_leadOn 4 none 0 0 [.ref (a 12), .ref (a 17)] D (tyA cI cJ cZ) (wS a cI ru le li bn ip aw ns) (fun uu => ∀ n : Nat, ns = nI n → n ≤ 24 → ∀ t, t < n → ∀ u, bt (uu t) u = true ↔ Relation.TransGen (LdR n ip) t u) (fun uu => none) (fun uu => (wS a cI ru le li bn uu aw ns)) :=
  wm_v (by decide) (Nat.le_of_ble_eq_true rfl) (fun p e s m below meth c ls Q A S hK hP hD hA hS hl hret => g_Sc_leadOn S (Nat.le_refl _) (Nat.le_refl _) ⟨Nat.le_refl _, Nat.le_refl _⟩ D a cI cJ cZ ru le li bn ip aw ns hK hP hD hA hS hl (v_Sc_leadOn ru le li bn ip aw ns hpre) (fun ru' le' li' bn' ip' aw' ns' ls1 pc H1 locs1 hd hv hP1 hD1 hS1 => by obtain ⟨hp, rfl, rfl, rfl, rfl, rfl, rfl⟩ := hv; exact hret ip' ls1 pc H1 locs1 hd hp hP1 hD1 hS1))
theorem hd_Sc_leadOn : y_Sc_leadOn.cls ≠ "java/lang/invoke/MethodHandle" ∧ y_Sc_leadOn.cls ≠ "java/lang/invoke/VarHandle" ∧ (parseMethodDescriptor y_Sc_leadOn.desc).map (fun d => d.parameters.length) = some 1 := ⟨by decide, by decide, by decide +kernel⟩
def V_Sc_leadOn2 (ru : Nat → Int32) (le : Nat → Int32) (li : Nat → Int32) (bn : Nat → Int32) (ip : Nat → Int32) (aw : Nat → Int32) (ns : Int32) (post : (Nat → Int32) → (Nat → Int32) → (Nat → Int32) → (Nat → Int32) → (Nat → Int32) → (Nat → Int32) → Int32 → Prop) : Prop :=
  (∃ (I8 : Int32 → (Nat → Int32) → Prop) (mI8 : Int32 → (Nat → Int32) → Nat), I8 0 aw ∧ (∀ (x6 : Int32) (f7 : Nat → Int32), I8 x6 f7 → ((ns ≤ x6 → post ru le li bn ip f7 ns) ∧ (¬ ns ≤ x6 → (∃ (I12 : Int32 → (Nat → Int32) → Prop) (mI12 : Int32 → (Nat → Int32) → Nat), I12 0 f7 ∧ (∀ (x10 : Int32) (f11 : Nat → Int32), I12 x10 f11 → ((ns ≤ x10 → (I8 (x6 + 1) f11 ∧ mI8 (x6 + 1) f11 < mI8 x6 f7)) ∧ (¬ ns ≤ x10 → (vp_in x10 24 ∧ (((((f11 x10.toNatClampNeg) >>> (x6 &&& 31)) &&& 1) = 0 → (I12 (x10 + 1) f11 ∧ mI12 (x10 + 1) f11 < mI12 x10 f11)) ∧ (¬ (((f11 x10.toNatClampNeg) >>> (x6 &&& 31)) &&& 1) = 0 → (vp_in x10 24 ∧ (vp_in x6 24 ∧ (vp_in x10 24 ∧ (I12 (x10 + 1) (upd f11 x10.toNatClampNeg ((f11 x10.toNatClampNeg) ||| (f11 x6.toNatClampNeg))) ∧ mI12 (x10 + 1) (upd f11 x10.toNatClampNeg ((f11 x10.toNatClampNeg) ||| (f11 x6.toNatClampNeg))) < mI12 x10 f11)))))))))))))))
set_option maxHeartbeats 4000000 in
set_option maxRecDepth 100000 in
theorem g_Sc_leadOn2 {p : Program} {l : Launch} {e : Env} {R : Room} {s : State} {m : MethodId} {args : Array Value} {below : List Frame} {meth : Method} {c : Code} {H : Heap} {locs : List Loc} {cells slots : Nat} {Q : State → Prop} {ls : Array Slot} {A : Nat → Prop} (S : CallFix p m c b_Sc_leadOn 4 s args W0 R_Sc) (hRf : 0 ≤ R.frames) (hRl : 0 ≤ R.locals) (hRc : cells ≤ R.cells ∧ slots ≤ R.slots) (D : va_G) (a : Nat → Nat) (cI cJ cZ : ClassId) (ru : Nat → Int32) (le : Nat → Int32) (li : Nat → Int32) (bn : Nat → Int32) (ip : Nat → Int32) (aw : Nat → Int32) (ns : Int32) (hK : va_K D vwCl (tyA cI cJ cZ) s) (hP : va_P D vwCl (wS a cI ru le li bn ip aw ns) H) (hD : va_D A (wS a cI ru le li bn ip aw ns)) (hA : ∀ q, s.heap.size ≤ q → A q) (hS : va_S A s.heap H locs) (hl : lv_has ls 4 [(0, .ref (a 12)), (1, .ref (a 18))]) {post : (Nat → Int32) → (Nat → Int32) → (Nat → Int32) → (Nat → Int32) → (Nat → Int32) → (Nat → Int32) → Int32 → Prop} (vc : V_Sc_leadOn2 ru le li bn ip aw ns post)
    (hret : ∀ (ru : Nat → Int32) (le : Nat → Int32) (li : Nat → Int32) (bn : Nat → Int32) (ip : Nat → Int32) (aw : Nat → Int32) (ns : Int32) (ls : Array Slot) (pc : Nat) (H : Heap) (locs : List Loc), decode b_Sc_leadOn pc = .ok (.return_, 1) → post ru le li bn ip aw ns → va_P D vwCl (wS a cI ru le li bn ip aw ns) H → va_D A (wS a cI ru le li bn ip aw ns) → va_S A s.heap H locs → W p l e R s m args below meth c H locs cells slots Q (F0 m pc ls [])) : W p l e R s m args below meth c H locs cells slots Q (F0 m 0 ls []) := by
  have hx := S.1
  have hb := S.2.1
  have hown := S.2.2.2.1
  have hts := S.2.2.2.2
  unfold V_Sc_leadOn2 at vc
  refine lv_iconst (v := 0) hx hb d_Sc_leadOn_0 (by decide) ?_
  refine lv_istore_n hx hb d_Sc_leadOn_1 rfl hl (by decide) (lv' := [(2, .int 0), (0, .ref (a 12)), (1, .ref (a 18))]) rfl (fun ls hl => ?_)
  obtain ⟨I8, mI8, vc0, vcs⟩ := vc
  have lI8 : ∀ n : Nat, ∀ (x6 : Int32) (f7 : Nat → Int32) (ls : Array Slot) (H : Heap) (locs : List Loc), I8 x6 f7 → mI8 x6 f7 < n → lv_has ls 4 [(0, .ref (a 12)), (1, .ref (a 18)), (2, .int x6)] → va_P D vwCl (wS a cI ru le li bn ip f7 ns) H → va_D A (wS a cI ru le li bn ip f7 ns) → va_S A s.heap H locs → W p l e R s m args below meth c H locs cells slots Q (F0 m 2 ls []) := by
    intro n
    induction n with
    | zero => intro x6 f7 ls H locs _ h; exact absurd h (Nat.not_lt_zero _)
    | succ n ihI8 =>
      intro x6 f7 ls H locs vc hmI8 hl hP hD hS
      have vc := vcs x6 f7 vc
      refine lv_iload_n hx hb d_Sc_leadOn_2 rfl (lv_at hl 2 rfl) ?_
      refine lv_aload_n hx hb d_Sc_leadOn_3 rfl (lv_at hl 0 rfl) ?_
      refine va_get (D := D) (ci := 3) (v := .int ns) (C := R_Sc) (T := F_Sc) (N := 7) hx hb hts in_Sc hown hK hP 0 rfl rfl 6 (by decide) (hts _ fl_Sc_38) (fun _ h => h) rfl d_Sc_leadOn_4 ?_
      refine lv_icmp_ge (tgt := 51) hx hb d_Sc_leadOn_7 (by decide) (fun h => ?_) (fun h => ?_)
      · have vc := vc.1 h
        exact hret _ _ _ _ _ _ _ ls _ H locs d_Sc_leadOn_51 vc hP hD hS
      · have vc := vc.2 h
        refine lv_iconst (v := 0) hx hb d_Sc_leadOn_10 (by decide) ?_
        refine lv_istore_n hx hb d_Sc_leadOn_11 rfl hl (by decide) (lv' := [(3, .int 0), (0, .ref (a 12)), (1, .ref (a 18)), (2, .int x6)]) rfl (fun ls hl => ?_)
        obtain ⟨I12, mI12, vc0, vcs⟩ := vc
        have lI12 : ∀ n : Nat, ∀ (x10 : Int32) (f11 : Nat → Int32) (ls : Array Slot) (H : Heap) (locs : List Loc), I12 x10 f11 → mI12 x10 f11 < n → lv_has ls 4 [(0, .ref (a 12)), (1, .ref (a 18)), (2, .int x6), (3, .int x10)] → va_P D vwCl (wS a cI ru le li bn ip f11 ns) H → va_D A (wS a cI ru le li bn ip f11 ns) → va_S A s.heap H locs → W p l e R s m args below meth c H locs cells slots Q (F0 m 12 ls []) := by
          intro n
          induction n with
          | zero => intro x10 f11 ls H locs _ h; exact absurd h (Nat.not_lt_zero _)
          | succ n ihI12 =>
            intro x10 f11 ls H locs vc hmI12 hl hP hD hS
            have vc := vcs x10 f11 vc
            refine lv_iload_n hx hb d_Sc_leadOn_12 rfl (lv_at hl 3 rfl) ?_
            refine lv_aload_n hx hb d_Sc_leadOn_13 rfl (lv_at hl 0 rfl) ?_
            refine va_get (D := D) (ci := 3) (v := .int ns) (C := R_Sc) (T := F_Sc) (N := 7) hx hb hts in_Sc hown hK hP 0 rfl rfl 6 (by decide) (hts _ fl_Sc_38) (fun _ h => h) rfl d_Sc_leadOn_14 ?_
            refine lv_icmp_ge (tgt := 45) hx hb d_Sc_leadOn_17 (by decide) (fun h => ?_) (fun h => ?_)
            · have vc := vc.1 h
              refine lv_iinc (k := 2) (v := x6 + 1) hx hb d_Sc_leadOn_45 hl rfl rfl (by decide) (lv' := [(2, .int (x6 + 1)), (0, .ref (a 12)), (1, .ref (a 18)), (3, .int x10)]) rfl (fun ls hl => ?_)
              refine lv_goto (tgt := 2) hx hb d_Sc_leadOn_48 (by decide) ?_
              exact ihI8 (x6 + 1) f11 ls H locs vc.1 (Nat.lt_of_lt_of_le vc.2 (Nat.le_of_lt_succ hmI8)) (lv_sub hl [1, 2, 0] rfl) hP hD hS
            · have vc := vc.2 h
              refine lv_aload_n hx hb d_Sc_leadOn_20 rfl (lv_at hl 1 rfl) ?_
              refine lv_iload_n hx hb d_Sc_leadOn_21 rfl (lv_at hl 3 rfl) ?_
              obtain ⟨vcb, vc⟩ := vc
              refine va_iald hx hb hK hP 6 0 rfl rfl vcb d_Sc_leadOn_22 ?_
              refine lv_iload_n hx hb d_Sc_leadOn_23 rfl (lv_at hl 2 rfl) ?_
              refine lv_ishr hx hb d_Sc_leadOn_24 ?_
              refine lv_iconst (v := 1) hx hb d_Sc_leadOn_25 (by decide) ?_
              refine lv_iand hx hb d_Sc_leadOn_26 ?_
              refine lv_if_eq (tgt := 39) hx hb d_Sc_leadOn_27 (by decide) (fun h => ?_) (fun h => ?_)
              · have vc := vc.1 h
                refine lv_iinc (k := 3) (v := x10 + 1) hx hb d_Sc_leadOn_39 hl rfl rfl (by decide) (lv' := [(3, .int (x10 + 1)), (0, .ref (a 12)), (1, .ref (a 18)), (2, .int x6)]) rfl (fun ls hl => ?_)
                refine lv_goto (tgt := 12) hx hb d_Sc_leadOn_42 (by decide) ?_
                exact ihI12 (x10 + 1) f11 ls H locs vc.1 (Nat.lt_of_lt_of_le vc.2 (Nat.le_of_lt_succ hmI12)) (lv_sub hl [1, 2, 3, 0] rfl) hP hD hS
              · have vc := vc.2 h
                refine lv_aload_n hx hb d_Sc_leadOn_30 rfl (lv_at hl 1 rfl) ?_
                refine lv_iload_n hx hb d_Sc_leadOn_31 rfl (lv_at hl 3 rfl) ?_
                refine lv_dup2_11 hx hb d_Sc_leadOn_32 rfl rfl ?_
                obtain ⟨vcb, vc⟩ := vc
                refine va_iald hx hb hK hP 6 0 rfl rfl vcb d_Sc_leadOn_33 ?_
                refine lv_aload_n hx hb d_Sc_leadOn_34 rfl (lv_at hl 1 rfl) ?_
                refine lv_iload_n hx hb d_Sc_leadOn_35 rfl (lv_at hl 2 rfl) ?_
                obtain ⟨vcb, vc⟩ := vc
                refine va_iald hx hb hK hP 6 0 rfl rfl vcb d_Sc_leadOn_36 ?_
                refine lv_ior hx hb d_Sc_leadOn_37 ?_
                obtain ⟨vcb, vc⟩ := vc
                refine va_iast hx hb hK hP hD hS 6 0 rfl rfl vcb d_Sc_leadOn_38 (fun H locs hP hD hS => ?_)
                have hP : va_P D vwCl (wS a cI ru le li bn ip (upd f11 x10.toNatClampNeg ((f11 x10.toNatClampNeg) ||| (f11 x6.toNatClampNeg))) ns) H := hP
                have hD : va_D A (wS a cI ru le li bn ip (upd f11 x10.toNatClampNeg ((f11 x10.toNatClampNeg) ||| (f11 x6.toNatClampNeg))) ns) := hD
                refine lv_iinc (k := 3) (v := x10 + 1) hx hb d_Sc_leadOn_39 hl rfl rfl (by decide) (lv' := [(3, .int (x10 + 1)), (0, .ref (a 12)), (1, .ref (a 18)), (2, .int x6)]) rfl (fun ls hl => ?_)
                refine lv_goto (tgt := 12) hx hb d_Sc_leadOn_42 (by decide) ?_
                exact ihI12 (x10 + 1) (upd f11 x10.toNatClampNeg ((f11 x10.toNatClampNeg) ||| (f11 x6.toNatClampNeg))) ls H locs vc.1 (Nat.lt_of_lt_of_le vc.2 (Nat.le_of_lt_succ hmI12)) (lv_sub hl [1, 2, 3, 0] rfl) hP hD hS
        exact lI12 _ 0 f7 ls H locs vc0 (Nat.lt_succ_self _) (lv_sub hl [1, 2, 3, 0] rfl) hP hD hS
  exact lI8 _ 0 aw ls H locs vc0 (Nat.lt_succ_self _) (lv_sub hl [1, 2, 0] rfl) hP hD hS
set_option maxHeartbeats 4000000 in
theorem v_Sc_leadOn2 (ru : Nat → Int32) (le : Nat → Int32) (li : Nat → Int32) (bn : Nat → Int32) (ip : Nat → Int32) (aw : Nat → Int32) (ns : Int32) (hpre : (∃ n : Nat, n ≤ 24 ∧ ns = nI n)) : V_Sc_leadOn2 ru le li bn ip aw ns (fun ru' le' li' bn' ip' aw' ns' => (∀ n : Nat, ns = nI n → n ≤ 24 → ∀ t, t < n → ∀ u, bt (aw' t) u = true ↔ Relation.TransGen (LdR n aw) t u) ∧ ru' = ru ∧ le' = le ∧ li' = li ∧ bn' = bn ∧ ip' = ip ∧ ns' = ns) := by
  unfold V_Sc_leadOn2
  obtain ⟨n, hn, rfl⟩ := hpre
  refine ⟨fun x g => ∃ k, k ≤ n ∧ x = nI k ∧ (∀ t, t < n → ∀ u, bt (g t) u = true → Relation.TransGen (LdR n aw) t u) ∧ (∀ t, t < n → ∀ u, bt (aw t) u = true → bt (g t) u = true) ∧ LdT n k g, fun x _ => n - x.toInt.toNat, ⟨0, Nat.zero_le _, rfl, fun t ht u h => .single ⟨ht, h⟩, fun _ _ _ h => h, fun o ho => absurd ho (Nat.not_lt_zero _)⟩, ?_⟩
  rintro x g0 ⟨k, hk, rfl, s0, i0, t0⟩
  refine ⟨fun h => ?_, fun h => ?_⟩
  · obtain rfl := (fill_end (N := n) h (by omega) hk).symm
    refine ⟨fun n2 e hn2 => ?_, rfl, rfl, rfl, rfl, rfl, rfl⟩
    rw [nI_eq (by omega) (by omega)] at e
    subst e; exact ld_end s0 i0 t0
  · have hk2 := fill_step (N := n) h (by omega) hk
    refine ⟨fun x g => ∃ j, j ≤ n ∧ x = nI j ∧ ∀ t, t < n → g t = if t < j ∧ bt (g0 t) k = true then g0 t ||| g0 k else g0 t, fun x _ => n - x.toInt.toNat, ⟨0, Nat.zero_le _, rfl, fun t _ => (if_neg (fun q => absurd q.1 (Nat.not_lt_zero _))).symm⟩, ?_⟩
    rintro x g ⟨j, hj, rfl, hg⟩
    refine ⟨fun h2 => ?_, fun h2 => ?_⟩
    · obtain rfl := (fill_end (N := n) h2 (by omega) hj).symm
      have hb : ∀ t, t < n → ∀ u, bt (g t) u = (bt (g0 t) u || (bt (g0 t) k && bt (g0 k) u)) := fun t ht u => by
        rw [hg t ht]
        cases e : bt (g0 t) k
        · rw [if_neg (by simp)]; simp
        · rw [if_pos ⟨ht, rfl⟩, b_or]; simp
      refine ⟨⟨k + 1, hk2, nI_1 k, fun t ht u h3 => ?_, fun t ht u h3 => ?_, ld_phase hk2 hb t0⟩, fill_mu hk2 (by omega)⟩
      · rw [hb t ht, Bool.or_eq_true, Bool.and_eq_true] at h3
        rcases h3 with h3 | ⟨h3, h4⟩
        · exact s0 t ht u h3
        · exact (s0 t ht k h3).trans (s0 k hk2 u h4)
      · rw [hb t ht, i0 t ht u h3]; rfl
    · have hj2 := fill_step (N := n) h2 (by omega) hj
      have e1 : g j = g0 j := by rw [hg j hj2, if_neg (fun q => absurd q.1 (Nat.lt_irrefl _))]
      have e2 : g k = g0 k := by
        rw [hg k hk2]
        by_cases q : k < j ∧ bt (g0 k) k = true
        · rw [if_pos q, or_self]
        · rw [if_neg q]
      have v1 : vp_in (nI j) 24 := vp_in_nI (by omega) (by decide)
      have v2 : vp_in (nI k) 24 := vp_in_nI (by omega) (by decide)
      rw [nI_clamp (n := j) (by omega), nI_clamp (n := k) (by omega), e1, e2, b_and1 _ (by omega)]
      refine ⟨v1, fun h3 => ⟨⟨j + 1, hj2, nI_1 j, fun t ht => ?_⟩, fill_mu hj2 (by omega)⟩, fun h3 => ⟨v1, v2, v1, ⟨j + 1, hj2, nI_1 j, fun t ht => ?_⟩, fill_mu hj2 (by omega)⟩⟩
      · by_cases e : t = j
        · subst e
          rw [e1, if_neg (fun q => by rw [bI0.mp h3] at q; cases q.2)]
        · rw [hg t ht]
          by_cases q : t < j ∧ bt (g0 t) k = true
          · rw [if_pos q, if_pos ⟨by omega, q.2⟩]
          · rw [if_neg q, if_neg (fun q2 => q ⟨by omega, q2.2⟩)]
      · by_cases e : t = j
        · subst e
          rw [upd_at, if_pos ⟨Nat.lt_succ_self _, bI_ne.mp h3⟩]
        · rw [upd_ne e, hg t ht]
          by_cases q : t < j ∧ bt (g0 t) k = true
          · rw [if_pos q, if_pos ⟨by omega, q.2⟩]
          · rw [if_neg q, if_neg (fun q2 => q ⟨by omega, q2.2⟩)]
theorem c_Sc_leadOn2 (l : Launch) (D : va_G) (a : Nat → Nat) (cI cJ cZ : ClassId) (ru : Nat → Int32) (le : Nat → Int32) (li : Nat → Int32) (bn : Nat → Int32) (ip : Nat → Int32) (aw : Nat → Int32) (ns : Int32) (hpre : (∃ n : Nat, n ≤ 24 ∧ ns = nI n)) : Wm (S := (Nat → Int32)) l y_Sc_leadOn b_Sc_leadOn 4 none 0 0 [.ref (a 12), .ref (a 18)] D (tyA cI cJ cZ) (wS a cI ru le li bn ip aw ns) (fun uu => ∀ n : Nat, ns = nI n → n ≤ 24 → ∀ t, t < n → ∀ u, bt (uu t) u = true ↔ Relation.TransGen (LdR n aw) t u) (fun uu => none) (fun uu => (wS a cI ru le li bn ip uu ns)) :=
  wm_v (by decide) (Nat.le_of_ble_eq_true rfl) (fun p e s m below meth c ls Q A S hK hP hD hA hS hl hret => g_Sc_leadOn2 S (Nat.le_refl _) (Nat.le_refl _) ⟨Nat.le_refl _, Nat.le_refl _⟩ D a cI cJ cZ ru le li bn ip aw ns hK hP hD hA hS hl (v_Sc_leadOn2 ru le li bn ip aw ns hpre) (fun ru' le' li' bn' ip' aw' ns' ls1 pc H1 locs1 hd hv hP1 hD1 hS1 => by obtain ⟨hp, rfl, rfl, rfl, rfl, rfl, rfl⟩ := hv; exact hret aw' ls1 pc H1 locs1 hd hp hP1 hD1 hS1))
def V_Sc_meetsCircle (ru : Nat → Int32) (le : Nat → Int32) (li : Nat → Int32) (bn : Nat → Int32) (ip : Nat → Int32) (aw : Nat → Int32) (ns : Int32) (x : Int32) (post : Int32 → (Nat → Int32) → (Nat → Int32) → (Nat → Int32) → (Nat → Int32) → (Nat → Int32) → (Nat → Int32) → Int32 → Prop) : Prop :=
  (∃ (I10 : Int32 → (Nat → Int32) → (Nat → Int32) → Prop) (mI10 : Int32 → (Nat → Int32) → (Nat → Int32) → Nat), I10 0 ip aw ∧ (∀ (x7 : Int32) (f8 : Nat → Int32) (f9 : Nat → Int32), I10 x7 f8 f9 → ((ns ≤ x7 → ((∃ n : Nat, n ≤ 24 ∧ ns = nI n) ∧ (∀ (f11 : Nat → Int32), (∀ n : Nat, ns = nI n → n ≤ 24 → ∀ t, t < n → ∀ u, bt (f11 t) u = true ↔ Relation.TransGen (LdR n f8) t u) → ((∃ n : Nat, n ≤ 24 ∧ ns = nI n) ∧ (∀ (f12 : Nat → Int32), (∀ n : Nat, ns = nI n → n ≤ 24 → ∀ t, t < n → ∀ u, bt (f12 t) u = true ↔ Relation.TransGen (LdR n f9) t u) → (vp_in x 24 ∧ (∃ (I15 : Int32 → Prop) (mI15 : Int32 → Nat), I15 0 ∧ (∀ (x14 : Int32), I15 x14 → ((ns ≤ x14 → post 0 ru le li bn f11 f12 ns) ∧ (¬ ns ≤ x14 → ((((((f12 x.toNatClampNeg) ||| (1 <<< (x &&& 31))) >>> (x14 &&& 31)) &&& 1) = 0 → (I15 (x14 + 1) ∧ mI15 (x14 + 1) < mI15 x14)) ∧ (¬ ((((f12 x.toNatClampNeg) ||| (1 <<< (x &&& 31))) >>> (x14 &&& 31)) &&& 1) = 0 → (vp_in x14 24 ∧ (((((f11 x14.toNatClampNeg) >>> (x14 &&& 31)) &&& 1) = 0 → (I15 (x14 + 1) ∧ mI15 (x14 + 1) < mI15 x14)) ∧ (¬ (((f11 x14.toNatClampNeg) >>> (x14 &&& 31)) &&& 1) = 0 → post 1 ru le li bn f11 f12 ns))))))))))))))) ∧ (¬ ns ≤ x7 → ((∃ s : Nat, s < 24 ∧ x7 = nI s ∧ LeOK le) ∧ (vp_in x7 24 ∧ (vp_in x7 24 ∧ ((∃ s : Nat, s < 24 ∧ x7 = nI s ∧ LeOK le) ∧ (vp_in x7 24 ∧ (I10 (x7 + 1) (upd f8 x7.toNatClampNeg (sLIP ru le li bn x7.toNatClampNeg)) (upd f9 x7.toNatClampNeg (((upd f8 x7.toNatClampNeg (sLIP ru le li bn x7.toNatClampNeg)) x7.toNatClampNeg) ||| (sLEW ru le li bn x7.toNatClampNeg))) ∧ mI10 (x7 + 1) (upd f8 x7.toNatClampNeg (sLIP ru le li bn x7.toNatClampNeg)) (upd f9 x7.toNatClampNeg (((upd f8 x7.toNatClampNeg (sLIP ru le li bn x7.toNatClampNeg)) x7.toNatClampNeg) ||| (sLEW ru le li bn x7.toNatClampNeg))) < mI10 x7 f8 f9))))))))))
set_option maxHeartbeats 4000000 in
set_option maxRecDepth 100000 in
theorem g_Sc_meetsCircle {p : Program} {l : Launch} {e : Env} {R : Room} {s : State} {m : MethodId} {args : Array Value} {below : List Frame} {meth : Method} {c : Code} {H : Heap} {locs : List Loc} {cells slots : Nat} {Q : State → Prop} {ls : Array Slot} {A : Nat → Prop} (S : CallFix p m c b_Sc_meetsCircle 4 s args W0 R_Sc) (hRf : 4 ≤ R.frames) (hRl : 92 ≤ R.locals) (hRc : cells ≤ R.cells ∧ slots ≤ R.slots) (D : va_G) (a : Nat → Nat) (cI cJ cZ : ClassId) (ru : Nat → Int32) (le : Nat → Int32) (li : Nat → Int32) (bn : Nat → Int32) (ip : Nat → Int32) (aw : Nat → Int32) (ns : Int32) (x : Int32) (hK : va_K D vwCl (tyA cI cJ cZ) s) (hP : va_P D vwCl (wS a cI ru le li bn ip aw ns) H) (hD : va_D A (wS a cI ru le li bn ip aw ns)) (hA : ∀ q, s.heap.size ≤ q → A q) (hS : va_S A s.heap H locs) (hl : lv_has ls 4 [(0, .ref (a 12)), (1, .int x)]) {post : Int32 → (Nat → Int32) → (Nat → Int32) → (Nat → Int32) → (Nat → Int32) → (Nat → Int32) → (Nat → Int32) → Int32 → Prop} (vc : V_Sc_meetsCircle ru le li bn ip aw ns x post)
    (hret : ∀ (v : Int32) (ru : Nat → Int32) (le : Nat → Int32) (li : Nat → Int32) (bn : Nat → Int32) (ip : Nat → Int32) (aw : Nat → Int32) (ns : Int32) (ls : Array Slot) (pc : Nat) (H : Heap) (locs : List Loc), decode b_Sc_meetsCircle pc = .ok (.ireturn, 1) → post v ru le li bn ip aw ns → va_P D vwCl (wS a cI ru le li bn ip aw ns) H → va_D A (wS a cI ru le li bn ip aw ns) → va_S A s.heap H locs → W p l e R s m args below meth c H locs cells slots Q (F0 m pc ls [.int v])) : W p l e R s m args below meth c H locs cells slots Q (F0 m 0 ls []) := by
  have hx := S.1
  have hb := S.2.1
  have hown := S.2.2.2.1
  have hts := S.2.2.2.2
  unfold V_Sc_meetsCircle at vc
  refine lv_iconst (v := 0) hx hb d_Sc_meetsCircle_0 (by decide) ?_
  refine lv_istore_n hx hb d_Sc_meetsCircle_1 rfl hl (by decide) (lv' := [(2, .int 0), (0, .ref (a 12)), (1, .int x)]) rfl (fun ls hl => ?_)
  obtain ⟨I10, mI10, vc0, vcs⟩ := vc
  have lI10 : ∀ n : Nat, ∀ (x7 : Int32) (f8 : Nat → Int32) (f9 : Nat → Int32) (ls : Array Slot) (H : Heap) (locs : List Loc), I10 x7 f8 f9 → mI10 x7 f8 f9 < n → lv_has ls 4 [(0, .ref (a 12)), (1, .int x), (2, .int x7)] → va_P D vwCl (wS a cI ru le li bn f8 f9 ns) H → va_D A (wS a cI ru le li bn f8 f9 ns) → va_S A s.heap H locs → W p l e R s m args below meth c H locs cells slots Q (F0 m 2 ls []) := by
    intro n
    induction n with
    | zero => intro x7 f8 f9 ls H locs _ h; exact absurd h (Nat.not_lt_zero _)
    | succ n ihI10 =>
      intro x7 f8 f9 ls H locs vc hmI10 hl hP hD hS
      have vc := vcs x7 f8 f9 vc
      refine lv_iload_n hx hb d_Sc_meetsCircle_2 rfl (lv_at hl 2 rfl) ?_
      refine lv_aload_n hx hb d_Sc_meetsCircle_3 rfl (lv_at hl 0 rfl) ?_
      refine va_get (D := D) (ci := 3) (v := .int ns) (C := R_Sc) (T := F_Sc) (N := 7) hx hb hts in_Sc hown hK hP 0 rfl rfl 6 (by decide) (hts _ fl_Sc_38) (fun _ h => h) rfl d_Sc_meetsCircle_4 ?_
      refine lv_icmp_ge (tgt := 45) hx hb d_Sc_meetsCircle_7 (by decide) (fun h => ?_) (fun h => ?_)
      · have vc := vc.1 h
        refine lv_aload_n hx hb d_Sc_meetsCircle_45 rfl (lv_at hl 0 rfl) ?_
        refine lv_aload_n hx hb d_Sc_meetsCircle_46 rfl (lv_at hl 0 rfl) ?_
        refine va_get (D := D) (ci := 3) (v := .ref (a 17)) (C := R_Sc) (T := F_Sc) (N := 7) hx hb hts in_Sc hown hK hP 0 rfl rfl 4 (by decide) (hts _ fl_Sc_32) (fun _ h => h) rfl d_Sc_meetsCircle_47 ?_
        obtain ⟨hpre, vc⟩ := vc
        refine wc_V (As := [.ref (a 17)]) (rest := []) (wr := ([] : va_W)) S (c_Sc_leadOn l D a cI cJ cZ ru le li bn f8 f9 ns hpre) k_Sc_leadOn i_Sc_leadOn e_Sc_leadOn o_Sc ml_Sc_57 hd_Sc_leadOn (Nat.le_trans (by decide) hRf) (Nat.le_trans (by decide) hRl) hRc (va_recv hK hP (q0 := 0) (ci := 3) rfl rfl) hK hP hD hS hA [0, 1, 2, 3, 4, 5, 6] [] rfl rfl rfl (by decide) (by decide) (by decide) hl.1 rfl (Nat.le_of_ble_eq_true rfl) d_Sc_meetsCircle_50 (fun f11 H locs hu hP hD hS => ?_)
        have vc := vc f11 hu
        clear hu
        have hP : va_P D vwCl (wS a cI ru le li bn f11 f9 ns) H := hP
        have hD : va_D A (wS a cI ru le li bn f11 f9 ns) := hD
        refine lv_aload_n hx hb d_Sc_meetsCircle_53 rfl (lv_at hl 0 rfl) ?_
        refine lv_aload_n hx hb d_Sc_meetsCircle_54 rfl (lv_at hl 0 rfl) ?_
        refine va_get (D := D) (ci := 3) (v := .ref (a 18)) (C := R_Sc) (T := F_Sc) (N := 7) hx hb hts in_Sc hown hK hP 0 rfl rfl 5 (by decide) (hts _ fl_Sc_35) (fun _ h => h) rfl d_Sc_meetsCircle_55 ?_
        obtain ⟨hpre, vc⟩ := vc
        refine wc_V (As := [.ref (a 18)]) (rest := []) (wr := ([] : va_W)) S (c_Sc_leadOn2 l D a cI cJ cZ ru le li bn f11 f9 ns hpre) k_Sc_leadOn i_Sc_leadOn e_Sc_leadOn o_Sc ml_Sc_57 hd_Sc_leadOn (Nat.le_trans (by decide) hRf) (Nat.le_trans (by decide) hRl) hRc (va_recv hK hP (q0 := 0) (ci := 3) rfl rfl) hK hP hD hS hA [0, 1, 2, 3, 4, 5, 6] [] rfl rfl rfl (by decide) (by decide) (by decide) hl.1 rfl (Nat.le_of_ble_eq_true rfl) d_Sc_meetsCircle_58 (fun f12 H locs hu hP hD hS => ?_)
        have vc := vc f12 hu
        clear hu
        have hP : va_P D vwCl (wS a cI ru le li bn f11 f12 ns) H := hP
        have hD : va_D A (wS a cI ru le li bn f11 f12 ns) := hD
        refine lv_aload_n hx hb d_Sc_meetsCircle_61 rfl (lv_at hl 0 rfl) ?_
        refine va_get (D := D) (ci := 3) (v := .ref (a 18)) (C := R_Sc) (T := F_Sc) (N := 7) hx hb hts in_Sc hown hK hP 0 rfl rfl 5 (by decide) (hts _ fl_Sc_35) (fun _ h => h) rfl d_Sc_meetsCircle_62 ?_
        refine lv_iload_n hx hb d_Sc_meetsCircle_65 rfl (lv_at hl 1 rfl) ?_
        obtain ⟨vcb, vc⟩ := vc
        refine va_iald hx hb hK hP 6 0 rfl rfl vcb d_Sc_meetsCircle_66 ?_
        refine lv_iconst (v := 1) hx hb d_Sc_meetsCircle_67 (by decide) ?_
        refine lv_iload_n hx hb d_Sc_meetsCircle_68 rfl (lv_at hl 1 rfl) ?_
        refine lv_ishl hx hb d_Sc_meetsCircle_69 ?_
        refine lv_ior hx hb d_Sc_meetsCircle_70 ?_
        refine lv_istore_n hx hb d_Sc_meetsCircle_71 rfl hl (by decide) (lv' := [(2, .int ((f12 x.toNatClampNeg) ||| (1 <<< (x &&& 31)))), (0, .ref (a 12)), (1, .int x)]) rfl (fun ls hl => ?_)
        refine lv_iconst (v := 0) hx hb d_Sc_meetsCircle_72 (by decide) ?_
        refine lv_istore_n hx hb d_Sc_meetsCircle_73 rfl hl (by decide) (lv' := [(3, .int 0), (2, .int ((f12 x.toNatClampNeg) ||| (1 <<< (x &&& 31)))), (0, .ref (a 12)), (1, .int x)]) rfl (fun ls hl => ?_)
        obtain ⟨I15, mI15, vc0, vcs⟩ := vc
        have lI15 : ∀ n : Nat, ∀ (x14 : Int32) (ls : Array Slot) (H : Heap) (locs : List Loc), I15 x14 → mI15 x14 < n → lv_has ls 4 [(0, .ref (a 12)), (1, .int x), (2, .int ((f12 x.toNatClampNeg) ||| (1 <<< (x &&& 31)))), (3, .int x14)] → va_P D vwCl (wS a cI ru le li bn f11 f12 ns) H → va_D A (wS a cI ru le li bn f11 f12 ns) → va_S A s.heap H locs → W p l e R s m args below meth c H locs cells slots Q (F0 m 74 ls []) := by
          intro n
          induction n with
          | zero => intro x14 ls H locs _ h; exact absurd h (Nat.not_lt_zero _)
          | succ n ihI15 =>
            intro x14 ls H locs vc hmI15 hl hP hD hS
            have vc := vcs x14 vc
            refine lv_iload_n hx hb d_Sc_meetsCircle_74 rfl (lv_at hl 3 rfl) ?_
            refine lv_aload_n hx hb d_Sc_meetsCircle_75 rfl (lv_at hl 0 rfl) ?_
            refine va_get (D := D) (ci := 3) (v := .int ns) (C := R_Sc) (T := F_Sc) (N := 7) hx hb hts in_Sc hown hK hP 0 rfl rfl 6 (by decide) (hts _ fl_Sc_38) (fun _ h => h) rfl d_Sc_meetsCircle_76 ?_
            refine lv_icmp_ge (tgt := 111) hx hb d_Sc_meetsCircle_79 (by decide) (fun h => ?_) (fun h => ?_)
            · have vc := vc.1 h
              refine lv_iconst (v := 0) hx hb d_Sc_meetsCircle_111 (by decide) ?_
              exact hret _ _ _ _ _ _ _ _ ls _ H locs d_Sc_meetsCircle_112 vc hP hD hS
            · have vc := vc.2 h
              refine lv_iload_n hx hb d_Sc_meetsCircle_82 rfl (lv_at hl 2 rfl) ?_
              refine lv_iload_n hx hb d_Sc_meetsCircle_83 rfl (lv_at hl 3 rfl) ?_
              refine lv_ishr hx hb d_Sc_meetsCircle_84 ?_
              refine lv_iconst (v := 1) hx hb d_Sc_meetsCircle_85 (by decide) ?_
              refine lv_iand hx hb d_Sc_meetsCircle_86 ?_
              refine lv_if_eq (tgt := 105) hx hb d_Sc_meetsCircle_87 (by decide) (fun h => ?_) (fun h => ?_)
              · have vc := vc.1 h
                refine lv_iinc (k := 3) (v := x14 + 1) hx hb d_Sc_meetsCircle_105 hl rfl rfl (by decide) (lv' := [(3, .int (x14 + 1)), (0, .ref (a 12)), (1, .int x), (2, .int ((f12 x.toNatClampNeg) ||| (1 <<< (x &&& 31))))]) rfl (fun ls hl => ?_)
                refine lv_goto (tgt := 74) hx hb d_Sc_meetsCircle_108 (by decide) ?_
                exact ihI15 (x14 + 1) ls H locs vc.1 (Nat.lt_of_lt_of_le vc.2 (Nat.le_of_lt_succ hmI15)) (lv_sub hl [1, 2, 3, 0] rfl) hP hD hS
              · have vc := vc.2 h
                refine lv_aload_n hx hb d_Sc_meetsCircle_90 rfl (lv_at hl 0 rfl) ?_
                refine va_get (D := D) (ci := 3) (v := .ref (a 17)) (C := R_Sc) (T := F_Sc) (N := 7) hx hb hts in_Sc hown hK hP 0 rfl rfl 4 (by decide) (hts _ fl_Sc_32) (fun _ h => h) rfl d_Sc_meetsCircle_91 ?_
                refine lv_iload_n hx hb d_Sc_meetsCircle_94 rfl (lv_at hl 3 rfl) ?_
                obtain ⟨vcb, vc⟩ := vc
                refine va_iald hx hb hK hP 5 0 rfl rfl vcb d_Sc_meetsCircle_95 ?_
                refine lv_iload_n hx hb d_Sc_meetsCircle_96 rfl (lv_at hl 3 rfl) ?_
                refine lv_ishr hx hb d_Sc_meetsCircle_97 ?_
                refine lv_iconst (v := 1) hx hb d_Sc_meetsCircle_98 (by decide) ?_
                refine lv_iand hx hb d_Sc_meetsCircle_99 ?_
                refine lv_if_eq (tgt := 105) hx hb d_Sc_meetsCircle_100 (by decide) (fun h => ?_) (fun h => ?_)
                · have vc := vc.1 h
                  refine lv_iinc (k := 3) (v := x14 + 1) hx hb d_Sc_meetsCircle_105 hl rfl rfl (by decide) (lv' := [(3, .int (x14 + 1)), (0, .ref (a 12)), (1, .int x), (2, .int ((f12 x.toNatClampNeg) ||| (1 <<< (x &&& 31))))]) rfl (fun ls hl => ?_)
                  refine lv_goto (tgt := 74) hx hb d_Sc_meetsCircle_108 (by decide) ?_
                  exact ihI15 (x14 + 1) ls H locs vc.1 (Nat.lt_of_lt_of_le vc.2 (Nat.le_of_lt_succ hmI15)) (lv_sub hl [1, 2, 3, 0] rfl) hP hD hS
                · have vc := vc.2 h
                  refine lv_iconst (v := 1) hx hb d_Sc_meetsCircle_103 (by decide) ?_
                  exact hret _ _ _ _ _ _ _ _ ls _ H locs d_Sc_meetsCircle_104 vc hP hD hS
        exact lI15 _ 0 ls H locs vc0 (Nat.lt_succ_self _) (lv_sub hl [2, 3, 1, 0] rfl) hP hD hS
      · have vc := vc.2 h
        refine lv_aload_n hx hb d_Sc_meetsCircle_10 rfl (lv_at hl 0 rfl) ?_
        refine va_get (D := D) (ci := 3) (v := .ref (a 17)) (C := R_Sc) (T := F_Sc) (N := 7) hx hb hts in_Sc hown hK hP 0 rfl rfl 4 (by decide) (hts _ fl_Sc_32) (fun _ h => h) rfl d_Sc_meetsCircle_11 ?_
        refine lv_iload_n hx hb d_Sc_meetsCircle_14 rfl (lv_at hl 2 rfl) ?_
        refine lv_aload_n hx hb d_Sc_meetsCircle_15 rfl (lv_at hl 0 rfl) ?_
        refine lv_iload_n hx hb d_Sc_meetsCircle_16 rfl (lv_at hl 2 rfl) ?_
        obtain ⟨hpre, vc⟩ := vc
        refine pc_V (As := [.int x7]) (rest := [.int x7, .ref (a 17)]) S (c_Sc_leadsInPlace l D a cI cJ cZ ru le li bn f8 f9 ns x7 hpre) wB_blind k_Sc_leadsInPlace i_Sc_leadsInPlace e_Sc_leadsInPlace o_Sc ml_Sc_50 hd_Sc_leadsInPlace (Nat.le_trans (by decide) hRf) (Nat.le_trans (by decide) hRl) hRc (va_recv hK hP (q0 := 0) (ci := 3) rfl rfl) (wB_at hP hK) hl.1 rfl (Nat.le_of_ble_eq_true rfl) d_Sc_meetsCircle_17 ?_
        obtain ⟨vcb, vc⟩ := vc
        refine va_iast hx hb hK hP hD hS 5 0 rfl rfl vcb d_Sc_meetsCircle_20 (fun H locs hP hD hS => ?_)
        have hP : va_P D vwCl (wS a cI ru le li bn (upd f8 x7.toNatClampNeg (sLIP ru le li bn x7.toNatClampNeg)) f9 ns) H := hP
        have hD : va_D A (wS a cI ru le li bn (upd f8 x7.toNatClampNeg (sLIP ru le li bn x7.toNatClampNeg)) f9 ns) := hD
        refine lv_aload_n hx hb d_Sc_meetsCircle_21 rfl (lv_at hl 0 rfl) ?_
        refine va_get (D := D) (ci := 3) (v := .ref (a 18)) (C := R_Sc) (T := F_Sc) (N := 7) hx hb hts in_Sc hown hK hP 0 rfl rfl 5 (by decide) (hts _ fl_Sc_35) (fun _ h => h) rfl d_Sc_meetsCircle_22 ?_
        refine lv_iload_n hx hb d_Sc_meetsCircle_25 rfl (lv_at hl 2 rfl) ?_
        refine lv_aload_n hx hb d_Sc_meetsCircle_26 rfl (lv_at hl 0 rfl) ?_
        refine va_get (D := D) (ci := 3) (v := .ref (a 17)) (C := R_Sc) (T := F_Sc) (N := 7) hx hb hts in_Sc hown hK hP 0 rfl rfl 4 (by decide) (hts _ fl_Sc_32) (fun _ h => h) rfl d_Sc_meetsCircle_27 ?_
        refine lv_iload_n hx hb d_Sc_meetsCircle_30 rfl (lv_at hl 2 rfl) ?_
        obtain ⟨vcb, vc⟩ := vc
        refine va_iald hx hb hK hP 5 0 rfl rfl vcb d_Sc_meetsCircle_31 ?_
        refine lv_aload_n hx hb d_Sc_meetsCircle_32 rfl (lv_at hl 0 rfl) ?_
        refine lv_iload_n hx hb d_Sc_meetsCircle_33 rfl (lv_at hl 2 rfl) ?_
        obtain ⟨hpre, vc⟩ := vc
        refine pc_V (As := [.int x7]) (rest := [.int ((upd f8 x7.toNatClampNeg (sLIP ru le li bn x7.toNatClampNeg)) x7.toNatClampNeg), .int x7, .ref (a 18)]) S (c_Sc_leadsElsewhere l D a cI cJ cZ ru le li bn (upd f8 x7.toNatClampNeg (sLIP ru le li bn x7.toNatClampNeg)) f9 ns x7 hpre) wB_blind k_Sc_leadsElsewhere i_Sc_leadsElsewhere e_Sc_leadsElsewhere o_Sc ml_Sc_54 hd_Sc_leadsElsewhere (Nat.le_trans (by decide) hRf) (Nat.le_trans (by decide) hRl) hRc (va_recv hK hP (q0 := 0) (ci := 3) rfl rfl) (wB_at hP hK) hl.1 rfl (Nat.le_of_ble_eq_true rfl) d_Sc_meetsCircle_34 ?_
        refine lv_ior hx hb d_Sc_meetsCircle_37 ?_
        obtain ⟨vcb, vc⟩ := vc
        refine va_iast hx hb hK hP hD hS 6 0 rfl rfl vcb d_Sc_meetsCircle_38 (fun H locs hP hD hS => ?_)
        have hP : va_P D vwCl (wS a cI ru le li bn (upd f8 x7.toNatClampNeg (sLIP ru le li bn x7.toNatClampNeg)) (upd f9 x7.toNatClampNeg (((upd f8 x7.toNatClampNeg (sLIP ru le li bn x7.toNatClampNeg)) x7.toNatClampNeg) ||| (sLEW ru le li bn x7.toNatClampNeg))) ns) H := hP
        have hD : va_D A (wS a cI ru le li bn (upd f8 x7.toNatClampNeg (sLIP ru le li bn x7.toNatClampNeg)) (upd f9 x7.toNatClampNeg (((upd f8 x7.toNatClampNeg (sLIP ru le li bn x7.toNatClampNeg)) x7.toNatClampNeg) ||| (sLEW ru le li bn x7.toNatClampNeg))) ns) := hD
        refine lv_iinc (k := 2) (v := x7 + 1) hx hb d_Sc_meetsCircle_39 hl rfl rfl (by decide) (lv' := [(2, .int (x7 + 1)), (0, .ref (a 12)), (1, .int x)]) rfl (fun ls hl => ?_)
        refine lv_goto (tgt := 2) hx hb d_Sc_meetsCircle_42 (by decide) ?_
        exact ihI10 (x7 + 1) (upd f8 x7.toNatClampNeg (sLIP ru le li bn x7.toNatClampNeg)) (upd f9 x7.toNatClampNeg (((upd f8 x7.toNatClampNeg (sLIP ru le li bn x7.toNatClampNeg)) x7.toNatClampNeg) ||| (sLEW ru le li bn x7.toNatClampNeg))) ls H locs vc.1 (Nat.lt_of_lt_of_le vc.2 (Nat.le_of_lt_succ hmI10)) (lv_sub hl [1, 2, 0] rfl) hP hD hS
  exact lI10 _ 0 ip aw ls H locs vc0 (Nat.lt_succ_self _) (lv_sub hl [1, 2, 0] rfl) hP hD hS
set_option maxHeartbeats 4000000 in
theorem v_Sc_meetsCircle (ru : Nat → Int32) (le : Nat → Int32) (li : Nat → Int32) (bn : Nat → Int32) (ip : Nat → Int32) (aw : Nat → Int32) (ns : Int32) (x : Int32) (hpre : (∃ n : Nat, n ≤ 24 ∧ ns = nI n ∧ vp_in x n ∧ LeOK le)) : V_Sc_meetsCircle ru le li bn ip aw ns x (fun v ru' le' li' bn' ip' aw' ns' => ∃ rr : Bool, v = bI rr ∧ (∀ n : Nat, ns = nI n → n < 2 ^ 31 → (rr = true ↔ ∃ i, i < n ∧ (i = x.toNatClampNeg ∨ Relation.TransGen (LdR n (fun s => sLIP ru le li bn s ||| sLEW ru le li bn s)) x.toNatClampNeg i) ∧ Relation.TransGen (LdR n (sLIP ru le li bn)) i i)) ∧ ru' = ru ∧ le' = le ∧ li' = li ∧ bn' = bn ∧ ns' = ns) := by
  unfold V_Sc_meetsCircle
  obtain ⟨n, hn, rfl, hx, hle⟩ := hpre
  obtain ⟨q, hq, rfl, hcq⟩ := vp_nat hx (by omega)
  rw [hcq]
  refine ⟨fun x f g => ∃ k, k ≤ n ∧ x = nI k ∧ (∀ t, t < k → f t = sLIP ru le li bn t) ∧ (∀ t, t < k → g t = sLIP ru le li bn t ||| sLEW ru le li bn t), fun x _ _ => n - x.toInt.toNat, ⟨0, Nat.zero_le _, rfl, fun t ht => absurd ht (Nat.not_lt_zero _), fun t ht => absurd ht (Nat.not_lt_zero _)⟩, ?_⟩
  rintro x f g ⟨k, hk, rfl, hf, hg⟩
  refine ⟨fun h => ?_, fun h => ?_⟩
  · obtain rfl := (fill_end (N := n) h (by omega) hk).symm
    have ef : LdR n f = LdR n (sLIP ru le li bn) := by
      funext t u; exact propext ⟨fun ⟨a1, a2⟩ => ⟨a1, by rw [← hf t a1]; exact a2⟩, fun ⟨a1, a2⟩ => ⟨a1, by rw [hf t a1]; exact a2⟩⟩
    have eg : LdR n g = LdR n (fun s => sLIP ru le li bn s ||| sLEW ru le li bn s) := by
      funext t u; exact propext ⟨fun ⟨a1, a2⟩ => ⟨a1, by rw [hg t a1] at a2; exact a2⟩, fun ⟨a1, a2⟩ => ⟨a1, by rw [hg t a1]; exact a2⟩⟩
    refine ⟨⟨n, hn, rfl⟩, fun f2 h2 => ⟨⟨n, hn, rfl⟩, fun g2 h3 => ⟨vp_in_nI (by omega) (by decide), ?_⟩⟩⟩
    have h2 := h2 n rfl hn
    have h3 := h3 n rfl hn
    rw [ef] at h2
    rw [eg] at h3
    refine ⟨fun x => ∃ k, k ≤ n ∧ x = nI k ∧ ∀ i, i < k → ¬ ((i = q ∨ Relation.TransGen (LdR n (fun s => sLIP ru le li bn s ||| sLEW ru le li bn s)) q i) ∧ Relation.TransGen (LdR n (sLIP ru le li bn)) i i), fun x => n - x.toInt.toNat, ⟨0, Nat.zero_le _, rfl, fun t ht => absurd ht (Nat.not_lt_zero _)⟩, ?_⟩
    rintro x ⟨k, hk, rfl, hall⟩
    refine ⟨fun h4 => ?_, fun h4 => ?_⟩
    · obtain rfl := (fill_end (N := n) h4 (by omega) hk).symm
      refine ⟨false, rfl, fun n2 e hn2 => ?_, rfl, rfl, rfl, rfl, rfl⟩
      rw [nI_eq (by omega) (by omega)] at e
      subst e
      exact ⟨fun h => absurd h (by decide), fun ⟨i, hi, h⟩ => absurd h (hall i hi)⟩
    · have hk2 := fill_step (N := n) h4 (by omega) hk
      rw [b_and1 _ (by omega), nI_clamp (n := k) (by omega), b_and1 _ (by omega), b_or, b_shl1 (by omega)]
      have hmet : (bt (g2 q) k || decide (k = q)) = true ↔ (k = q ∨ Relation.TransGen (LdR n (fun s => sLIP ru le li bn s ||| sLEW ru le li bn s)) q k) := by
        rw [Bool.or_eq_true, decide_eq_true_eq, h3 q hq k, or_comm]
      have st : ¬ ((k = q ∨ Relation.TransGen (LdR n (fun s => sLIP ru le li bn s ||| sLEW ru le li bn s)) q k) ∧ Relation.TransGen (LdR n (sLIP ru le li bn)) k k) → (∃ k2, k2 ≤ n ∧ nI k + 1 = nI k2 ∧ ∀ i, i < k2 → ¬ ((i = q ∨ Relation.TransGen (LdR n (fun s => sLIP ru le li bn s ||| sLEW ru le li bn s)) q i) ∧ Relation.TransGen (LdR n (sLIP ru le li bn)) i i)) ∧ n - (nI k + 1).toInt.toNat < n - (nI k).toInt.toNat := fun z => ⟨⟨k + 1, hk2, nI_1 k, fun i hi => by
        by_cases e : i = k
        · subst e; exact z
        · exact hall i (by omega)⟩, fill_mu hk2 (by omega)⟩
      refine ⟨fun h5 => st (fun z => ?_), fun h5 => ⟨vp_in_nI (by omega) (by decide), fun h6 => st (fun z => ?_), fun h6 => ⟨true, rfl, fun n2 e hn2 => ?_, rfl, rfl, rfl, rfl, rfl⟩⟩⟩
      · have := hmet.mpr z.1
        rw [bI0.mp h5] at this; cases this
      · have := (h2 k hk2 k).mpr z.2
        rw [bI0.mp h6] at this; cases this
      · rw [nI_eq (by omega) (by omega)] at e
        subst e
        exact ⟨fun _ => ⟨k, hk2, hmet.mp (bI_ne.mp h5), (h2 k hk2 k).mp (bI_ne.mp h6)⟩, fun _ => rfl⟩
  · have hk2 := fill_step (N := n) h (by omega) hk
    have v1 : vp_in (nI k) 24 := vp_in_nI (by omega) (by decide)
    have sp : ∃ s : Nat, s < 24 ∧ nI k = nI s ∧ LeOK le := ⟨k, by omega, rfl, hle⟩
    rw [nI_clamp (n := k) (by omega)]
    refine ⟨sp, v1, v1, sp, v1, ⟨k + 1, hk2, nI_1 k, fun t ht => ?_, fun t ht => ?_⟩, fill_mu hk2 (by omega)⟩
    · by_cases e : t = k
      · subst e; rw [upd_at]
      · rw [upd_ne e]; exact hf t (by omega)
    · by_cases e : t = k
      · subst e; rw [upd_at, upd_at]
      · rw [upd_ne e]; exact hg t (by omega)
theorem c_Sc_meetsCircle (l : Launch) (D : va_G) (a : Nat → Nat) (cI cJ cZ : ClassId) (ru : Nat → Int32) (le : Nat → Int32) (li : Nat → Int32) (bn : Nat → Int32) (ip : Nat → Int32) (aw : Nat → Int32) (ns : Int32) (x : Int32) (hpre : (∃ n : Nat, n ≤ 24 ∧ ns = nI n ∧ vp_in x n ∧ LeOK le)) : Wm (S := Bool × (Nat → Int32) × (Nat → Int32)) l y_Sc_meetsCircle b_Sc_meetsCircle 4 (some .boolean) 4 92 [.ref (a 12), .int x] D (tyA cI cJ cZ) (wS a cI ru le li bn ip aw ns) (fun uu => ∀ n : Nat, ns = nI n → n < 2 ^ 31 → (uu.1 = true ↔ ∃ i, i < n ∧ (i = x.toNatClampNeg ∨ Relation.TransGen (LdR n (fun s => sLIP ru le li bn s ||| sLEW ru le li bn s)) x.toNatClampNeg i) ∧ Relation.TransGen (LdR n (sLIP ru le li bn)) i i)) (fun uu => some (.int (bI uu.1))) (fun uu => (wS a cI ru le li bn uu.2.1 uu.2.2 ns)) :=
  wm_i (by decide) (fun _ _ => bI_nar _) (Nat.le_of_ble_eq_true rfl) (fun p e s m below meth c ls Q A S hK hP hD hA hS hl hret => g_Sc_meetsCircle S (Nat.le_refl _) (Nat.le_refl _) ⟨Nat.le_refl _, Nat.le_refl _⟩ D a cI cJ cZ ru le li bn ip aw ns x hK hP hD hA hS hl (v_Sc_meetsCircle ru le li bn ip aw ns x hpre) (fun v ru' le' li' bn' ip' aw' ns' ls1 pc H1 locs1 hd hv hP1 hD1 hS1 => by obtain ⟨rr, rfl, hp, rfl, rfl, rfl, rfl, rfl⟩ := hv; exact hret (rr, ip', aw') _ ls1 pc H1 locs1 hd hp rfl hP1 hD1 hS1))
theorem hd_Sc_meetsCircle : y_Sc_meetsCircle.cls ≠ "java/lang/invoke/MethodHandle" ∧ y_Sc_meetsCircle.cls ≠ "java/lang/invoke/VarHandle" ∧ (parseMethodDescriptor y_Sc_meetsCircle.desc).map (fun d => d.parameters.length) = some 1 := ⟨by decide, by decide, by decide +kernel⟩
