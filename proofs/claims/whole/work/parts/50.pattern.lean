/-! ===== patterns: the class's way ===== -/
/-- the places at which one of the letters stands, among the first k -/
def sPl (t : Nat) (y : Int32) : Nat → Int32
  | 0 => 0
  | j + 1 => if bt y (t / 5 ^ j % 5 - 1) = true then sPl t y j ||| (1 <<< (nI j &&& 31)) else sPl t y j
def sFol (x y : Int32) : Nat → Int32
  | 0 => x
  | k + 1 => sFol x y k ||| ((sFol x y k &&& y) <<< (1 &&& 31))
def sFollow (x y z : Int32) : Int32 :=
  if z = 0 then (x &&& y) <<< (1 &&& 31) else if z = 1 then x ||| ((x &&& y) <<< (1 &&& 31)) else sFol (if z = 2 then x else (x &&& y) <<< (1 &&& 31)) y 8
def sMat (pl po : Nat → Int32) (p t L : Nat) (x0 : Int32) : Nat → Int32
  | 0 => x0
  | i + 1 => sFollow (sMat pl po p t L x0 i) (sPl t (pl (p * 6 + i)) L) (po (p * 6 + i))
def sMatch (pn pl po pf pt : Nat → Int32) (p t : Nat) : Bool :=
  let en : Int32 := 1 <<< (nI (sTextLen 8 t) &&& 31)
  let z := sMat pl po p t (sTextLen 8 t) (if pf p = 0 then 2 * en - 1 else 1) (pn p).toNatClampNeg
  if pt p = 0 then decide (¬ z = 0) else decide (¬ z &&& en = 0)
theorem told_len : ∀ k t, told k t = true → (∀ j, j < sTextLen k t → t / 5 ^ j % 5 ≠ 0) ∧ t / 5 ^ sTextLen k t = 0 := by
  intro k
  induction k with
  | zero => intro t h; simp [told] at h; subst h; exact ⟨fun j hj => by simp [sTextLen] at hj, by simp [sTextLen]⟩
  | succ k ih =>
    intro t h
    by_cases h0 : t = 0
    · subst h0
      exact ⟨fun j hj => by simp [sTextLen] at hj, by simp⟩
    · simp only [told, h0, if_false] at h
      by_cases h5 : t % 5 = 0
      · simp [h5] at h
      · simp only [h5, if_false] at h
        obtain ⟨a1, a2⟩ := ih (t / 5) h
        have e : sTextLen (k + 1) t = sTextLen k (t / 5) + 1 := by simp [sTextLen, h0]
        rw [e]
        refine ⟨fun j hj => ?_, ?_⟩
        · cases j with
          | zero => simpa using h5
          | succ j =>
            have := a1 j (by omega)
            rwa [Nat.pow_succ, Nat.mul_comm, ← Nat.div_div_eq_div_mul]
        · rw [Nat.pow_succ, Nat.mul_comm, ← Nat.div_div_eq_div_mul]; exact a2
theorem div_pow5 (t j : Nat) : t / 5 ^ j / 5 = t / 5 ^ (j + 1) := by rw [Nat.div_div_eq_div_mul, Nat.pow_succ]
theorem dig_lt (t j : Nat) {n : Nat} (h : t < n) : t / 5 ^ j < n := Nat.lt_of_le_of_lt (Nat.div_le_self _ _) h
theorem dig_m1 {d : Nat} (h : d ≠ 0) : nI d - 1 = nI (d - 1) := m1_nI d (by omega)
def V_Le_placesOf (x : Int32) (y : Int32) (post : Int32 → Prop) : Prop :=
  (∃ (I5 : Int32 → Int32 → Int32 → Prop) (mI5 : Int32 → Int32 → Int32 → Nat), I5 x 0 0 ∧ (∀ (x2 : Int32) (x3 : Int32) (x4 : Int32), I5 x2 x3 x4 → ((8 ≤ x4 → post x3) ∧ (¬ 8 ≤ x4 → ((x2 ≤ 0 → post x3) ∧ (¬ x2 ≤ 0 → ((((y >>> (((x2 - x2 / 5 * 5) - 1) &&& 31)) &&& 1) = 0 → (I5 (x2 / 5) x3 (x4 + 1) ∧ mI5 (x2 / 5) x3 (x4 + 1) < mI5 x2 x3 x4)) ∧ (¬ ((y >>> (((x2 - x2 / 5 * 5) - 1) &&& 31)) &&& 1) = 0 → (I5 (x2 / 5) (x3 ||| (1 <<< (x4 &&& 31))) (x4 + 1) ∧ mI5 (x2 / 5) (x3 ||| (1 <<< (x4 &&& 31))) (x4 + 1) < mI5 x2 x3 x4)))))))))
set_option maxHeartbeats 4000000 in
set_option maxRecDepth 100000 in
theorem g_Le_placesOf {p : Program} {l : Launch} {e : Env} {R : Room} {s : State} {m : MethodId} {args : Array Value} {below : List Frame} {meth : Method} {c : Code} {H : Heap} {locs : List Loc} {cells slots : Nat} {Q : State → Prop} {ls : Array Slot} (S : CallFix p m c b_Le_placesOf 5 s args W0 R_Le) (hRf : 0 ≤ R.frames) (hRl : 0 ≤ R.locals) (hRc : cells ≤ R.cells ∧ slots ≤ R.slots) (x : Int32) (y : Int32) (hl : lv_has ls 5 [(0, .int x), (1, .int y)]) {post : Int32 → Prop} (vc : V_Le_placesOf x y post)
    (hret : ∀ (v : Int32) (ls : Array Slot) (pc : Nat), decode b_Le_placesOf pc = .ok (.ireturn, 1) → post v → W p l e R s m args below meth c H locs cells slots Q (F0 m pc ls [.int v])) : W p l e R s m args below meth c H locs cells slots Q (F0 m 0 ls []) := by
  have hx := S.1
  have hb := S.2.1
  have hown := S.2.2.2.1
  have hts := S.2.2.2.2
  unfold V_Le_placesOf at vc
  refine lv_iload_n hx hb d_Le_placesOf_0 rfl (lv_at hl 0 rfl) ?_
  refine lv_istore_n hx hb d_Le_placesOf_1 rfl hl (by decide) (lv' := [(2, .int x), (0, .int x), (1, .int y)]) rfl (fun ls hl => ?_)
  refine lv_iconst (v := 0) hx hb d_Le_placesOf_2 (by decide) ?_
  refine lv_istore_n hx hb d_Le_placesOf_3 rfl hl (by decide) (lv' := [(3, .int 0), (2, .int x), (0, .int x), (1, .int y)]) rfl (fun ls hl => ?_)
  refine lv_iconst (v := 0) hx hb d_Le_placesOf_4 (by decide) ?_
  refine lv_istore hx hb d_Le_placesOf_5 hl (by decide) (lv' := [(4, .int 0), (3, .int 0), (2, .int x), (0, .int x), (1, .int y)]) rfl (fun ls hl => ?_)
  obtain ⟨I5, mI5, vc0, vcs⟩ := vc
  have lI5 : ∀ n : Nat, ∀ (x2 : Int32) (x3 : Int32) (x4 : Int32) (ls : Array Slot), I5 x2 x3 x4 → mI5 x2 x3 x4 < n → lv_has ls 5 [(0, .int x), (1, .int y), (2, .int x2), (3, .int x3), (4, .int x4)] → W p l e R s m args below meth c H locs cells slots Q (F0 m 7 ls []) := by
    intro n
    induction n with
    | zero => intro x2 x3 x4 ls _ h; exact absurd h (Nat.not_lt_zero _)
    | succ n ihI5 =>
      intro x2 x3 x4 ls vc hmI5 hl
      have vc := vcs x2 x3 x4 vc
      refine lv_iload hx hb d_Le_placesOf_7 (lv_at hl 4 rfl) ?_
      refine lv_bipush (v := 8) hx hb d_Le_placesOf_9 (by decide) ?_
      refine lv_icmp_ge (tgt := 47) hx hb d_Le_placesOf_11 (by decide) (fun h => ?_) (fun h => ?_)
      · have vc := vc.1 h
        refine lv_iload_n hx hb d_Le_placesOf_47 rfl (lv_at hl 3 rfl) ?_
        exact hret _ ls _ d_Le_placesOf_48 vc
      · have vc := vc.2 h
        refine lv_iload_n hx hb d_Le_placesOf_14 rfl (lv_at hl 2 rfl) ?_
        refine lv_if_le (tgt := 47) hx hb d_Le_placesOf_15 (by decide) (fun h => ?_) (fun h => ?_)
        · have vc := vc.1 h
          refine lv_iload_n hx hb d_Le_placesOf_47 rfl (lv_at hl 3 rfl) ?_
          exact hret _ ls _ d_Le_placesOf_48 vc
        · have vc := vc.2 h
          refine lv_iload_n hx hb d_Le_placesOf_18 rfl (lv_at hl 1 rfl) ?_
          refine lv_iload_n hx hb d_Le_placesOf_19 rfl (lv_at hl 2 rfl) ?_
          refine lv_iconst (v := 5) hx hb d_Le_placesOf_20 (by decide) ?_
          refine lv_irem hx hb d_Le_placesOf_21 (by decide) ?_
          refine lv_iconst (v := 1) hx hb d_Le_placesOf_22 (by decide) ?_
          refine lv_isub hx hb d_Le_placesOf_23 ?_
          refine lv_ishr hx hb d_Le_placesOf_24 ?_
          refine lv_iconst (v := 1) hx hb d_Le_placesOf_25 (by decide) ?_
          refine lv_iand hx hb d_Le_placesOf_26 ?_
          refine lv_if_eq (tgt := 37) hx hb d_Le_placesOf_27 (by decide) (fun h => ?_) (fun h => ?_)
          · have vc := vc.1 h
            refine lv_iload_n hx hb d_Le_placesOf_37 rfl (lv_at hl 2 rfl) ?_
            refine lv_iconst (v := 5) hx hb d_Le_placesOf_38 (by decide) ?_
            refine lv_idiv hx hb d_Le_placesOf_39 (by decide) ?_
            refine lv_istore_n hx hb d_Le_placesOf_40 rfl hl (by decide) (lv' := [(2, .int (x2 / 5)), (0, .int x), (1, .int y), (3, .int x3), (4, .int x4)]) rfl (fun ls hl => ?_)
            refine lv_iinc (k := 4) (v := x4 + 1) hx hb d_Le_placesOf_41 hl rfl rfl (by decide) (lv' := [(4, .int (x4 + 1)), (2, .int (x2 / 5)), (0, .int x), (1, .int y), (3, .int x3)]) rfl (fun ls hl => ?_)
            refine lv_goto (tgt := 7) hx hb d_Le_placesOf_44 (by decide) ?_
            exact ihI5 (x2 / 5) x3 (x4 + 1) ls vc.1 (Nat.lt_of_lt_of_le vc.2 (Nat.le_of_lt_succ hmI5)) (lv_sub hl [2, 3, 1, 4, 0] rfl)
          · have vc := vc.2 h
            refine lv_iload_n hx hb d_Le_placesOf_30 rfl (lv_at hl 3 rfl) ?_
            refine lv_iconst (v := 1) hx hb d_Le_placesOf_31 (by decide) ?_
            refine lv_iload hx hb d_Le_placesOf_32 (lv_at hl 4 rfl) ?_
            refine lv_ishl hx hb d_Le_placesOf_34 ?_
            refine lv_ior hx hb d_Le_placesOf_35 ?_
            refine lv_istore_n hx hb d_Le_placesOf_36 rfl hl (by decide) (lv' := [(3, .int (x3 ||| (1 <<< (x4 &&& 31)))), (0, .int x), (1, .int y), (2, .int x2), (4, .int x4)]) rfl (fun ls hl => ?_)
            refine lv_iload_n hx hb d_Le_placesOf_37 rfl (lv_at hl 3 rfl) ?_
            refine lv_iconst (v := 5) hx hb d_Le_placesOf_38 (by decide) ?_
            refine lv_idiv hx hb d_Le_placesOf_39 (by decide) ?_
            refine lv_istore_n hx hb d_Le_placesOf_40 rfl hl (by decide) (lv' := [(2, .int (x2 / 5)), (3, .int (x3 ||| (1 <<< (x4 &&& 31)))), (0, .int x), (1, .int y), (4, .int x4)]) rfl (fun ls hl => ?_)
            refine lv_iinc (k := 4) (v := x4 + 1) hx hb d_Le_placesOf_41 hl rfl rfl (by decide) (lv' := [(4, .int (x4 + 1)), (2, .int (x2 / 5)), (3, .int (x3 ||| (1 <<< (x4 &&& 31)))), (0, .int x), (1, .int y)]) rfl (fun ls hl => ?_)
            refine lv_goto (tgt := 7) hx hb d_Le_placesOf_44 (by decide) ?_
            exact ihI5 (x2 / 5) (x3 ||| (1 <<< (x4 &&& 31))) (x4 + 1) ls vc.1 (Nat.lt_of_lt_of_le vc.2 (Nat.le_of_lt_succ hmI5)) (lv_sub hl [3, 4, 1, 2, 0] rfl)
  exact lI5 _ x 0 0 ls vc0 (Nat.lt_succ_self _) (lv_sub hl [3, 4, 2, 1, 0] rfl)
theorem h_Le_placesOf (l : Launch) (x : Int32) (y : Int32) (r : Int32) (vc : V_Le_placesOf x y (fun v => v = r)) : Pm l y_Le_placesOf b_Le_placesOf 5 (some .int) 0 0 [.int x, .int y] wT (.int r) :=
  pm_i (by decide) rfl (Nat.le_of_ble_eq_true rfl) (fun p e s m below meth c ls Q S hB hl hret => g_Le_placesOf S (Nat.le_refl _) (Nat.le_refl _) ⟨Nat.le_refl _, Nat.le_refl _⟩ x y hl vc hret)
theorem c_Le_placesOf (l : Launch) (x : Int32) (y : Int32) (hpre : (∃ n : Nat, n < 2 ^ 31 ∧ x = nI n ∧ told 8 n = true)) : Pm l y_Le_placesOf b_Le_placesOf 5 (some .int) 0 0 [.int x, .int y] wT (.int (sPl x.toNatClampNeg y (sTextLen 8 x.toNatClampNeg))) := h_Le_placesOf l x y _ (by
  unfold V_Le_placesOf
  obtain ⟨t, ht, rfl, hto⟩ := hpre
  obtain ⟨d1, d2⟩ := told_len 8 t hto
  have hL := sTextLen_le 8 t
  rw [nI_clamp ht]
  generalize sTextLen 8 t = L at d1 d2 hL ⊢
  refine ⟨fun a z i => ∃ j, j ≤ L ∧ a = nI (t / 5 ^ j) ∧ z = sPl t y j ∧ i = nI j, fun _ _ i => L - i.toInt.toNat, ⟨0, Nat.zero_le _, by simp, rfl, rfl⟩, ?_⟩
  rintro a z i ⟨j, hj, rfl, rfl, rfl⟩
  have hd := dig_lt t j ht
  refine ⟨fun h => ?_, fun h => ⟨fun h2 => ?_, fun h2 => ?_⟩⟩
  · have := (nI_leL (n := 8) (by decide) (by omega)).mp h
    have e : (OfNat.ofNat 8 : Nat) = 8 := rfl
    obtain rfl : j = L := by omega
    rfl
  · rw [nI_le0 hd] at h2
    rcases Nat.lt_or_ge j L with q | q
    · exact absurd (by rw [h2]) (d1 j q)
    · obtain rfl : j = L := by omega
      rfl
  · rw [nI_le0 hd] at h2
    have hj2 : j < L := by
      rcases Nat.lt_or_ge j L with q | q
      · exact q
      · obtain rfl : j = L := by omega
        exact absurd d2 h2
    have m : ∀ z2, z2 = sPl t y (j + 1) → (∃ j2, j2 ≤ L ∧ nI (t / 5 ^ j) / 5 = nI (t / 5 ^ j2) ∧ z2 = sPl t y j2 ∧ nI j + 1 = nI j2) ∧ L - (nI j + 1).toInt.toNat < L - (nI j).toInt.toNat := fun z2 e => ⟨⟨j + 1, hj2, by rw [div5 hd, div_pow5], e, nI_1 j⟩, fill_mu hj2 (by omega)⟩
    have hlt : t / 5 ^ j % 5 < 5 := Nat.mod_lt _ (by decide)
    rw [rem5 hd, dig_m1 (d1 j hj2), b_and1 y (by omega)]
    refine ⟨fun h3 => m _ ?_, fun h3 => m _ ?_⟩
    · simp [sPl, bI0.mp h3]
    · simp [sPl, bI_ne.mp h3])
theorem hd_Le_placesOf : y_Le_placesOf.cls ≠ "java/lang/invoke/MethodHandle" ∧ y_Le_placesOf.cls ≠ "java/lang/invoke/VarHandle" ∧ (parseMethodDescriptor y_Le_placesOf.desc).map (fun d => d.parameters.length) = some 2 := ⟨by decide, by decide, by decide +kernel⟩
def V_Pa_follow (x : Int32) (y : Int32) (z : Int32) (post : Int32 → Prop) : Prop :=
  ((¬ z = 0 → ((¬ z = 1 → (∃ J1 : Int32 → Prop, ((¬ z = 2 → J1 ((x &&& y) <<< (1 &&& 31))) ∧ (z = 2 → J1 x)) ∧ (∀ (x2 : Int32), J1 x2 → (∃ (I6 : Int32 → Int32 → Prop) (mI6 : Int32 → Int32 → Nat), I6 x2 0 ∧ (∀ (x4 : Int32) (x5 : Int32), I6 x4 x5 → ((8 ≤ x5 → post x4) ∧ (¬ 8 ≤ x5 → (I6 (x4 ||| ((x4 &&& y) <<< (1 &&& 31))) (x5 + 1) ∧ mI6 (x4 ||| ((x4 &&& y) <<< (1 &&& 31))) (x5 + 1) < mI6 x4 x5)))))))) ∧ (z = 1 → post (x ||| ((x &&& y) <<< (1 &&& 31)))))) ∧ (z = 0 → post ((x &&& y) <<< (1 &&& 31))))
set_option maxHeartbeats 4000000 in
set_option maxRecDepth 100000 in
theorem g_Pa_follow {p : Program} {l : Launch} {e : Env} {R : Room} {s : State} {m : MethodId} {args : Array Value} {below : List Frame} {meth : Method} {c : Code} {H : Heap} {locs : List Loc} {cells slots : Nat} {Q : State → Prop} {ls : Array Slot} (S : CallFix p m c b_Pa_follow 6 s args W0 R_Pa) (hRf : 0 ≤ R.frames) (hRl : 0 ≤ R.locals) (hRc : cells ≤ R.cells ∧ slots ≤ R.slots) (x : Int32) (y : Int32) (z : Int32) (hl : lv_has ls 6 [(0, .int x), (1, .int y), (2, .int z)]) {post : Int32 → Prop} (vc : V_Pa_follow x y z post)
    (hret : ∀ (v : Int32) (ls : Array Slot) (pc : Nat), decode b_Pa_follow pc = .ok (.ireturn, 1) → post v → W p l e R s m args below meth c H locs cells slots Q (F0 m pc ls [.int v])) : W p l e R s m args below meth c H locs cells slots Q (F0 m 0 ls []) := by
  have hx := S.1
  have hb := S.2.1
  have hown := S.2.2.2.1
  have hts := S.2.2.2.2
  unfold V_Pa_follow at vc
  refine lv_iload_n hx hb d_Pa_follow_0 rfl (lv_at hl 0 rfl) ?_
  refine lv_iload_n hx hb d_Pa_follow_1 rfl (lv_at hl 1 rfl) ?_
  refine lv_iand hx hb d_Pa_follow_2 ?_
  refine lv_iconst (v := 1) hx hb d_Pa_follow_3 (by decide) ?_
  refine lv_ishl hx hb d_Pa_follow_4 ?_
  refine lv_istore_n hx hb d_Pa_follow_5 rfl hl (by decide) (lv' := [(3, .int ((x &&& y) <<< (1 &&& 31))), (0, .int x), (1, .int y), (2, .int z)]) rfl (fun ls hl => ?_)
  refine lv_iload_n hx hb d_Pa_follow_6 rfl (lv_at hl 3 rfl) ?_
  refine lv_if_ne (tgt := 12) hx hb d_Pa_follow_7 (by decide) (fun h => ?_) (fun h => ?_)
  · have vc := vc.1 h
    refine lv_iload_n hx hb d_Pa_follow_12 rfl (lv_at hl 3 rfl) ?_
    refine lv_iconst (v := 1) hx hb d_Pa_follow_13 (by decide) ?_
    refine lv_icmp_ne (tgt := 21) hx hb d_Pa_follow_14 (by decide) (fun h => ?_) (fun h => ?_)
    · have vc := vc.1 h
      refine lv_iload_n hx hb d_Pa_follow_21 rfl (lv_at hl 3 rfl) ?_
      refine lv_iconst (v := 2) hx hb d_Pa_follow_22 (by decide) ?_
      obtain ⟨J1, vc, vc2⟩ := vc
      have jJ1 : ∀ (x2 : Int32) (ls : Array Slot), J1 x2 → lv_has ls 6 [(0, .int x), (1, .int y), (2, .int z), (3, .int ((x &&& y) <<< (1 &&& 31)))] → W p l e R s m args below meth c H locs cells slots Q (F0 m 31 ls [.int x2]) := by
        intro x2 ls vc hl
        have vc := vc2 x2 vc
        refine lv_istore hx hb d_Pa_follow_31 hl (by decide) (lv' := [(4, .int x2), (0, .int x), (1, .int y), (2, .int z), (3, .int ((x &&& y) <<< (1 &&& 31)))]) rfl (fun ls hl => ?_)
        refine lv_iconst (v := 0) hx hb d_Pa_follow_33 (by decide) ?_
        refine lv_istore hx hb d_Pa_follow_34 hl (by decide) (lv' := [(5, .int 0), (4, .int x2), (0, .int x), (1, .int y), (2, .int z), (3, .int ((x &&& y) <<< (1 &&& 31)))]) rfl (fun ls hl => ?_)
        obtain ⟨I6, mI6, vc0, vcs⟩ := vc
        have lI6 : ∀ n : Nat, ∀ (x4 : Int32) (x5 : Int32) (ls : Array Slot), I6 x4 x5 → mI6 x4 x5 < n → lv_has ls 6 [(0, .int x), (1, .int y), (2, .int z), (3, .int ((x &&& y) <<< (1 &&& 31))), (4, .int x4), (5, .int x5)] → W p l e R s m args below meth c H locs cells slots Q (F0 m 36 ls []) := by
          intro n
          induction n with
          | zero => intro x4 x5 ls _ h; exact absurd h (Nat.not_lt_zero _)
          | succ n ihI6 =>
            intro x4 x5 ls vc hmI6 hl
            have vc := vcs x4 x5 vc
            refine lv_iload hx hb d_Pa_follow_36 (lv_at hl 5 rfl) ?_
            refine lv_bipush (v := 8) hx hb d_Pa_follow_38 (by decide) ?_
            refine lv_icmp_ge (tgt := 60) hx hb d_Pa_follow_40 (by decide) (fun h => ?_) (fun h => ?_)
            · have vc := vc.1 h
              refine lv_iload hx hb d_Pa_follow_60 (lv_at hl 4 rfl) ?_
              exact hret _ ls _ d_Pa_follow_62 vc
            · have vc := vc.2 h
              refine lv_iload hx hb d_Pa_follow_43 (lv_at hl 4 rfl) ?_
              refine lv_iload hx hb d_Pa_follow_45 (lv_at hl 4 rfl) ?_
              refine lv_iload_n hx hb d_Pa_follow_47 rfl (lv_at hl 1 rfl) ?_
              refine lv_iand hx hb d_Pa_follow_48 ?_
              refine lv_iconst (v := 1) hx hb d_Pa_follow_49 (by decide) ?_
              refine lv_ishl hx hb d_Pa_follow_50 ?_
              refine lv_ior hx hb d_Pa_follow_51 ?_
              refine lv_istore hx hb d_Pa_follow_52 hl (by decide) (lv' := [(4, .int (x4 ||| ((x4 &&& y) <<< (1 &&& 31)))), (0, .int x), (1, .int y), (2, .int z), (3, .int ((x &&& y) <<< (1 &&& 31))), (5, .int x5)]) rfl (fun ls hl => ?_)
              refine lv_iinc (k := 5) (v := x5 + 1) hx hb d_Pa_follow_54 hl rfl rfl (by decide) (lv' := [(5, .int (x5 + 1)), (4, .int (x4 ||| ((x4 &&& y) <<< (1 &&& 31)))), (0, .int x), (1, .int y), (2, .int z), (3, .int ((x &&& y) <<< (1 &&& 31)))]) rfl (fun ls hl => ?_)
              refine lv_goto (tgt := 36) hx hb d_Pa_follow_57 (by decide) ?_
              exact ihI6 (x4 ||| ((x4 &&& y) <<< (1 &&& 31))) (x5 + 1) ls vc.1 (Nat.lt_of_lt_of_le vc.2 (Nat.le_of_lt_succ hmI6)) (lv_sub hl [2, 3, 4, 5, 1, 0] rfl)
        exact lI6 _ x2 0 ls vc0 (Nat.lt_succ_self _) (lv_sub hl [2, 3, 4, 5, 1, 0] rfl)
      clear vc2
      refine lv_icmp_ne (tgt := 30) hx hb d_Pa_follow_23 (by decide) (fun h => ?_) (fun h => ?_)
      · have vc := vc.1 h
        refine lv_iload_n hx hb d_Pa_follow_30 rfl (lv_at hl 0 rfl) ?_
        exact jJ1 ((x &&& y) <<< (1 &&& 31)) ls vc (lv_sub hl [1, 2, 3, 0] rfl)
      · have vc := vc.2 h
        refine lv_iload_n hx hb d_Pa_follow_26 rfl (lv_at hl 1 rfl) ?_
        refine lv_goto (tgt := 31) hx hb d_Pa_follow_27 (by decide) ?_
        exact jJ1 x ls vc (lv_sub hl [1, 2, 3, 0] rfl)
    · have vc := vc.2 h
      refine lv_iload_n hx hb d_Pa_follow_17 rfl (lv_at hl 1 rfl) ?_
      refine lv_iload_n hx hb d_Pa_follow_18 rfl (lv_at hl 0 rfl) ?_
      refine lv_ior hx hb d_Pa_follow_19 ?_
      exact hret _ ls _ d_Pa_follow_20 vc
  · have vc := vc.2 h
    refine lv_iload_n hx hb d_Pa_follow_10 rfl (lv_at hl 0 rfl) ?_
    exact hret _ ls _ d_Pa_follow_11 vc
theorem h_Pa_follow (l : Launch) (x : Int32) (y : Int32) (z : Int32) (r : Int32) (vc : V_Pa_follow x y z (fun v => v = r)) : Pm l y_Pa_follow b_Pa_follow 6 (some .int) 0 0 [.int x, .int y, .int z] wT (.int r) :=
  pm_i (by decide) rfl (Nat.le_of_ble_eq_true rfl) (fun p e s m below meth c ls Q S hB hl hret => g_Pa_follow S (Nat.le_refl _) (Nat.le_refl _) ⟨Nat.le_refl _, Nat.le_refl _⟩ x y z hl vc hret)
theorem c_Pa_follow (l : Launch) (x : Int32) (y : Int32) (z : Int32) : Pm l y_Pa_follow b_Pa_follow 6 (some .int) 0 0 [.int x, .int y, .int z] wT (.int (sFollow x y z)) := h_Pa_follow l x y z _ (by
  unfold V_Pa_follow
  refine ⟨fun h => ⟨fun h2 => ?_, fun h2 => by simp [sFollow, h2]⟩, fun h => by simp [sFollow, h]⟩
  refine jn_f (c := z = 2) ?_
  generalize hx0 : (if z = 2 then x else (x &&& y) <<< (1 &&& 31)) = x0
  have hf : sFollow x y z = sFol x0 y 8 := by unfold sFollow; rw [if_neg h, if_neg h2, hx0]
  refine ⟨fun q i => ∃ k, k ≤ 8 ∧ i = nI k ∧ q = sFol x0 y k, fun _ i => 8 - i.toInt.toNat, ⟨0, by decide, rfl, rfl⟩, ?_⟩
  rintro q i ⟨k, hk, rfl, rfl⟩
  refine ⟨fun h3 => ?_, fun h3 => ?_⟩
  · obtain rfl := fill_end (N := 8) h3 (by decide) hk; exact hf.symm
  · have hk2 := fill_step (N := 8) h3 (by decide) hk
    exact ⟨⟨k + 1, hk2, nI_1 k, rfl⟩, fill_mu hk2 (by decide)⟩)
theorem hd_Pa_follow : y_Pa_follow.cls ≠ "java/lang/invoke/MethodHandle" ∧ y_Pa_follow.cls ≠ "java/lang/invoke/VarHandle" ∧ (parseMethodDescriptor y_Pa_follow.desc).map (fun d => d.parameters.length) = some 3 := ⟨by decide, by decide, by decide +kernel⟩
def V_Pa_match (pn : Nat → Int32) (pl : Nat → Int32) (po : Nat → Int32) (pf : Nat → Int32) (pt : Nat → Int32) (x : Int32) (y : Int32) (post : Int32 → Prop) : Prop :=
  (vp_in x 8 ∧ (∃ J1 : Int32 → Prop, (((pf x.toNatClampNeg) = 0 → J1 (((2 : Int32) * (1 <<< ((sCount y) &&& 31))) - 1)) ∧ (¬ (pf x.toNatClampNeg) = 0 → J1 1)) ∧ (∀ (x2 : Int32), J1 x2 → (∃ (I6 : Int32 → Int32 → Prop) (mI6 : Int32 → Int32 → Nat), I6 x2 0 ∧ (∀ (x4 : Int32) (x5 : Int32), I6 x4 x5 → (vp_in x 8 ∧ (((pn x.toNatClampNeg) ≤ x5 → (vp_in x 8 ∧ (((pt x.toNatClampNeg) = 0 → ((x4 = 0 → post 0) ∧ (¬ x4 = 0 → post 1))) ∧ (¬ (pt x.toNatClampNeg) = 0 → (((x4 &&& (1 <<< ((sCount y) &&& 31))) = 0 → post 0) ∧ (¬ (x4 &&& (1 <<< ((sCount y) &&& 31))) = 0 → post 1)))))) ∧ (¬ (pn x.toNatClampNeg) ≤ x5 → (vp_in ((x * 6) + x5) 48 ∧ ((∃ n : Nat, n < 2 ^ 31 ∧ y = nI n ∧ told 8 n = true) ∧ (vp_in ((x * 6) + x5) 48 ∧ (I6 (sFollow x4 (sPl y.toNatClampNeg (pl ((x * 6) + x5 : Int32).toNatClampNeg) (sTextLen 8 y.toNatClampNeg)) (po ((x * 6) + x5 : Int32).toNatClampNeg)) (x5 + 1) ∧ mI6 (sFollow x4 (sPl y.toNatClampNeg (pl ((x * 6) + x5 : Int32).toNatClampNeg) (sTextLen 8 y.toNatClampNeg)) (po ((x * 6) + x5 : Int32).toNatClampNeg)) (x5 + 1) < mI6 x4 x5))))))))))))
set_option maxHeartbeats 4000000 in
set_option maxRecDepth 100000 in
theorem g_Pa_match {p : Program} {l : Launch} {e : Env} {R : Room} {s : State} {m : MethodId} {args : Array Value} {below : List Frame} {meth : Method} {c : Code} {H : Heap} {locs : List Loc} {cells slots : Nat} {Q : State → Prop} {ls : Array Slot} (S : CallFix p m c b_Pa_match 7 s args W0 R_Pa) (hRf : 1 ≤ R.frames) (hRl : 25 ≤ R.locals) (hRc : cells ≤ R.cells ∧ slots ≤ R.slots) (D : va_G) (a : Nat → Nat) (cI cJ cZ : ClassId) (pn : Nat → Int32) (pl : Nat → Int32) (po : Nat → Int32) (pf : Nat → Int32) (pt : Nat → Int32) (x : Int32) (y : Int32) (hK : va_K D vwCl (tyA cI cJ cZ) s) (hP : va_P D vwCl (wP a cI cZ pn pl po pf pt) H) (hl : lv_has ls 7 [(0, .ref (a 6)), (1, .int x), (2, .int y)]) {post : Int32 → Prop} (vc : V_Pa_match pn pl po pf pt x y post)
    (hret : ∀ (v : Int32) (ls : Array Slot) (pc : Nat), decode b_Pa_match pc = .ok (.ireturn, 1) → post v → W p l e R s m args below meth c H locs cells slots Q (F0 m pc ls [.int v])) : W p l e R s m args below meth c H locs cells slots Q (F0 m 0 ls []) := by
  have hx := S.1
  have hb := S.2.1
  have hown := S.2.2.2.1
  have hts := S.2.2.2.2
  unfold V_Pa_match at vc
  refine lv_iconst (v := 1) hx hb d_Pa_match_0 (by decide) ?_
  refine lv_iload_n hx hb d_Pa_match_1 rfl (lv_at hl 2 rfl) ?_
  refine pc_S (As := [.int y]) (rest := [.int 1]) S (c_Le_count l y) wT_blind k_Le_count s_Le_count o_Le ml_Pa_26 hd_Le_count (Nat.le_trans (by decide) hRf) (Nat.le_trans (by decide) hRl) hRc (fun _ _ _ => trivial) hl.1 rfl (Nat.le_of_ble_eq_true rfl) d_Pa_match_2 ?_
  refine lv_ishl hx hb d_Pa_match_5 ?_
  refine lv_istore_n hx hb d_Pa_match_6 rfl hl (by decide) (lv' := [(3, .int (1 <<< ((sCount y) &&& 31))), (0, .ref (a 6)), (1, .int x), (2, .int y)]) rfl (fun ls hl => ?_)
  refine lv_aload_n hx hb d_Pa_match_7 rfl (lv_at hl 1 rfl) ?_
  refine va_get (D := D) (ci := 1) (v := .ref (a 10)) (C := R_Pa) (T := F_Pa) (N := 5) hx hb hts in_Pa hown hK hP 0 rfl rfl 3 (by decide) (hts _ fl_Pa_19) (fun _ h => h) rfl d_Pa_match_8 ?_
  refine lv_iload_n hx hb d_Pa_match_11 rfl (lv_at hl 2 rfl) ?_
  obtain ⟨vcb, vc⟩ := vc
  refine va_zald hx hb hK hP 4 2 rfl rfl vcb d_Pa_match_12 ?_
  obtain ⟨J1, vc, vc2⟩ := vc
  have jJ1 : ∀ (x2 : Int32) (ls : Array Slot), J1 x2 → lv_has ls 7 [(0, .ref (a 6)), (1, .int x), (2, .int y), (3, .int (1 <<< ((sCount y) &&& 31)))] → W p l e R s m args below meth c H locs cells slots Q (F0 m 25 ls [.int x2]) := by
    intro x2 ls vc hl
    have vc := vc2 x2 vc
    refine lv_istore hx hb d_Pa_match_25 hl (by decide) (lv' := [(4, .int x2), (0, .ref (a 6)), (1, .int x), (2, .int y), (3, .int (1 <<< ((sCount y) &&& 31)))]) rfl (fun ls hl => ?_)
    refine lv_iconst (v := 0) hx hb d_Pa_match_27 (by decide) ?_
    refine lv_istore hx hb d_Pa_match_28 hl (by decide) (lv' := [(5, .int 0), (4, .int x2), (0, .ref (a 6)), (1, .int x), (2, .int y), (3, .int (1 <<< ((sCount y) &&& 31)))]) rfl (fun ls hl => ?_)
    obtain ⟨I6, mI6, vc0, vcs⟩ := vc
    have lI6 : ∀ n : Nat, ∀ (x4 : Int32) (x5 : Int32) (ls : Array Slot), I6 x4 x5 → mI6 x4 x5 < n → lv_has ls 7 [(0, .ref (a 6)), (1, .int x), (2, .int y), (3, .int (1 <<< ((sCount y) &&& 31))), (4, .int x4), (5, .int x5)] → W p l e R s m args below meth c H locs cells slots Q (F0 m 30 ls []) := by
      intro n
      induction n with
      | zero => intro x4 x5 ls _ h; exact absurd h (Nat.not_lt_zero _)
      | succ n ihI6 =>
        intro x4 x5 ls vc hmI6 hl
        have vc := vcs x4 x5 vc
        refine lv_iload hx hb d_Pa_match_30 (lv_at hl 5 rfl) ?_
        refine lv_aload_n hx hb d_Pa_match_32 rfl (lv_at hl 0 rfl) ?_
        refine va_get (D := D) (ci := 1) (v := .ref (a 7)) (C := R_Pa) (T := F_Pa) (N := 5) hx hb hts in_Pa hown hK hP 0 rfl rfl 0 (by decide) (hts _ fl_Pa_9) (fun _ h => h) rfl d_Pa_match_33 ?_
        refine lv_iload_n hx hb d_Pa_match_36 rfl (lv_at hl 1 rfl) ?_
        obtain ⟨vcb, vc⟩ := vc
        refine va_iald hx hb hK hP 1 0 rfl rfl vcb d_Pa_match_37 ?_
        refine lv_icmp_ge (tgt := 86) hx hb d_Pa_match_38 (by decide) (fun h => ?_) (fun h => ?_)
        · have vc := vc.1 h
          refine lv_aload_n hx hb d_Pa_match_86 rfl (lv_at hl 0 rfl) ?_
          refine va_get (D := D) (ci := 1) (v := .ref (a 11)) (C := R_Pa) (T := F_Pa) (N := 5) hx hb hts in_Pa hown hK hP 0 rfl rfl 4 (by decide) (hts _ fl_Pa_23) (fun _ h => h) rfl d_Pa_match_87 ?_
          refine lv_iload_n hx hb d_Pa_match_90 rfl (lv_at hl 1 rfl) ?_
          obtain ⟨vcb, vc⟩ := vc
          refine va_zald hx hb hK hP 5 2 rfl rfl vcb d_Pa_match_91 ?_
          refine lv_if_eq (tgt := 110) hx hb d_Pa_match_92 (by decide) (fun h => ?_) (fun h => ?_)
          · have vc := vc.1 h
            refine lv_iload hx hb d_Pa_match_110 (lv_at hl 4 rfl) ?_
            refine lv_if_eq (tgt := 119) hx hb d_Pa_match_112 (by decide) (fun h => ?_) (fun h => ?_)
            · have vc := vc.1 h
              refine lv_iconst (v := 0) hx hb d_Pa_match_119 (by decide) ?_
              exact hret _ ls _ d_Pa_match_120 vc
            · have vc := vc.2 h
              refine lv_iconst (v := 1) hx hb d_Pa_match_115 (by decide) ?_
              refine lv_goto (tgt := 120) hx hb d_Pa_match_116 (by decide) ?_
              exact hret _ ls _ d_Pa_match_120 vc
          · have vc := vc.2 h
            refine lv_iload hx hb d_Pa_match_95 (lv_at hl 4 rfl) ?_
            refine lv_iload_n hx hb d_Pa_match_97 rfl (lv_at hl 3 rfl) ?_
            refine lv_iand hx hb d_Pa_match_98 ?_
            refine lv_if_eq (tgt := 106) hx hb d_Pa_match_99 (by decide) (fun h => ?_) (fun h => ?_)
            · have vc := vc.1 h
              refine lv_iconst (v := 0) hx hb d_Pa_match_106 (by decide) ?_
              refine lv_goto (tgt := 120) hx hb d_Pa_match_107 (by decide) ?_
              exact hret _ ls _ d_Pa_match_120 vc
            · have vc := vc.2 h
              refine lv_iconst (v := 1) hx hb d_Pa_match_102 (by decide) ?_
              refine lv_goto (tgt := 120) hx hb d_Pa_match_103 (by decide) ?_
              exact hret _ ls _ d_Pa_match_120 vc
        · have vc := vc.2 h
          refine lv_iload_n hx hb d_Pa_match_41 rfl (lv_at hl 2 rfl) ?_
          refine lv_aload_n hx hb d_Pa_match_42 rfl (lv_at hl 0 rfl) ?_
          refine va_get (D := D) (ci := 1) (v := .ref (a 8)) (C := R_Pa) (T := F_Pa) (N := 5) hx hb hts in_Pa hown hK hP 0 rfl rfl 1 (by decide) (hts _ fl_Pa_13) (fun _ h => h) rfl d_Pa_match_43 ?_
          refine lv_iload_n hx hb d_Pa_match_46 rfl (lv_at hl 1 rfl) ?_
          refine lv_bipush (v := 6) hx hb d_Pa_match_47 (by decide) ?_
          refine lv_imul hx hb d_Pa_match_49 ?_
          refine lv_iload hx hb d_Pa_match_50 (lv_at hl 5 rfl) ?_
          refine lv_iadd hx hb d_Pa_match_52 ?_
          obtain ⟨vcb, vc⟩ := vc
          refine va_iald hx hb hK hP 2 0 rfl rfl vcb d_Pa_match_53 ?_
          obtain ⟨hpre, vc⟩ := vc
          refine pc_S (As := [.int y, .int (pl ((x * 6) + x5 : Int32).toNatClampNeg)]) (rest := []) S (c_Le_placesOf l y (pl ((x * 6) + x5 : Int32).toNatClampNeg) hpre) wT_blind k_Le_placesOf s_Le_placesOf o_Le ml_Pa_32 hd_Le_placesOf (Nat.le_trans (by decide) hRf) (Nat.le_trans (by decide) hRl) hRc (fun _ _ _ => trivial) hl.1 rfl (Nat.le_of_ble_eq_true rfl) d_Pa_match_54 ?_
          refine lv_istore hx hb d_Pa_match_57 hl (by decide) (lv' := [(6, .int (sPl y.toNatClampNeg (pl ((x * 6) + x5 : Int32).toNatClampNeg) (sTextLen 8 y.toNatClampNeg))), (0, .ref (a 6)), (1, .int x), (2, .int y), (3, .int (1 <<< ((sCount y) &&& 31))), (4, .int x4), (5, .int x5)]) rfl (fun ls hl => ?_)
          refine lv_iload hx hb d_Pa_match_59 (lv_at hl 5 rfl) ?_
          refine lv_iload hx hb d_Pa_match_61 (lv_at hl 0 rfl) ?_
          refine lv_aload_n hx hb d_Pa_match_63 rfl (lv_at hl 1 rfl) ?_
          refine va_get (D := D) (ci := 1) (v := .ref (a 9)) (C := R_Pa) (T := F_Pa) (N := 5) hx hb hts in_Pa hown hK hP 0 rfl rfl 2 (by decide) (hts _ fl_Pa_16) (fun _ h => h) rfl d_Pa_match_64 ?_
          refine lv_iload_n hx hb d_Pa_match_67 rfl (lv_at hl 2 rfl) ?_
          refine lv_bipush (v := 6) hx hb d_Pa_match_68 (by decide) ?_
          refine lv_imul hx hb d_Pa_match_70 ?_
          refine lv_iload hx hb d_Pa_match_71 (lv_at hl 6 rfl) ?_
          refine lv_iadd hx hb d_Pa_match_73 ?_
          obtain ⟨vcb, vc⟩ := vc
          refine va_iald hx hb hK hP 3 0 rfl rfl vcb d_Pa_match_74 ?_
          refine pc_S (As := [.int x4, .int (sPl y.toNatClampNeg (pl ((x * 6) + x5 : Int32).toNatClampNeg) (sTextLen 8 y.toNatClampNeg)), .int (po ((x * 6) + x5 : Int32).toNatClampNeg)]) (rest := []) S (c_Pa_follow l x4 (sPl y.toNatClampNeg (pl ((x * 6) + x5 : Int32).toNatClampNeg) (sTextLen 8 y.toNatClampNeg)) (po ((x * 6) + x5 : Int32).toNatClampNeg)) wT_blind k_Pa_follow s_Pa_follow o_Pa ml_Pa_36 hd_Pa_follow (Nat.le_trans (by decide) hRf) (Nat.le_trans (by decide) hRl) hRc (fun _ _ _ => trivial) hl.1 rfl (Nat.le_of_ble_eq_true rfl) d_Pa_match_75 ?_
          refine lv_istore hx hb d_Pa_match_78 hl (by decide) (lv' := [(4, .int (sFollow x4 (sPl y.toNatClampNeg (pl ((x * 6) + x5 : Int32).toNatClampNeg) (sTextLen 8 y.toNatClampNeg)) (po ((x * 6) + x5 : Int32).toNatClampNeg))), (6, .int (sPl y.toNatClampNeg (pl ((x * 6) + x5 : Int32).toNatClampNeg) (sTextLen 8 y.toNatClampNeg))), (0, .ref (a 6)), (1, .int x), (2, .int y), (3, .int (1 <<< ((sCount y) &&& 31))), (5, .int x5)]) rfl (fun ls hl => ?_)
          refine lv_iinc (k := 6) (v := x5 + 1) hx hb d_Pa_match_80 hl rfl rfl (by decide) (lv' := [(5, .int (x5 + 1)), (4, .int (sFollow x4 (sPl y.toNatClampNeg (pl ((x * 6) + x5 : Int32).toNatClampNeg) (sTextLen 8 y.toNatClampNeg)) (po ((x * 6) + x5 : Int32).toNatClampNeg))), (6, .int (sPl y.toNatClampNeg (pl ((x * 6) + x5 : Int32).toNatClampNeg) (sTextLen 8 y.toNatClampNeg))), (0, .ref (a 6)), (1, .int x), (2, .int y), (3, .int (1 <<< ((sCount y) &&& 31)))]) rfl (fun ls hl => ?_)
          refine lv_goto (tgt := 30) hx hb d_Pa_match_83 (by decide) ?_
          exact ihI6 (sFollow x4 (sPl y.toNatClampNeg (pl ((x * 6) + x5 : Int32).toNatClampNeg) (sTextLen 8 y.toNatClampNeg)) (po ((x * 6) + x5 : Int32).toNatClampNeg)) (x5 + 1) ls vc.1 (Nat.lt_of_lt_of_le vc.2 (Nat.le_of_lt_succ hmI6)) (lv_sub hl [3, 4, 5, 6, 1, 0] rfl)
    exact lI6 _ x2 0 ls vc0 (Nat.lt_succ_self _) (lv_sub hl [2, 3, 4, 5, 1, 0] rfl)
  clear vc2
  refine lv_if_eq (tgt := 20) hx hb d_Pa_match_13 (by decide) (fun h => ?_) (fun h => ?_)
  · have vc := vc.1 h
    refine lv_iconst (v := 2) hx hb d_Pa_match_20 (by decide) ?_
    refine lv_iload_n hx hb d_Pa_match_21 rfl (lv_at hl 0 rfl) ?_
    refine lv_imul hx hb d_Pa_match_22 ?_
    refine lv_iconst (v := 1) hx hb d_Pa_match_23 (by decide) ?_
    refine lv_isub hx hb d_Pa_match_24 ?_
    exact jJ1 (((2 : Int32) * (1 <<< ((sCount y) &&& 31))) - 1) ls vc (lv_sub hl [1, 2, 3, 0] rfl)
  · have vc := vc.2 h
    refine lv_iconst (v := 1) hx hb d_Pa_match_16 (by decide) ?_
    refine lv_goto (tgt := 25) hx hb d_Pa_match_17 (by decide) ?_
    exact jJ1 1 ls vc (lv_sub hl [1, 2, 3, 0] rfl)
theorem h_Pa_match (l : Launch) (D : va_G) (a : Nat → Nat) (cI cJ cZ : ClassId) (pn : Nat → Int32) (pl : Nat → Int32) (po : Nat → Int32) (pf : Nat → Int32) (pt : Nat → Int32) (x : Int32) (y : Int32) (r : Int32) (hr : narrow .boolean (.int r) = .int r) (vc : V_Pa_match pn pl po pf pt x y (fun v => v = r)) : Pm l y_Pa_match b_Pa_match 7 (some .boolean) 1 25 [.ref (a 6), .int x, .int y] (wB D (tyA cI cJ cZ) (wP a cI cZ pn pl po pf pt)) (.int r) :=
  pm_i (by decide) hr (Nat.le_of_ble_eq_true rfl) (fun p e s m below meth c ls Q S hB hl hret => g_Pa_match S (Nat.le_refl _) (Nat.le_refl _) ⟨Nat.le_refl _, Nat.le_refl _⟩ D a cI cJ cZ pn pl po pf pt x y hB.2 hB.1 hl vc hret)
theorem c_Pa_match (l : Launch) (D : va_G) (a : Nat → Nat) (cI cJ cZ : ClassId) (pn : Nat → Int32) (pl : Nat → Int32) (po : Nat → Int32) (pf : Nat → Int32) (pt : Nat → Int32) (x : Int32) (y : Int32) (hpre : (vp_in x 8 ∧ (∃ n : Nat, n ≤ 6 ∧ pn x.toNatClampNeg = nI n) ∧ ∃ n : Nat, n < 2 ^ 31 ∧ y = nI n ∧ told 8 n = true)) : Pm l y_Pa_match b_Pa_match 7 (some .boolean) 1 25 [.ref (a 6), .int x, .int y] (wB D (tyA cI cJ cZ) (wP a cI cZ pn pl po pf pt)) (.int (bI (sMatch pn pl po pf pt x.toNatClampNeg y.toNatClampNeg))) := h_Pa_match l D a cI cJ cZ pn pl po pf pt x y _ (bI_nar _) (by
  unfold V_Pa_match
  obtain ⟨hx, ⟨n, hn, en⟩, t, ht, rfl, hto⟩ := hpre
  obtain ⟨q, hq, rfl, hcq⟩ := vp_nat hx (by decide)
  rw [hcq] at en
  have hc : sCount (nI t) = nI (sTextLen 8 t) := by simp [sCount, nI_pos ht, nI_toInt ht]
  have htl : ∃ n : Nat, n < 2 ^ 31 ∧ nI t = nI n ∧ told 8 n = true := ⟨t, ht, rfl, hto⟩
  simp only [hcq, hc, nI_clamp ht]
  unfold sMatch
  simp only [en, nI_clamp (show n < 2 ^ 31 by omega)]
  generalize hen : (1 : Int32) <<< (nI (sTextLen 8 t) &&& 31) = E0
  refine ⟨hx, ?_⟩
  refine jn_t (c := pf q = 0) ?_
  generalize (if pf q = 0 then 2 * E0 - 1 else 1) = x0
  refine ⟨fun z i => ∃ k, k ≤ n ∧ i = nI k ∧ z = sMat pl po q t (sTextLen 8 t) x0 k, fun _ i => n - i.toInt.toNat, ⟨0, Nat.zero_le _, rfl, rfl⟩, ?_⟩
  rintro z i ⟨k, hk, rfl, rfl⟩
  refine ⟨hx, fun h => ?_, fun h => ?_⟩
  · obtain rfl := fill_end (N := n) h (by omega) hk
    refine ⟨hx, fun h2 => ?_, fun h2 => ?_⟩
    · rw [if_pos h2]
      exact ⟨fun h3 => by simp [h3, bI], fun h3 => by simp [h3, bI]⟩
    · rw [if_neg h2]
      exact ⟨fun h3 => by simp [h3, bI], fun h3 => by simp [h3, bI]⟩
  · have hk2 := fill_step (N := n) h (by omega) hk
    have i1 : nI q * 6 + nI k = nI (q * 6 + k) := by rw [nI_mulR, nI_add]
    rw [i1, nI_clamp (by omega)]
    have hi : vp_in (nI (q * 6 + k)) 48 := vp_in_nI (by omega) (by decide)
    exact ⟨hi, htl, hi, ⟨k + 1, hk2, nI_1 k, rfl⟩, fill_mu hk2 (by omega)⟩)
theorem hd_Pa_match : y_Pa_match.cls ≠ "java/lang/invoke/MethodHandle" ∧ y_Pa_match.cls ≠ "java/lang/invoke/VarHandle" ∧ (parseMethodDescriptor y_Pa_match.desc).map (fun d => d.parameters.length) = some 2 := ⟨by decide, by decide, by decide +kernel⟩
