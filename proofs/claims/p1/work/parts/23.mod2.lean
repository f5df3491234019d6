theorem told_lt : ∀ k n : Nat, 5 ^ k ≤ n → told k n = false := by
  intro k
  induction k with
  | zero => intro n h; simp at h; simp [told]; omega
  | succ k ih =>
    intro n h
    have h0 : n ≠ 0 := by have : 0 < 5 ^ (k + 1) := Nat.pow_pos (by decide); omega
    simp only [told, h0, if_false]
    split
    · rfl
    · exact ih _ (by rw [Nat.pow_succ] at h; omega)
def V_Mo_isText (mki : Nat → Int32) (msz : Nat → Int64) (mle : Nat → Int32) (mel : Nat → Int32) (mme : Nat → Int32) (mal : Nat → Int32) (mic : Nat → Int32) (mil : Nat → Int32) (mio : Nat → Int32) (mab : Nat → Int32) (mae : Nat → Int32) (msa : Nat → Int32) (mlc : Nat → Int32) (mli : Nat → Int32) (mna : Nat → Int32) (mva : Nat → Int32) (mma : Nat → Int32) (mch : Nat → Int32) (mre : Nat → Int32) (mlv : Nat → Int32) (mwr : Nat → Int64) (msh : Nat → Int32) (mth : Int32) (mnv : Int32) (mns : Int32) (mfa : Int32) (mmo : Int32) (t : Int32) (post : Int32 → Prop) : Prop :=
  (∃ J1 : Int32 → Prop, ((t < 0 → J1 0) ∧ (¬ t < 0 → ((390625 ≤ t → J1 0) ∧ (¬ 390625 ≤ t → J1 1)))) ∧ (∀ (x3 : Int32), J1 x3 → (∃ (I7 : Int32 → Int32 → Prop) (mI7 : Int32 → Int32 → Nat), I7 x3 t ∧ (∀ (x5 : Int32) (x6 : Int32), I7 x5 x6 → ((x6 ≤ 0 → post x5) ∧ (¬ x6 ≤ 0 → ((x5 = 0 → (I7 0 (x6 / 5) ∧ mI7 0 (x6 / 5) < mI7 x5 x6)) ∧ (¬ x5 = 0 → (((x6 - x6 / 5 * 5) = 0 → (I7 0 (x6 / 5) ∧ mI7 0 (x6 / 5) < mI7 x5 x6)) ∧ (¬ (x6 - x6 / 5 * 5) = 0 → (I7 1 (x6 / 5) ∧ mI7 1 (x6 / 5) < mI7 x5 x6)))))))))))
set_option maxHeartbeats 4000000 in
set_option maxRecDepth 100000 in
theorem g_Mo_isText {p : Program} {l : Launch} {e : Env} {R : Room} {s : State} {m : MethodId} {args : Array Value} {below : List Frame} {meth : Method} {c : Code} {H : Heap} {locs : List Loc} {cells slots : Nat} {Q : State → Prop} {ls : Array Slot} (S : CallFix p m c b_Mo_isText 4 s args W0 R_Mo) (hRf : 0 ≤ R.frames) (hRl : 0 ≤ R.locals) (hRc : cells ≤ R.cells ∧ slots ≤ R.slots) (D : va_G) (b : Nat → Nat) (cI cJ cZ : ClassId) (mki : Nat → Int32) (msz : Nat → Int64) (mle : Nat → Int32) (mel : Nat → Int32) (mme : Nat → Int32) (mal : Nat → Int32) (mic : Nat → Int32) (mil : Nat → Int32) (mio : Nat → Int32) (mab : Nat → Int32) (mae : Nat → Int32) (msa : Nat → Int32) (mlc : Nat → Int32) (mli : Nat → Int32) (mna : Nat → Int32) (mva : Nat → Int32) (mma : Nat → Int32) (mch : Nat → Int32) (mre : Nat → Int32) (mlv : Nat → Int32) (mwr : Nat → Int64) (msh : Nat → Int32) (mth : Int32) (mnv : Int32) (mns : Int32) (mfa : Int32) (mmo : Int32) (t : Int32) (hK : va_K D vwCl (tyA cI cJ cZ) s) (hP : va_P D vwCl (wM b cI cJ cZ mki msz mle mel mme mal mic mil mio mab mae msa mlc mli mna mva mma mch mre mlv mwr msh mth mnv mns mfa mmo) H) (hl : lv_has ls 4 [(0, .ref (b 0)), (1, .int t)]) {post : Int32 → Prop} (vc : V_Mo_isText mki msz mle mel mme mal mic mil mio mab mae msa mlc mli mna mva mma mch mre mlv mwr msh mth mnv mns mfa mmo t post)
    (hret : ∀ (v : Int32) (ls : Array Slot) (pc : Nat), decode b_Mo_isText pc = .ok (.ireturn, 1) → post v → W p l e R s m args below meth c H locs cells slots Q (F0 m pc ls [.int v])) : W p l e R s m args below meth c H locs cells slots Q (F0 m 0 ls []) := by
  have hx := S.1
  have hb := S.2.1
  have hown := S.2.2.2.1
  have hts := S.2.2.2.2
  unfold V_Mo_isText at vc
  refine lv_iload_n hx hb d_Mo_isText_0 rfl (lv_at hl 1 rfl) ?_
  obtain ⟨J1, vc, vc2⟩ := vc
  have jJ1 : ∀ (x3 : Int32) (ls : Array Slot), J1 x3 → lv_has ls 4 [(0, .ref (b 0)), (1, .int t)] → W p l e R s m args below meth c H locs cells slots Q (F0 m 15 ls [.int x3]) := by
    intro x3 ls vc hl
    have vc := vc2 x3 vc
    refine lv_istore_n hx hb d_Mo_isText_15 rfl hl (by decide) (lv' := [(2, .int x3), (0, .ref (b 0)), (1, .int t)]) rfl (fun ls hl => ?_)
    refine lv_iload_n hx hb d_Mo_isText_16 rfl (lv_at hl 2 rfl) ?_
    refine lv_istore_n hx hb d_Mo_isText_17 rfl hl (by decide) (lv' := [(3, .int t), (2, .int x3), (0, .ref (b 0)), (1, .int t)]) rfl (fun ls hl => ?_)
    obtain ⟨I7, mI7, vc0, vcs⟩ := vc
    have lI7 : ∀ n : Nat, ∀ (x5 : Int32) (x6 : Int32) (ls : Array Slot), I7 x5 x6 → mI7 x5 x6 < n → lv_has ls 4 [(0, .ref (b 0)), (1, .int t), (2, .int x5), (3, .int x6)] → W p l e R s m args below meth c H locs cells slots Q (F0 m 18 ls []) := by
      intro n
      induction n with
      | zero => intro x5 x6 ls _ h; exact absurd h (Nat.not_lt_zero _)
      | succ n ihI7 =>
        intro x5 x6 ls vc hmI7 hl
        have vc := vcs x5 x6 vc
        refine lv_iload_n hx hb d_Mo_isText_18 rfl (lv_at hl 3 rfl) ?_
        refine lv_if_le (tgt := 45) hx hb d_Mo_isText_19 (by decide) (fun h => ?_) (fun h => ?_)
        · have vc := vc.1 h
          refine lv_iload_n hx hb d_Mo_isText_45 rfl (lv_at hl 2 rfl) ?_
          exact hret _ ls _ d_Mo_isText_46 vc
        · have vc := vc.2 h
          refine lv_iload_n hx hb d_Mo_isText_22 rfl (lv_at hl 2 rfl) ?_
          refine lv_if_eq (tgt := 36) hx hb d_Mo_isText_23 (by decide) (fun h => ?_) (fun h => ?_)
          · have vc := vc.1 h
            refine lv_iconst (v := 0) hx hb d_Mo_isText_36 (by decide) ?_
            refine lv_istore_n hx hb d_Mo_isText_37 rfl hl (by decide) (lv' := [(2, .int 0), (0, .ref (b 0)), (1, .int t), (3, .int x6)]) rfl (fun ls hl => ?_)
            refine lv_iload_n hx hb d_Mo_isText_38 rfl (lv_at hl 3 rfl) ?_
            refine lv_iconst (v := 5) hx hb d_Mo_isText_39 (by decide) ?_
            refine lv_idiv hx hb d_Mo_isText_40 (by decide) ?_
            refine lv_istore_n hx hb d_Mo_isText_41 rfl hl (by decide) (lv' := [(3, .int (x6 / 5)), (2, .int 0), (0, .ref (b 0)), (1, .int t)]) rfl (fun ls hl => ?_)
            refine lv_goto (tgt := 18) hx hb d_Mo_isText_42 (by decide) ?_
            exact ihI7 0 (x6 / 5) ls vc.1 (Nat.lt_of_lt_of_le vc.2 (Nat.le_of_lt_succ hmI7)) (lv_sub hl [2, 3, 1, 0] rfl)
          · have vc := vc.2 h
            refine lv_iload_n hx hb d_Mo_isText_26 rfl (lv_at hl 3 rfl) ?_
            refine lv_iconst (v := 5) hx hb d_Mo_isText_27 (by decide) ?_
            refine lv_irem hx hb d_Mo_isText_28 (by decide) ?_
            refine lv_if_eq (tgt := 36) hx hb d_Mo_isText_29 (by decide) (fun h => ?_) (fun h => ?_)
            · have vc := vc.1 h
              refine lv_iconst (v := 0) hx hb d_Mo_isText_36 (by decide) ?_
              refine lv_istore_n hx hb d_Mo_isText_37 rfl hl (by decide) (lv' := [(2, .int 0), (0, .ref (b 0)), (1, .int t), (3, .int x6)]) rfl (fun ls hl => ?_)
              refine lv_iload_n hx hb d_Mo_isText_38 rfl (lv_at hl 3 rfl) ?_
              refine lv_iconst (v := 5) hx hb d_Mo_isText_39 (by decide) ?_
              refine lv_idiv hx hb d_Mo_isText_40 (by decide) ?_
              refine lv_istore_n hx hb d_Mo_isText_41 rfl hl (by decide) (lv' := [(3, .int (x6 / 5)), (2, .int 0), (0, .ref (b 0)), (1, .int t)]) rfl (fun ls hl => ?_)
              refine lv_goto (tgt := 18) hx hb d_Mo_isText_42 (by decide) ?_
              exact ihI7 0 (x6 / 5) ls vc.1 (Nat.lt_of_lt_of_le vc.2 (Nat.le_of_lt_succ hmI7)) (lv_sub hl [2, 3, 1, 0] rfl)
            · have vc := vc.2 h
              refine lv_iconst (v := 1) hx hb d_Mo_isText_32 (by decide) ?_
              refine lv_goto (tgt := 37) hx hb d_Mo_isText_33 (by decide) ?_
              refine lv_istore_n hx hb d_Mo_isText_37 rfl hl (by decide) (lv' := [(2, .int 1), (0, .ref (b 0)), (1, .int t), (3, .int x6)]) rfl (fun ls hl => ?_)
              refine lv_iload_n hx hb d_Mo_isText_38 rfl (lv_at hl 3 rfl) ?_
              refine lv_iconst (v := 5) hx hb d_Mo_isText_39 (by decide) ?_
              refine lv_idiv hx hb d_Mo_isText_40 (by decide) ?_
              refine lv_istore_n hx hb d_Mo_isText_41 rfl hl (by decide) (lv' := [(3, .int (x6 / 5)), (2, .int 1), (0, .ref (b 0)), (1, .int t)]) rfl (fun ls hl => ?_)
              refine lv_goto (tgt := 18) hx hb d_Mo_isText_42 (by decide) ?_
              exact ihI7 1 (x6 / 5) ls vc.1 (Nat.lt_of_lt_of_le vc.2 (Nat.le_of_lt_succ hmI7)) (lv_sub hl [2, 3, 1, 0] rfl)
    exact lI7 _ x3 t ls vc0 (Nat.lt_succ_self _) (lv_sub hl [2, 3, 1, 0] rfl)
  clear vc2
  refine lv_if_lt (tgt := 14) hx hb d_Mo_isText_1 (by decide) (fun h => ?_) (fun h => ?_)
  · have vc := vc.1 h
    refine lv_iconst (v := 0) hx hb d_Mo_isText_14 (by decide) ?_
    exact jJ1 0 ls vc (lv_sub hl [0, 1] rfl)
  · have vc := vc.2 h
    refine lv_iload_n hx hb d_Mo_isText_4 rfl (lv_at hl 1 rfl) ?_
    refine lv_ldc hx hb hown (hts _ co_Mo_96) d_Mo_isText_5 ?_
    refine lv_icmp_ge (tgt := 14) hx hb d_Mo_isText_7 (by decide) (fun h => ?_) (fun h => ?_)
    · have vc := vc.1 h
      refine lv_iconst (v := 0) hx hb d_Mo_isText_14 (by decide) ?_
      exact jJ1 0 ls vc (lv_sub hl [0, 1] rfl)
    · have vc := vc.2 h
      refine lv_iconst (v := 1) hx hb d_Mo_isText_10 (by decide) ?_
      refine lv_goto (tgt := 15) hx hb d_Mo_isText_11 (by decide) ?_
      exact jJ1 1 ls vc (lv_sub hl [0, 1] rfl)
theorem h_Mo_isText (l : Launch) (D : va_G) (b : Nat → Nat) (cI cJ cZ : ClassId) (mki : Nat → Int32) (msz : Nat → Int64) (mle : Nat → Int32) (mel : Nat → Int32) (mme : Nat → Int32) (mal : Nat → Int32) (mic : Nat → Int32) (mil : Nat → Int32) (mio : Nat → Int32) (mab : Nat → Int32) (mae : Nat → Int32) (msa : Nat → Int32) (mlc : Nat → Int32) (mli : Nat → Int32) (mna : Nat → Int32) (mva : Nat → Int32) (mma : Nat → Int32) (mch : Nat → Int32) (mre : Nat → Int32) (mlv : Nat → Int32) (mwr : Nat → Int64) (msh : Nat → Int32) (mth : Int32) (mnv : Int32) (mns : Int32) (mfa : Int32) (mmo : Int32) (t : Int32) (r : Int32) (hr : narrow .boolean (.int r) = .int r) (vc : V_Mo_isText mki msz mle mel mme mal mic mil mio mab mae msa mlc mli mna mva mma mch mre mlv mwr msh mth mnv mns mfa mmo t (fun v => v = r)) : Pm l y_Mo_isText b_Mo_isText 4 (some .boolean) 0 0 [.ref (b 0), .int t] (wB D (tyA cI cJ cZ) (wM b cI cJ cZ mki msz mle mel mme mal mic mil mio mab mae msa mlc mli mna mva mma mch mre mlv mwr msh mth mnv mns mfa mmo)) (.int r) :=
  pm_i (by decide) hr (Nat.le_of_ble_eq_true rfl) (fun p e s m below meth c ls Q S hB hl hret => g_Mo_isText S (Nat.le_refl _) (Nat.le_refl _) ⟨Nat.le_refl _, Nat.le_refl _⟩ D b cI cJ cZ mki msz mle mel mme mal mic mil mio mab mae msa mlc mli mna mva mma mch mre mlv mwr msh mth mnv mns mfa mmo t hB.2 hB.1 hl vc hret)
theorem c_Mo_isText (l : Launch) (D : va_G) (b : Nat → Nat) (cI cJ cZ : ClassId) (mki : Nat → Int32) (msz : Nat → Int64) (mle : Nat → Int32) (mel : Nat → Int32) (mme : Nat → Int32) (mal : Nat → Int32) (mic : Nat → Int32) (mil : Nat → Int32) (mio : Nat → Int32) (mab : Nat → Int32) (mae : Nat → Int32) (msa : Nat → Int32) (mlc : Nat → Int32) (mli : Nat → Int32) (mna : Nat → Int32) (mva : Nat → Int32) (mma : Nat → Int32) (mch : Nat → Int32) (mre : Nat → Int32) (mlv : Nat → Int32) (mwr : Nat → Int64) (msh : Nat → Int32) (mth : Int32) (mnv : Int32) (mns : Int32) (mfa : Int32) (mmo : Int32) (t : Int32) : Pm l y_Mo_isText b_Mo_isText 4 (some .boolean) 0 0 [.ref (b 0), .int t] (wB D (tyA cI cJ cZ) (wM b cI cJ cZ mki msz mle mel mme mal mic mil mio mab mae msa mlc mli mna mva mma mch mre mlv mwr msh mth mnv mns mfa mmo)) (.int (bI (sText t))) := h_Mo_isText l D b cI cJ cZ mki msz mle mel mme mal mic mil mio mab mae msa mlc mli mna mva mma mch mre mlv mwr msh mth mnv mns mfa mmo t _ (bI_nar _) (by
  unfold V_Mo_isText
  refine ⟨fun y => y = bI (decide (¬ t < 0 ∧ t < 390625)), ⟨fun h => by simp [h, bI], fun h => ⟨fun h2 => ?_, fun h2 => ?_⟩⟩, fun y hy => ?_⟩
  · simp [bI, h]; exact h2
  · simp [bI, h]; exact Int32.not_le.mp h2
  · subst hy
    refine ⟨fun b x => (x < 0 ∧ b = bI false ∧ sText t = false) ∨ ∃ n : Nat, n < 2 ^ 31 ∧ x = nI n ∧ ((b = bI false ∧ sText t = false) ∨ (b = bI true ∧ ∃ k, n < 5 ^ k ∧ sText t = told k n)), fun _ x => x.toInt.toNat, ?_, ?_⟩
    · by_cases h : t < 0
      · exact Or.inl ⟨h, by simp [h], by simp [sText, h]⟩
      · obtain ⟨n, hn, rfl⟩ := of_i h
        refine Or.inr ⟨n, hn, rfl, ?_⟩
        by_cases h2 : nI n < 390625
        · have : n < 390625 := (nI_ltI (b := 390625) hn (by decide)).mp h2
          exact Or.inr ⟨by simp [h, h2], 8, by simpa using this, sText_n hn⟩
        · have : ¬ n < 390625 := mt (nI_ltI (b := 390625) hn (by decide)).mpr h2
          exact Or.inl ⟨by simp [h2], by rw [sText_n hn]; exact told_lt 8 n (by simp; omega)⟩
    · intro b x hI
      refine ⟨fun h => ?_, fun h => ?_⟩
      · rcases hI with ⟨h1, rfl, e⟩ | ⟨n, hn, rfl, ⟨rfl, e⟩ | ⟨rfl, k, hk, e⟩⟩
        · rw [e]
        · rw [e]
        · have : n = 0 := (nI_le0 hn).mp h
          subst this
          rw [e, told_0]
      · rcases hI with ⟨h1, rfl, e⟩ | ⟨n, hn, rfl, hb⟩
        · exact absurd (Int32.le_of_lt h1) h
        · have hn0 : n ≠ 0 := fun h0 => h ((nI_le0 hn).mpr h0)
          have hd : n / 5 < 2 ^ 31 := by omega
          have mu : (nI n / 5).toInt.toNat < (nI n).toInt.toNat := by rw [div5 hn, nI_toInt hd, nI_toInt hn]; omega
          rw [rem5 hn]
          rcases hb with ⟨rfl, e⟩ | ⟨rfl, k, hk, e⟩
          · refine ⟨fun h2 => ⟨Or.inr ⟨n / 5, hd, div5 hn, Or.inl ⟨rfl, e⟩⟩, mu⟩, fun h2 => absurd rfl h2⟩
          · refine ⟨fun h2 => absurd h2 (by decide), fun h2 => ⟨fun h3 => ⟨Or.inr ⟨n / 5, hd, div5 hn, Or.inl ⟨rfl, ?_⟩⟩, mu⟩, fun h3 => ⟨Or.inr ⟨n / 5, hd, div5 hn, Or.inr ⟨rfl, k - 1, ?_, ?_⟩⟩, mu⟩⟩⟩
            · have h5 : n % 5 = 0 := (nI_eq0 (by omega)).mp h3
              obtain ⟨k, rfl⟩ : ∃ k', k = k' + 1 := ⟨k - 1, by cases k with | zero => simp at hk; omega | succ k => simp⟩
              rw [e]; simp [told, hn0, h5]
            · obtain ⟨k, rfl⟩ : ∃ k', k = k' + 1 := ⟨k - 1, by cases k with | zero => simp at hk; omega | succ k => simp⟩
              rw [Nat.pow_succ] at hk; simp; omega
            · have h5 : n % 5 ≠ 0 := fun h5 => h3 ((nI_eq0 (by omega)).mpr h5)
              obtain ⟨k, rfl⟩ : ∃ k', k = k' + 1 := ⟨k - 1, by cases k with | zero => simp at hk; omega | succ k => simp⟩
              rw [e]; simp [told, hn0, h5])
theorem hd_Mo_isText : y_Mo_isText.cls ≠ "java/lang/invoke/MethodHandle" ∧ y_Mo_isText.cls ≠ "java/lang/invoke/VarHandle" ∧ (parseMethodDescriptor y_Mo_isText.desc).map (fun d => d.parameters.length) = some 1 := ⟨by decide, by decide, by decide +kernel⟩
def V_Mo_text (mki : Nat → Int32) (msz : Nat → Int64) (mle : Nat → Int32) (mel : Nat → Int32) (mme : Nat → Int32) (mal : Nat → Int32) (mic : Nat → Int32) (mil : Nat → Int32) (mio : Nat → Int32) (mab : Nat → Int32) (mae : Nat → Int32) (msa : Nat → Int32) (mlc : Nat → Int32) (mli : Nat → Int32) (mna : Nat → Int32) (mva : Nat → Int32) (mma : Nat → Int32) (mch : Nat → Int32) (mre : Nat → Int32) (mlv : Nat → Int32) (mwr : Nat → Int64) (msh : Nat → Int32) (mth : Int32) (mnv : Int32) (mns : Int32) (mfa : Int32) (mmo : Int32) (t : Int32) (post : Int32 → (Nat → Int32) → (Nat → Int64) → (Nat → Int32) → (Nat → Int32) → (Nat → Int32) → (Nat → Int32) → (Nat → Int32) → (Nat → Int32) → (Nat → Int32) → (Nat → Int32) → (Nat → Int32) → (Nat → Int32) → (Nat → Int32) → (Nat → Int32) → (Nat → Int32) → (Nat → Int32) → (Nat → Int32) → (Nat → Int32) → (Nat → Int32) → (Nat → Int32) → (Nat → Int64) → (Nat → Int32) → Int32 → Int32 → Int32 → Int32 → Int32 → Prop) : Prop :=
  (((bI (sText t)) = 0 → post 0 mki msz mle mel mme mal mic mil mio mab mae msa mlc mli mna mva mma mch mre mlv mwr msh 1 mnv mns mfa mmo) ∧ (¬ (bI (sText t)) = 0 → ((¬ mnv < 0 ∧ mnv ≤ 40) ∧ ((mnv = 40 → post 0 mki msz mle mel mme mal mic mil mio mab mae msa mlc mli mna mva mma mch mre mlv mwr msh 2 mnv mns mfa mmo) ∧ (¬ (mnv = 40) → post (mnv + 1 - 1) (upd mki mnv.toNatClampNeg 3) (vp_updL msz mnv.toNatClampNeg t.toInt64) mle mel mme mal mic mil mio mab mae msa mlc mli mna mva mma mch mre mlv mwr msh 0 (mnv + 1) mns mfa mmo)))))
set_option maxHeartbeats 4000000 in
set_option maxRecDepth 100000 in
theorem g_Mo_text {p : Program} {l : Launch} {e : Env} {R : Room} {s : State} {m : MethodId} {args : Array Value} {below : List Frame} {meth : Method} {c : Code} {H : Heap} {locs : List Loc} {cells slots : Nat} {Q : State → Prop} {ls : Array Slot} {A : Nat → Prop} (S : CallFix p m c b_Mo_text 2 s args W0 R_Mo) (hRf : 2 ≤ R.frames) (hRl : 47 ≤ R.locals) (hRc : cells ≤ R.cells ∧ slots ≤ R.slots) (D : va_G) (b : Nat → Nat) (cI cJ cZ : ClassId) (mki : Nat → Int32) (msz : Nat → Int64) (mle : Nat → Int32) (mel : Nat → Int32) (mme : Nat → Int32) (mal : Nat → Int32) (mic : Nat → Int32) (mil : Nat → Int32) (mio : Nat → Int32) (mab : Nat → Int32) (mae : Nat → Int32) (msa : Nat → Int32) (mlc : Nat → Int32) (mli : Nat → Int32) (mna : Nat → Int32) (mva : Nat → Int32) (mma : Nat → Int32) (mch : Nat → Int32) (mre : Nat → Int32) (mlv : Nat → Int32) (mwr : Nat → Int64) (msh : Nat → Int32) (mth : Int32) (mnv : Int32) (mns : Int32) (mfa : Int32) (mmo : Int32) (t : Int32) (hK : va_K D vwCl (tyA cI cJ cZ) s) (hP : va_P D vwCl (wM b cI cJ cZ mki msz mle mel mme mal mic mil mio mab mae msa mlc mli mna mva mma mch mre mlv mwr msh mth mnv mns mfa mmo) H) (hD : va_D A (wM b cI cJ cZ mki msz mle mel mme mal mic mil mio mab mae msa mlc mli mna mva mma mch mre mlv mwr msh mth mnv mns mfa mmo)) (hA : ∀ q, s.heap.size ≤ q → A q) (hS : va_S A s.heap H locs) (hl : lv_has ls 2 [(0, .ref (b 0)), (1, .int t)]) {post : Int32 → (Nat → Int32) → (Nat → Int64) → (Nat → Int32) → (Nat → Int32) → (Nat → Int32) → (Nat → Int32) → (Nat → Int32) → (Nat → Int32) → (Nat → Int32) → (Nat → Int32) → (Nat → Int32) → (Nat → Int32) → (Nat → Int32) → (Nat → Int32) → (Nat → Int32) → (Nat → Int32) → (Nat → Int32) → (Nat → Int32) → (Nat → Int32) → (Nat → Int32) → (Nat → Int64) → (Nat → Int32) → Int32 → Int32 → Int32 → Int32 → Int32 → Prop} (vc : V_Mo_text mki msz mle mel mme mal mic mil mio mab mae msa mlc mli mna mva mma mch mre mlv mwr msh mth mnv mns mfa mmo t post)
    (hret : ∀ (v : Int32) (mki : Nat → Int32) (msz : Nat → Int64) (mle : Nat → Int32) (mel : Nat → Int32) (mme : Nat → Int32) (mal : Nat → Int32) (mic : Nat → Int32) (mil : Nat → Int32) (mio : Nat → Int32) (mab : Nat → Int32) (mae : Nat → Int32) (msa : Nat → Int32) (mlc : Nat → Int32) (mli : Nat → Int32) (mna : Nat → Int32) (mva : Nat → Int32) (mma : Nat → Int32) (mch : Nat → Int32) (mre : Nat → Int32) (mlv : Nat → Int32) (mwr : Nat → Int64) (msh : Nat → Int32) (mth : Int32) (mnv : Int32) (mns : Int32) (mfa : Int32) (mmo : Int32) (ls : Array Slot) (pc : Nat) (H : Heap) (locs : List Loc), decode b_Mo_text pc = .ok (.ireturn, 1) → post v mki msz mle mel mme mal mic mil mio mab mae msa mlc mli mna mva mma mch mre mlv mwr msh mth mnv mns mfa mmo → va_P D vwCl (wM b cI cJ cZ mki msz mle mel mme mal mic mil mio mab mae msa mlc mli mna mva mma mch mre mlv mwr msh mth mnv mns mfa mmo) H → va_D A (wM b cI cJ cZ mki msz mle mel mme mal mic mil mio mab mae msa mlc mli mna mva mma mch mre mlv mwr msh mth mnv mns mfa mmo) → va_S A s.heap H locs → W p l e R s m args below meth c H locs cells slots Q (F0 m pc ls [.int v])) : W p l e R s m args below meth c H locs cells slots Q (F0 m 0 ls []) := by
  have hx := S.1
  have hb := S.2.1
  have hown := S.2.2.2.1
  have hts := S.2.2.2.2
  unfold V_Mo_text at vc
  refine lv_aload_n hx hb d_Mo_text_0 rfl (lv_at hl 0 rfl) ?_
  refine lv_aload_n hx hb d_Mo_text_1 rfl (lv_at hl 0 rfl) ?_
  refine lv_iload_n hx hb d_Mo_text_2 rfl (lv_at hl 1 rfl) ?_
  refine pc_V (As := [.int t]) (rest := [.ref (b 0)]) S (c_Mo_isText l D b cI cJ cZ mki msz mle mel mme mal mic mil mio mab mae msa mlc mli mna mva mma mch mre mlv mwr msh mth mnv mns mfa mmo t) wB_blind k_Mo_isText i_Mo_isText e_Mo_isText o_Mo ml_Mo_97 hd_Mo_isText (Nat.le_trans (by decide) hRf) (Nat.le_trans (by decide) hRl) hRc (va_recv hK hP (q0 := 0) (ci := 6) rfl rfl) (wB_at hP hK) hl.1 rfl (Nat.le_of_ble_eq_true rfl) d_Mo_text_3 ?_
  refine lv_if_eq (tgt := 13) hx hb d_Mo_text_6 (by decide) (fun h => ?_) (fun h => ?_)
  · have vc := vc.1 h
    refine lv_iconst (v := 1) hx hb d_Mo_text_13 (by decide) ?_
    refine va_put (D := D) (ci := 6) (v := .int 1) (ty := .int) (C := R_Mo) (T := F_Mo) (N := 27) hx hb hts in_Mo t_Mo t_Mo_ok n_Mo hown hK hP hD hS 0 rfl rfl 0 (by decide) (hts _ fl_Mo_78) (fun _ h => h) rfl (by decide +kernel) rfl rfl (Nat.le_of_ble_eq_true rfl) d_Mo_text_14 (fun H locs hP hD hS => ?_)
    have hP : va_P D vwCl (wM b cI cJ cZ mki msz mle mel mme mal mic mil mio mab mae msa mlc mli mna mva mma mch mre mlv mwr msh 1 mnv mns mfa mmo) H := hP
    have hD : va_D A (wM b cI cJ cZ mki msz mle mel mme mal mic mil mio mab mae msa mlc mli mna mva mma mch mre mlv mwr msh 1 mnv mns mfa mmo) := hD
    refine lv_aload_n hx hb d_Mo_text_17 rfl (lv_at hl 0 rfl) ?_
    refine va_get (D := D) (ci := 6) (v := .int 1) (C := R_Mo) (T := F_Mo) (N := 27) hx hb hts in_Mo hown hK hP 0 rfl rfl 0 (by decide) (hts _ fl_Mo_78) (fun _ h => h) rfl d_Mo_text_18 ?_
    refine lv_if_eq (tgt := 28) hx hb d_Mo_text_21 (by decide) (fun h => ?_) (fun h => ?_)
    · exact absurd h (by decide)
    · skip
      refine lv_iconst (v := 0) hx hb d_Mo_text_24 (by decide) ?_
      refine lv_goto (tgt := 35) hx hb d_Mo_text_25 (by decide) ?_
      exact hret _ _ _ _ _ _ _ _ _ _ _ _ _ _ _ _ _ _ _ _ _ _ _ _ _ _ _ _ ls _ H locs d_Mo_text_35 vc hP hD hS
  · have vc := vc.2 h
    refine lv_iconst (v := 0) hx hb d_Mo_text_9 (by decide) ?_
    refine lv_goto (tgt := 14) hx hb d_Mo_text_10 (by decide) ?_
    refine va_put (D := D) (ci := 6) (v := .int 0) (ty := .int) (C := R_Mo) (T := F_Mo) (N := 27) hx hb hts in_Mo t_Mo t_Mo_ok n_Mo hown hK hP hD hS 0 rfl rfl 0 (by decide) (hts _ fl_Mo_78) (fun _ h => h) rfl (by decide +kernel) rfl rfl (Nat.le_of_ble_eq_true rfl) d_Mo_text_14 (fun H locs hP hD hS => ?_)
    have hP : va_P D vwCl (wM b cI cJ cZ mki msz mle mel mme mal mic mil mio mab mae msa mlc mli mna mva mma mch mre mlv mwr msh 0 mnv mns mfa mmo) H := hP
    have hD : va_D A (wM b cI cJ cZ mki msz mle mel mme mal mic mil mio mab mae msa mlc mli mna mva mma mch mre mlv mwr msh 0 mnv mns mfa mmo) := hD
    refine lv_aload_n hx hb d_Mo_text_17 rfl (lv_at hl 0 rfl) ?_
    refine va_get (D := D) (ci := 6) (v := .int 0) (C := R_Mo) (T := F_Mo) (N := 27) hx hb hts in_Mo hown hK hP 0 rfl rfl 0 (by decide) (hts _ fl_Mo_78) (fun _ h => h) rfl d_Mo_text_18 ?_
    refine lv_if_eq (tgt := 28) hx hb d_Mo_text_21 (by decide) (fun h => ?_) (fun h => ?_)
    · skip
      refine lv_aload_n hx hb d_Mo_text_28 rfl (lv_at hl 0 rfl) ?_
      refine lv_iconst (v := 3) hx hb d_Mo_text_29 (by decide) ?_
      refine lv_iload_n hx hb d_Mo_text_30 rfl (lv_at hl 1 rfl) ?_
      refine lv_i2l hx hb d_Mo_text_31 rfl ?_
      obtain ⟨hpre, vc⟩ := vc
      by_cases hv1 : mnv = 40
      · have vc := vc.1 hv1
        refine wc_V (As := [.int 3, .long t.toInt64]) (rest := []) (wr := ([] : va_W)) S (c_Mo_made_1 l D b cI cJ cZ mki msz mle mel mme mal mic mil mio mab mae msa mlc mli mna mva mma mch mre mlv mwr msh 0 mnv mns mfa mmo 3 t.toInt64 hpre hv1) k_Mo_made i_Mo_made e_Mo_made o_Mo ml_Mo_89 hd_Mo_made (Nat.le_trans (by decide) hRf) (Nat.le_trans (by decide) hRl) hRc (va_recv hK hP (q0 := 0) (ci := 6) rfl rfl) hK hP hD hS hA [0, 1, 2, 3, 4, 5, 6, 7, 8, 9, 10, 11, 12, 13, 14, 15, 16, 17, 18, 19, 20, 21, 22] [] rfl rfl rfl (by decide) (by decide) (by decide) hl.1 rfl (Nat.le_of_ble_eq_true rfl) d_Mo_text_32 (fun _ H locs _ hP hD hS => ?_)
        have hP : va_P D vwCl (wM b cI cJ cZ mki msz mle mel mme mal mic mil mio mab mae msa mlc mli mna mva mma mch mre mlv mwr msh 2 mnv mns mfa mmo) H := hP
        have hD : va_D A (wM b cI cJ cZ mki msz mle mel mme mal mic mil mio mab mae msa mlc mli mna mva mma mch mre mlv mwr msh 2 mnv mns mfa mmo) := hD
        exact hret _ _ _ _ _ _ _ _ _ _ _ _ _ _ _ _ _ _ _ _ _ _ _ _ _ _ _ _ ls _ H locs d_Mo_text_35 vc hP hD hS
      · have vc := vc.2 hv1
        refine wc_V (As := [.int 3, .long t.toInt64]) (rest := []) (wr := ([] : va_W)) S (c_Mo_made_2 l D b cI cJ cZ mki msz mle mel mme mal mic mil mio mab mae msa mlc mli mna mva mma mch mre mlv mwr msh 0 mnv mns mfa mmo 3 t.toInt64 hpre hv1) k_Mo_made i_Mo_made e_Mo_made o_Mo ml_Mo_89 hd_Mo_made (Nat.le_trans (by decide) hRf) (Nat.le_trans (by decide) hRl) hRc (va_recv hK hP (q0 := 0) (ci := 6) rfl rfl) hK hP hD hS hA [0, 1, 2, 3, 4, 5, 6, 7, 8, 9, 10, 11, 12, 13, 14, 15, 16, 17, 18, 19, 20, 21, 22] [] rfl rfl rfl (by decide) (by decide) (by decide) hl.1 rfl (Nat.le_of_ble_eq_true rfl) d_Mo_text_32 (fun _ H locs _ hP hD hS => ?_)
        have hP : va_P D vwCl (wM b cI cJ cZ (upd mki mnv.toNatClampNeg 3) (vp_updL msz mnv.toNatClampNeg t.toInt64) mle mel mme mal mic mil mio mab mae msa mlc mli mna mva mma mch mre mlv mwr msh 0 (mnv + 1) mns mfa mmo) H := hP
        have hD : va_D A (wM b cI cJ cZ (upd mki mnv.toNatClampNeg 3) (vp_updL msz mnv.toNatClampNeg t.toInt64) mle mel mme mal mic mil mio mab mae msa mlc mli mna mva mma mch mre mlv mwr msh 0 (mnv + 1) mns mfa mmo) := hD
        exact hret _ _ _ _ _ _ _ _ _ _ _ _ _ _ _ _ _ _ _ _ _ _ _ _ _ _ _ _ ls _ H locs d_Mo_text_35 vc hP hD hS
    · exact absurd h (by decide)
theorem h_Mo_text (l : Launch) (D : va_G) (b : Nat → Nat) (cI cJ cZ : ClassId) (mki : Nat → Int32) (msz : Nat → Int64) (mle : Nat → Int32) (mel : Nat → Int32) (mme : Nat → Int32) (mal : Nat → Int32) (mic : Nat → Int32) (mil : Nat → Int32) (mio : Nat → Int32) (mab : Nat → Int32) (mae : Nat → Int32) (msa : Nat → Int32) (mlc : Nat → Int32) (mli : Nat → Int32) (mna : Nat → Int32) (mva : Nat → Int32) (mma : Nat → Int32) (mch : Nat → Int32) (mre : Nat → Int32) (mlv : Nat → Int32) (mwr : Nat → Int64) (msh : Nat → Int32) (mth : Int32) (mnv : Int32) (mns : Int32) (mfa : Int32) (mmo : Int32) (t : Int32) (r : Int32) (mki' : Nat → Int32) (msz' : Nat → Int64) (mle' : Nat → Int32) (mel' : Nat → Int32) (mme' : Nat → Int32) (mal' : Nat → Int32) (mic' : Nat → Int32) (mil' : Nat → Int32) (mio' : Nat → Int32) (mab' : Nat → Int32) (mae' : Nat → Int32) (msa' : Nat → Int32) (mlc' : Nat → Int32) (mli' : Nat → Int32) (mna' : Nat → Int32) (mva' : Nat → Int32) (mma' : Nat → Int32) (mch' : Nat → Int32) (mre' : Nat → Int32) (mlv' : Nat → Int32) (mwr' : Nat → Int64) (msh' : Nat → Int32) (mth' : Int32) (mnv' : Int32) (mns' : Int32) (mfa' : Int32) (mmo' : Int32) (vc : V_Mo_text mki msz mle mel mme mal mic mil mio mab mae msa mlc mli mna mva mma mch mre mlv mwr msh mth mnv mns mfa mmo t (fun v mki msz mle mel mme mal mic mil mio mab mae msa mlc mli mna mva mma mch mre mlv mwr msh mth mnv mns mfa mmo => v = r ∧ mki = mki' ∧ msz = msz' ∧ mle = mle' ∧ mel = mel' ∧ mme = mme' ∧ mal = mal' ∧ mic = mic' ∧ mil = mil' ∧ mio = mio' ∧ mab = mab' ∧ mae = mae' ∧ msa = msa' ∧ mlc = mlc' ∧ mli = mli' ∧ mna = mna' ∧ mva = mva' ∧ mma = mma' ∧ mch = mch' ∧ mre = mre' ∧ mlv = mlv' ∧ mwr = mwr' ∧ msh = msh' ∧ mth = mth' ∧ mnv = mnv' ∧ mns = mns' ∧ mfa = mfa' ∧ mmo = mmo')) : Wm (S := Unit) l y_Mo_text b_Mo_text 2 (some .int) 2 47 [.ref (b 0), .int t] D (tyA cI cJ cZ) (wM b cI cJ cZ mki msz mle mel mme mal mic mil mio mab mae msa mlc mli mna mva mma mch mre mlv mwr msh mth mnv mns mfa mmo) (fun _ => True) (fun _ => some (.int r)) (fun _ => (wM b cI cJ cZ mki' msz' mle' mel' mme' mal' mic' mil' mio' mab' mae' msa' mlc' mli' mna' mva' mma' mch' mre' mlv' mwr' msh' mth' mnv' mns' mfa' mmo')) :=
  wm_i (by decide) (fun _ _ => rfl) (Nat.le_of_ble_eq_true rfl) (fun p e s m below meth c ls Q A S hK hP hD hA hS hl hret => g_Mo_text S (Nat.le_refl _) (Nat.le_refl _) ⟨Nat.le_refl _, Nat.le_refl _⟩ D b cI cJ cZ mki msz mle mel mme mal mic mil mio mab mae msa mlc mli mna mva mma mch mre mlv mwr msh mth mnv mns mfa mmo t hK hP hD hA hS hl vc (fun v mki msz mle mel mme mal mic mil mio mab mae msa mlc mli mna mva mma mch mre mlv mwr msh mth mnv mns mfa mmo ls pc H locs hd hv hP hD hS => by obtain ⟨rfl, rfl, rfl, rfl, rfl, rfl, rfl, rfl, rfl, rfl, rfl, rfl, rfl, rfl, rfl, rfl, rfl, rfl, rfl, rfl, rfl, rfl, rfl, rfl, rfl, rfl, rfl, rfl⟩ := hv; exact hret () _ ls pc H locs hd trivial rfl hP hD hS))
theorem c_Mo_text_1 (l : Launch) (D : va_G) (b : Nat → Nat) (cI cJ cZ : ClassId) (mki : Nat → Int32) (msz : Nat → Int64) (mle : Nat → Int32) (mel : Nat → Int32) (mme : Nat → Int32) (mal : Nat → Int32) (mic : Nat → Int32) (mil : Nat → Int32) (mio : Nat → Int32) (mab : Nat → Int32) (mae : Nat → Int32) (msa : Nat → Int32) (mlc : Nat → Int32) (mli : Nat → Int32) (mna : Nat → Int32) (mva : Nat → Int32) (mma : Nat → Int32) (mch : Nat → Int32) (mre : Nat → Int32) (mlv : Nat → Int32) (mwr : Nat → Int64) (msh : Nat → Int32) (mth : Int32) (mnv : Int32) (mns : Int32) (mfa : Int32) (mmo : Int32) (t : Int32) (hpre : (¬ mnv < 0 ∧ mnv ≤ 40)) (hv1 : ¬ sText t = true) : Wm (S := Unit) l y_Mo_text b_Mo_text 2 (some .int) 2 47 [.ref (b 0), .int t] D (tyA cI cJ cZ) (wM b cI cJ cZ mki msz mle mel mme mal mic mil mio mab mae msa mlc mli mna mva mma mch mre mlv mwr msh mth mnv mns mfa mmo) (fun _ => True) (fun _ => some (.int 0)) (fun _ => (wM b cI cJ cZ mki msz mle mel mme mal mic mil mio mab mae msa mlc mli mna mva mma mch mre mlv mwr msh 1 mnv mns mfa mmo)) := h_Mo_text l D b cI cJ cZ mki msz mle mel mme mal mic mil mio mab mae msa mlc mli mna mva mma mch mre mlv mwr msh mth mnv mns mfa mmo t 0 mki msz mle mel mme mal mic mil mio mab mae msa mlc mli mna mva mma mch mre mlv mwr msh 1 mnv mns mfa mmo (by
  unfold V_Mo_text
  repeat' (first | apply br_c | apply br_d | apply pre_and hpre | intro _)
  all_goals (first | (simp_all [add_sub1, bI]; done) | skip))
theorem c_Mo_text_2 (l : Launch) (D : va_G) (b : Nat → Nat) (cI cJ cZ : ClassId) (mki : Nat → Int32) (msz : Nat → Int64) (mle : Nat → Int32) (mel : Nat → Int32) (mme : Nat → Int32) (mal : Nat → Int32) (mic : Nat → Int32) (mil : Nat → Int32) (mio : Nat → Int32) (mab : Nat → Int32) (mae : Nat → Int32) (msa : Nat → Int32) (mlc : Nat → Int32) (mli : Nat → Int32) (mna : Nat → Int32) (mva : Nat → Int32) (mma : Nat → Int32) (mch : Nat → Int32) (mre : Nat → Int32) (mlv : Nat → Int32) (mwr : Nat → Int64) (msh : Nat → Int32) (mth : Int32) (mnv : Int32) (mns : Int32) (mfa : Int32) (mmo : Int32) (t : Int32) (hpre : (¬ mnv < 0 ∧ mnv ≤ 40)) (hv1 : ¬ (¬ sText t = true)) (hv2 : mnv = 40) : Wm (S := Unit) l y_Mo_text b_Mo_text 2 (some .int) 2 47 [.ref (b 0), .int t] D (tyA cI cJ cZ) (wM b cI cJ cZ mki msz mle mel mme mal mic mil mio mab mae msa mlc mli mna mva mma mch mre mlv mwr msh mth mnv mns mfa mmo) (fun _ => True) (fun _ => some (.int 0)) (fun _ => (wM b cI cJ cZ mki msz mle mel mme mal mic mil mio mab mae msa mlc mli mna mva mma mch mre mlv mwr msh 2 mnv mns mfa mmo)) := h_Mo_text l D b cI cJ cZ mki msz mle mel mme mal mic mil mio mab mae msa mlc mli mna mva mma mch mre mlv mwr msh mth mnv mns mfa mmo t 0 mki msz mle mel mme mal mic mil mio mab mae msa mlc mli mna mva mma mch mre mlv mwr msh 2 mnv mns mfa mmo (by
  unfold V_Mo_text
  repeat' (first | apply br_c | apply br_d | apply pre_and hpre | intro _)
  all_goals (first | (simp_all [add_sub1, bI]; done) | skip))
theorem c_Mo_text_3 (l : Launch) (D : va_G) (b : Nat → Nat) (cI cJ cZ : ClassId) (mki : Nat → Int32) (msz : Nat → Int64) (mle : Nat → Int32) (mel : Nat → Int32) (mme : Nat → Int32) (mal : Nat → Int32) (mic : Nat → Int32) (mil : Nat → Int32) (mio : Nat → Int32) (mab : Nat → Int32) (mae : Nat → Int32) (msa : Nat → Int32) (mlc : Nat → Int32) (mli : Nat → Int32) (mna : Nat → Int32) (mva : Nat → Int32) (mma : Nat → Int32) (mch : Nat → Int32) (mre : Nat → Int32) (mlv : Nat → Int32) (mwr : Nat → Int64) (msh : Nat → Int32) (mth : Int32) (mnv : Int32) (mns : Int32) (mfa : Int32) (mmo : Int32) (t : Int32) (hpre : (¬ mnv < 0 ∧ mnv ≤ 40)) (hv1 : ¬ (¬ sText t = true)) (hv2 : ¬ (mnv = 40)) : Wm (S := Unit) l y_Mo_text b_Mo_text 2 (some .int) 2 47 [.ref (b 0), .int t] D (tyA cI cJ cZ) (wM b cI cJ cZ mki msz mle mel mme mal mic mil mio mab mae msa mlc mli mna mva mma mch mre mlv mwr msh mth mnv mns mfa mmo) (fun _ => True) (fun _ => some (.int (mnv + 1 - 1))) (fun _ => (wM b cI cJ cZ (upd mki mnv.toNatClampNeg 3) (vp_updL msz mnv.toNatClampNeg t.toInt64) mle mel mme mal mic mil mio mab mae msa mlc mli mna mva mma mch mre mlv mwr msh 0 (mnv + 1) mns mfa mmo)) := h_Mo_text l D b cI cJ cZ mki msz mle mel mme mal mic mil mio mab mae msa mlc mli mna mva mma mch mre mlv mwr msh mth mnv mns mfa mmo t (mnv + 1 - 1) (upd mki mnv.toNatClampNeg 3) (vp_updL msz mnv.toNatClampNeg t.toInt64) mle mel mme mal mic mil mio mab mae msa mlc mli mna mva mma mch mre mlv mwr msh 0 (mnv + 1) mns mfa mmo (by
  unfold V_Mo_text
  repeat' (first | apply br_c | apply br_d | apply pre_and hpre | intro _)
  all_goals (first | (simp_all [add_sub1, bI]; done) | skip))
theorem hd_Mo_text : y_Mo_text.cls ≠ "java/lang/invoke/MethodHandle" ∧ y_Mo_text.cls ≠ "java/lang/invoke/VarHandle" ∧ (parseMethodDescriptor y_Mo_text.desc).map (fun d => d.parameters.length) = some 1 := ⟨by decide, by decide, by decide +kernel⟩
def V_Mo_noValue (mki : Nat → Int32) (msz : Nat → Int64) (mle : Nat → Int32) (mel : Nat → Int32) (mme : Nat → Int32) (mal : Nat → Int32) (mic : Nat → Int32) (mil : Nat → Int32) (mio : Nat → Int32) (mab : Nat → Int32) (mae : Nat → Int32) (msa : Nat → Int32) (mlc : Nat → Int32) (mli : Nat → Int32) (mna : Nat → Int32) (mva : Nat → Int32) (mma : Nat → Int32) (mch : Nat → Int32) (mre : Nat → Int32) (mlv : Nat → Int32) (mwr : Nat → Int64) (msh : Nat → Int32) (mth : Int32) (mnv : Int32) (mns : Int32) (mfa : Int32) (mmo : Int32) (x : Int32) (post : Int32 → Prop) : Prop :=
  ((x < 0 → post 1) ∧ (¬ x < 0 → ((x < mnv → post 0) ∧ (¬ x < mnv → post 1))))
set_option maxHeartbeats 4000000 in
set_option maxRecDepth 100000 in
theorem g_Mo_noValue {p : Program} {l : Launch} {e : Env} {R : Room} {s : State} {m : MethodId} {args : Array Value} {below : List Frame} {meth : Method} {c : Code} {H : Heap} {locs : List Loc} {cells slots : Nat} {Q : State → Prop} {ls : Array Slot} (S : CallFix p m c b_Mo_noValue 2 s args W0 R_Mo) (hRf : 0 ≤ R.frames) (hRl : 0 ≤ R.locals) (hRc : cells ≤ R.cells ∧ slots ≤ R.slots) (D : va_G) (b : Nat → Nat) (cI cJ cZ : ClassId) (mki : Nat → Int32) (msz : Nat → Int64) (mle : Nat → Int32) (mel : Nat → Int32) (mme : Nat → Int32) (mal : Nat → Int32) (mic : Nat → Int32) (mil : Nat → Int32) (mio : Nat → Int32) (mab : Nat → Int32) (mae : Nat → Int32) (msa : Nat → Int32) (mlc : Nat → Int32) (mli : Nat → Int32) (mna : Nat → Int32) (mva : Nat → Int32) (mma : Nat → Int32) (mch : Nat → Int32) (mre : Nat → Int32) (mlv : Nat → Int32) (mwr : Nat → Int64) (msh : Nat → Int32) (mth : Int32) (mnv : Int32) (mns : Int32) (mfa : Int32) (mmo : Int32) (x : Int32) (hK : va_K D vwCl (tyA cI cJ cZ) s) (hP : va_P D vwCl (wM b cI cJ cZ mki msz mle mel mme mal mic mil mio mab mae msa mlc mli mna mva mma mch mre mlv mwr msh mth mnv mns mfa mmo) H) (hl : lv_has ls 2 [(0, .ref (b 0)), (1, .int x)]) {post : Int32 → Prop} (vc : V_Mo_noValue mki msz mle mel mme mal mic mil mio mab mae msa mlc mli mna mva mma mch mre mlv mwr msh mth mnv mns mfa mmo x post)
    (hret : ∀ (v : Int32) (ls : Array Slot) (pc : Nat), decode b_Mo_noValue pc = .ok (.ireturn, 1) → post v → W p l e R s m args below meth c H locs cells slots Q (F0 m pc ls [.int v])) : W p l e R s m args below meth c H locs cells slots Q (F0 m 0 ls []) := by
  have hx := S.1
  have hb := S.2.1
  have hown := S.2.2.2.1
  have hts := S.2.2.2.2
  unfold V_Mo_noValue at vc
  refine lv_iload_n hx hb d_Mo_noValue_0 rfl (lv_at hl 1 rfl) ?_
  refine lv_if_lt (tgt := 12) hx hb d_Mo_noValue_1 (by decide) (fun h => ?_) (fun h => ?_)
  · have vc := vc.1 h
    refine lv_iconst (v := 1) hx hb d_Mo_noValue_12 (by decide) ?_
    refine lv_goto (tgt := 17) hx hb d_Mo_noValue_13 (by decide) ?_
    exact hret _ ls _ d_Mo_noValue_17 vc
  · have vc := vc.2 h
    refine lv_iload_n hx hb d_Mo_noValue_4 rfl (lv_at hl 1 rfl) ?_
    refine lv_aload_n hx hb d_Mo_noValue_5 rfl (lv_at hl 0 rfl) ?_
    refine va_get (D := D) (ci := 6) (v := .int mnv) (C := R_Mo) (T := F_Mo) (N := 27) hx hb hts in_Mo hown hK hP 0 rfl rfl 1 (by decide) (hts _ fl_Mo_82) (fun _ h => h) rfl d_Mo_noValue_6 ?_
    refine lv_icmp_lt (tgt := 16) hx hb d_Mo_noValue_9 (by decide) (fun h => ?_) (fun h => ?_)
    · have vc := vc.1 h
      refine lv_iconst (v := 0) hx hb d_Mo_noValue_16 (by decide) ?_
      exact hret _ ls _ d_Mo_noValue_17 vc
    · have vc := vc.2 h
      refine lv_iconst (v := 1) hx hb d_Mo_noValue_12 (by decide) ?_
      refine lv_goto (tgt := 17) hx hb d_Mo_noValue_13 (by decide) ?_
      exact hret _ ls _ d_Mo_noValue_17 vc
theorem h_Mo_noValue (l : Launch) (D : va_G) (b : Nat → Nat) (cI cJ cZ : ClassId) (mki : Nat → Int32) (msz : Nat → Int64) (mle : Nat → Int32) (mel : Nat → Int32) (mme : Nat → Int32) (mal : Nat → Int32) (mic : Nat → Int32) (mil : Nat → Int32) (mio : Nat → Int32) (mab : Nat → Int32) (mae : Nat → Int32) (msa : Nat → Int32) (mlc : Nat → Int32) (mli : Nat → Int32) (mna : Nat → Int32) (mva : Nat → Int32) (mma : Nat → Int32) (mch : Nat → Int32) (mre : Nat → Int32) (mlv : Nat → Int32) (mwr : Nat → Int64) (msh : Nat → Int32) (mth : Int32) (mnv : Int32) (mns : Int32) (mfa : Int32) (mmo : Int32) (x : Int32) (r : Int32) (hr : narrow .boolean (.int r) = .int r) (vc : V_Mo_noValue mki msz mle mel mme mal mic mil mio mab mae msa mlc mli mna mva mma mch mre mlv mwr msh mth mnv mns mfa mmo x (fun v => v = r)) : Pm l y_Mo_noValue b_Mo_noValue 2 (some .boolean) 0 0 [.ref (b 0), .int x] (wB D (tyA cI cJ cZ) (wM b cI cJ cZ mki msz mle mel mme mal mic mil mio mab mae msa mlc mli mna mva mma mch mre mlv mwr msh mth mnv mns mfa mmo)) (.int r) :=
  pm_i (by decide) hr (Nat.le_of_ble_eq_true rfl) (fun p e s m below meth c ls Q S hB hl hret => g_Mo_noValue S (Nat.le_refl _) (Nat.le_refl _) ⟨Nat.le_refl _, Nat.le_refl _⟩ D b cI cJ cZ mki msz mle mel mme mal mic mil mio mab mae msa mlc mli mna mva mma mch mre mlv mwr msh mth mnv mns mfa mmo x hB.2 hB.1 hl vc hret)
theorem c_Mo_noValue (l : Launch) (D : va_G) (b : Nat → Nat) (cI cJ cZ : ClassId) (mki : Nat → Int32) (msz : Nat → Int64) (mle : Nat → Int32) (mel : Nat → Int32) (mme : Nat → Int32) (mal : Nat → Int32) (mic : Nat → Int32) (mil : Nat → Int32) (mio : Nat → Int32) (mab : Nat → Int32) (mae : Nat → Int32) (msa : Nat → Int32) (mlc : Nat → Int32) (mli : Nat → Int32) (mna : Nat → Int32) (mva : Nat → Int32) (mma : Nat → Int32) (mch : Nat → Int32) (mre : Nat → Int32) (mlv : Nat → Int32) (mwr : Nat → Int64) (msh : Nat → Int32) (mth : Int32) (mnv : Int32) (mns : Int32) (mfa : Int32) (mmo : Int32) (x : Int32) : Pm l y_Mo_noValue b_Mo_noValue 2 (some .boolean) 0 0 [.ref (b 0), .int x] (wB D (tyA cI cJ cZ) (wM b cI cJ cZ mki msz mle mel mme mal mic mil mio mab mae msa mlc mli mna mva mma mch mre mlv mwr msh mth mnv mns mfa mmo)) (.int (bI (!(sHas mnv x)))) := h_Mo_noValue l D b cI cJ cZ mki msz mle mel mme mal mic mil mio mab mae msa mlc mli mna mva mma mch mre mlv mwr msh mth mnv mns mfa mmo x _ (bI_nar _) (by
  unfold V_Mo_noValue
  refine ⟨fun h => ?_, fun h => ⟨fun h2 => ?_, fun h2 => ?_⟩⟩ <;> simp_all [bI, sHas])
theorem hd_Mo_noValue : y_Mo_noValue.cls ≠ "java/lang/invoke/MethodHandle" ∧ y_Mo_noValue.cls ≠ "java/lang/invoke/VarHandle" ∧ (parseMethodDescriptor y_Mo_noValue.desc).map (fun d => d.parameters.length) = some 1 := ⟨by decide, by decide, by decide +kernel⟩
def V_Mo_isKind (mki : Nat → Int32) (msz : Nat → Int64) (mle : Nat → Int32) (mel : Nat → Int32) (mme : Nat → Int32) (mal : Nat → Int32) (mic : Nat → Int32) (mil : Nat → Int32) (mio : Nat → Int32) (mab : Nat → Int32) (mae : Nat → Int32) (msa : Nat → Int32) (mlc : Nat → Int32) (mli : Nat → Int32) (mna : Nat → Int32) (mva : Nat → Int32) (mma : Nat → Int32) (mch : Nat → Int32) (mre : Nat → Int32) (mlv : Nat → Int32) (mwr : Nat → Int64) (msh : Nat → Int32) (mth : Int32) (mnv : Int32) (mns : Int32) (mfa : Int32) (mmo : Int32) (x : Int32) (k : Int32) (post : Int32 → Prop) : Prop :=
  ((¬ (bI (!(sHas mnv x))) = 0 → post 0) ∧ ((bI (!(sHas mnv x))) = 0 → (vp_in x 40 ∧ ((¬ (mki x.toNatClampNeg) = k → post 0) ∧ ((mki x.toNatClampNeg) = k → post 1)))))
set_option maxHeartbeats 4000000 in
set_option maxRecDepth 100000 in
theorem g_Mo_isKind {p : Program} {l : Launch} {e : Env} {R : Room} {s : State} {m : MethodId} {args : Array Value} {below : List Frame} {meth : Method} {c : Code} {H : Heap} {locs : List Loc} {cells slots : Nat} {Q : State → Prop} {ls : Array Slot} (S : CallFix p m c b_Mo_isKind 3 s args W0 R_Mo) (hRf : 1 ≤ R.frames) (hRl : 21 ≤ R.locals) (hRc : cells ≤ R.cells ∧ slots ≤ R.slots) (D : va_G) (b : Nat → Nat) (cI cJ cZ : ClassId) (mki : Nat → Int32) (msz : Nat → Int64) (mle : Nat → Int32) (mel : Nat → Int32) (mme : Nat → Int32) (mal : Nat → Int32) (mic : Nat → Int32) (mil : Nat → Int32) (mio : Nat → Int32) (mab : Nat → Int32) (mae : Nat → Int32) (msa : Nat → Int32) (mlc : Nat → Int32) (mli : Nat → Int32) (mna : Nat → Int32) (mva : Nat → Int32) (mma : Nat → Int32) (mch : Nat → Int32) (mre : Nat → Int32) (mlv : Nat → Int32) (mwr : Nat → Int64) (msh : Nat → Int32) (mth : Int32) (mnv : Int32) (mns : Int32) (mfa : Int32) (mmo : Int32) (x : Int32) (k : Int32) (hK : va_K D vwCl (tyA cI cJ cZ) s) (hP : va_P D vwCl (wM b cI cJ cZ mki msz mle mel mme mal mic mil mio mab mae msa mlc mli mna mva mma mch mre mlv mwr msh mth mnv mns mfa mmo) H) (hl : lv_has ls 3 [(0, .ref (b 0)), (1, .int x), (2, .int k)]) {post : Int32 → Prop} (vc : V_Mo_isKind mki msz mle mel mme mal mic mil mio mab mae msa mlc mli mna mva mma mch mre mlv mwr msh mth mnv mns mfa mmo x k post)
    (hret : ∀ (v : Int32) (ls : Array Slot) (pc : Nat), decode b_Mo_isKind pc = .ok (.ireturn, 1) → post v → W p l e R s m args below meth c H locs cells slots Q (F0 m pc ls [.int v])) : W p l e R s m args below meth c H locs cells slots Q (F0 m 0 ls []) := by
  have hx := S.1
  have hb := S.2.1
  have hown := S.2.2.2.1
  have hts := S.2.2.2.2
  unfold V_Mo_isKind at vc
  refine lv_aload_n hx hb d_Mo_isKind_0 rfl (lv_at hl 0 rfl) ?_
  refine lv_iload_n hx hb d_Mo_isKind_1 rfl (lv_at hl 1 rfl) ?_
  refine pc_V (As := [.int x]) (rest := []) S (c_Mo_noValue l D b cI cJ cZ mki msz mle mel mme mal mic mil mio mab mae msa mlc mli mna mva mma mch mre mlv mwr msh mth mnv mns mfa mmo x) wB_blind k_Mo_noValue i_Mo_noValue e_Mo_noValue o_Mo ml_Mo_101 hd_Mo_noValue (Nat.le_trans (by decide) hRf) (Nat.le_trans (by decide) hRl) hRc (va_recv hK hP (q0 := 0) (ci := 6) rfl rfl) (wB_at hP hK) hl.1 rfl (Nat.le_of_ble_eq_true rfl) d_Mo_isKind_2 ?_
  refine lv_if_ne (tgt := 22) hx hb d_Mo_isKind_5 (by decide) (fun h => ?_) (fun h => ?_)
  · have vc := vc.1 h
    refine lv_iconst (v := 0) hx hb d_Mo_isKind_22 (by decide) ?_
    exact hret _ ls _ d_Mo_isKind_23 vc
  · have vc := vc.2 h
    refine lv_aload_n hx hb d_Mo_isKind_8 rfl (lv_at hl 0 rfl) ?_
    refine va_get (D := D) (ci := 6) (v := .ref (b 1)) (C := R_Mo) (T := F_Mo) (N := 27) hx hb hts in_Mo hown hK hP 0 rfl rfl 2 (by decide) (hts _ fl_Mo_7) (fun _ h => h) rfl d_Mo_isKind_9 ?_
    refine lv_iload_n hx hb d_Mo_isKind_12 rfl (lv_at hl 1 rfl) ?_
    obtain ⟨vcb, vc⟩ := vc
    refine va_iald hx hb hK hP 1 0 rfl rfl vcb d_Mo_isKind_13 ?_
    refine lv_iload_n hx hb d_Mo_isKind_14 rfl (lv_at hl 2 rfl) ?_
    refine lv_icmp_ne (tgt := 22) hx hb d_Mo_isKind_15 (by decide) (fun h => ?_) (fun h => ?_)
    · have vc := vc.1 h
      refine lv_iconst (v := 0) hx hb d_Mo_isKind_22 (by decide) ?_
      exact hret _ ls _ d_Mo_isKind_23 vc
    · have vc := vc.2 h
      refine lv_iconst (v := 1) hx hb d_Mo_isKind_18 (by decide) ?_
      refine lv_goto (tgt := 23) hx hb d_Mo_isKind_19 (by decide) ?_
      exact hret _ ls _ d_Mo_isKind_23 vc
theorem h_Mo_isKind (l : Launch) (D : va_G) (b : Nat → Nat) (cI cJ cZ : ClassId) (mki : Nat → Int32) (msz : Nat → Int64) (mle : Nat → Int32) (mel : Nat → Int32) (mme : Nat → Int32) (mal : Nat → Int32) (mic : Nat → Int32) (mil : Nat → Int32) (mio : Nat → Int32) (mab : Nat → Int32) (mae : Nat → Int32) (msa : Nat → Int32) (mlc : Nat → Int32) (mli : Nat → Int32) (mna : Nat → Int32) (mva : Nat → Int32) (mma : Nat → Int32) (mch : Nat → Int32) (mre : Nat → Int32) (mlv : Nat → Int32) (mwr : Nat → Int64) (msh : Nat → Int32) (mth : Int32) (mnv : Int32) (mns : Int32) (mfa : Int32) (mmo : Int32) (x : Int32) (k : Int32) (r : Int32) (hr : narrow .boolean (.int r) = .int r) (vc : V_Mo_isKind mki msz mle mel mme mal mic mil mio mab mae msa mlc mli mna mva mma mch mre mlv mwr msh mth mnv mns mfa mmo x k (fun v => v = r)) : Pm l y_Mo_isKind b_Mo_isKind 3 (some .boolean) 1 21 [.ref (b 0), .int x, .int k] (wB D (tyA cI cJ cZ) (wM b cI cJ cZ mki msz mle mel mme mal mic mil mio mab mae msa mlc mli mna mva mma mch mre mlv mwr msh mth mnv mns mfa mmo)) (.int r) :=
  pm_i (by decide) hr (Nat.le_of_ble_eq_true rfl) (fun p e s m below meth c ls Q S hB hl hret => g_Mo_isKind S (Nat.le_refl _) (Nat.le_refl _) ⟨Nat.le_refl _, Nat.le_refl _⟩ D b cI cJ cZ mki msz mle mel mme mal mic mil mio mab mae msa mlc mli mna mva mma mch mre mlv mwr msh mth mnv mns mfa mmo x k hB.2 hB.1 hl vc hret)
theorem c_Mo_isKind (l : Launch) (D : va_G) (b : Nat → Nat) (cI cJ cZ : ClassId) (mki : Nat → Int32) (msz : Nat → Int64) (mle : Nat → Int32) (mel : Nat → Int32) (mme : Nat → Int32) (mal : Nat → Int32) (mic : Nat → Int32) (mil : Nat → Int32) (mio : Nat → Int32) (mab : Nat → Int32) (mae : Nat → Int32) (msa : Nat → Int32) (mlc : Nat → Int32) (mli : Nat → Int32) (mna : Nat → Int32) (mva : Nat → Int32) (mma : Nat → Int32) (mch : Nat → Int32) (mre : Nat → Int32) (mlv : Nat → Int32) (mwr : Nat → Int64) (msh : Nat → Int32) (mth : Int32) (mnv : Int32) (mns : Int32) (mfa : Int32) (mmo : Int32) (x : Int32) (k : Int32) (hpre : mnv ≤ 40) : Pm l y_Mo_isKind b_Mo_isKind 3 (some .boolean) 1 21 [.ref (b 0), .int x, .int k] (wB D (tyA cI cJ cZ) (wM b cI cJ cZ mki msz mle mel mme mal mic mil mio mab mae msa mlc mli mna mva mma mch mre mlv mwr msh mth mnv mns mfa mmo)) (.int (bI (sKind mki mnv x k))) := h_Mo_isKind l D b cI cJ cZ mki msz mle mel mme mal mic mil mio mab mae msa mlc mli mna mva mma mch mre mlv mwr msh mth mnv mns mfa mmo x k _ (bI_nar _) (by
  unfold V_Mo_isKind
  refine ⟨fun h => ?_, fun h => ⟨vp_has hpre (by simpa [bI] using h), fun h2 => ?_, fun h2 => ?_⟩⟩ <;> simp_all [bI, sKind])
theorem hd_Mo_isKind : y_Mo_isKind.cls ≠ "java/lang/invoke/MethodHandle" ∧ y_Mo_isKind.cls ≠ "java/lang/invoke/VarHandle" ∧ (parseMethodDescriptor y_Mo_isKind.desc).map (fun d => d.parameters.length) = some 2 := ⟨by decide, by decide, by decide +kernel⟩
def V_Mo_noName (mki : Nat → Int32) (msz : Nat → Int64) (mle : Nat → Int32) (mel : Nat → Int32) (mme : Nat → Int32) (mal : Nat → Int32) (mic : Nat → Int32) (mil : Nat → Int32) (mio : Nat → Int32) (mab : Nat → Int32) (mae : Nat → Int32) (msa : Nat → Int32) (mlc : Nat → Int32) (mli : Nat → Int32) (mna : Nat → Int32) (mva : Nat → Int32) (mma : Nat → Int32) (mch : Nat → Int32) (mre : Nat → Int32) (mlv : Nat → Int32) (mwr : Nat → Int64) (msh : Nat → Int32) (mth : Int32) (mnv : Int32) (mns : Int32) (mfa : Int32) (mmo : Int32) (x : Int32) (post : Int32 → Prop) : Prop :=
  ((x < 0 → post 1) ∧ (¬ x < 0 → ((x ≤ 11 → post 0) ∧ (¬ x ≤ 11 → post 1))))
set_option maxHeartbeats 4000000 in
set_option maxRecDepth 100000 in
theorem g_Mo_noName {p : Program} {l : Launch} {e : Env} {R : Room} {s : State} {m : MethodId} {args : Array Value} {below : List Frame} {meth : Method} {c : Code} {H : Heap} {locs : List Loc} {cells slots : Nat} {Q : State → Prop} {ls : Array Slot} (S : CallFix p m c b_Mo_noName 2 s args W0 R_Mo) (hRf : 0 ≤ R.frames) (hRl : 0 ≤ R.locals) (hRc : cells ≤ R.cells ∧ slots ≤ R.slots) (D : va_G) (b : Nat → Nat) (cI cJ cZ : ClassId) (mki : Nat → Int32) (msz : Nat → Int64) (mle : Nat → Int32) (mel : Nat → Int32) (mme : Nat → Int32) (mal : Nat → Int32) (mic : Nat → Int32) (mil : Nat → Int32) (mio : Nat → Int32) (mab : Nat → Int32) (mae : Nat → Int32) (msa : Nat → Int32) (mlc : Nat → Int32) (mli : Nat → Int32) (mna : Nat → Int32) (mva : Nat → Int32) (mma : Nat → Int32) (mch : Nat → Int32) (mre : Nat → Int32) (mlv : Nat → Int32) (mwr : Nat → Int64) (msh : Nat → Int32) (mth : Int32) (mnv : Int32) (mns : Int32) (mfa : Int32) (mmo : Int32) (x : Int32) (hK : va_K D vwCl (tyA cI cJ cZ) s) (hP : va_P D vwCl (wM b cI cJ cZ mki msz mle mel mme mal mic mil mio mab mae msa mlc mli mna mva mma mch mre mlv mwr msh mth mnv mns mfa mmo) H) (hl : lv_has ls 2 [(0, .ref (b 0)), (1, .int x)]) {post : Int32 → Prop} (vc : V_Mo_noName mki msz mle mel mme mal mic mil mio mab mae msa mlc mli mna mva mma mch mre mlv mwr msh mth mnv mns mfa mmo x post)
    (hret : ∀ (v : Int32) (ls : Array Slot) (pc : Nat), decode b_Mo_noName pc = .ok (.ireturn, 1) → post v → W p l e R s m args below meth c H locs cells slots Q (F0 m pc ls [.int v])) : W p l e R s m args below meth c H locs cells slots Q (F0 m 0 ls []) := by
  have hx := S.1
  have hb := S.2.1
  have hown := S.2.2.2.1
  have hts := S.2.2.2.2
  unfold V_Mo_noName at vc
  refine lv_iload_n hx hb d_Mo_noName_0 rfl (lv_at hl 1 rfl) ?_
  refine lv_if_lt (tgt := 10) hx hb d_Mo_noName_1 (by decide) (fun h => ?_) (fun h => ?_)
  · have vc := vc.1 h
    refine lv_iconst (v := 1) hx hb d_Mo_noName_10 (by decide) ?_
    refine lv_goto (tgt := 15) hx hb d_Mo_noName_11 (by decide) ?_
    exact hret _ ls _ d_Mo_noName_15 vc
  · have vc := vc.2 h
    refine lv_iload_n hx hb d_Mo_noName_4 rfl (lv_at hl 1 rfl) ?_
    refine lv_bipush (v := 11) hx hb d_Mo_noName_5 (by decide) ?_
    refine lv_icmp_le (tgt := 14) hx hb d_Mo_noName_7 (by decide) (fun h => ?_) (fun h => ?_)
    · have vc := vc.1 h
      refine lv_iconst (v := 0) hx hb d_Mo_noName_14 (by decide) ?_
      exact hret _ ls _ d_Mo_noName_15 vc
    · have vc := vc.2 h
      refine lv_iconst (v := 1) hx hb d_Mo_noName_10 (by decide) ?_
      refine lv_goto (tgt := 15) hx hb d_Mo_noName_11 (by decide) ?_
      exact hret _ ls _ d_Mo_noName_15 vc
theorem h_Mo_noName (l : Launch) (D : va_G) (b : Nat → Nat) (cI cJ cZ : ClassId) (mki : Nat → Int32) (msz : Nat → Int64) (mle : Nat → Int32) (mel : Nat → Int32) (mme : Nat → Int32) (mal : Nat → Int32) (mic : Nat → Int32) (mil : Nat → Int32) (mio : Nat → Int32) (mab : Nat → Int32) (mae : Nat → Int32) (msa : Nat → Int32) (mlc : Nat → Int32) (mli : Nat → Int32) (mna : Nat → Int32) (mva : Nat → Int32) (mma : Nat → Int32) (mch : Nat → Int32) (mre : Nat → Int32) (mlv : Nat → Int32) (mwr : Nat → Int64) (msh : Nat → Int32) (mth : Int32) (mnv : Int32) (mns : Int32) (mfa : Int32) (mmo : Int32) (x : Int32) (r : Int32) (hr : narrow .boolean (.int r) = .int r) (vc : V_Mo_noName mki msz mle mel mme mal mic mil mio mab mae msa mlc mli mna mva mma mch mre mlv mwr msh mth mnv mns mfa mmo x (fun v => v = r)) : Pm l y_Mo_noName b_Mo_noName 2 (some .boolean) 0 0 [.ref (b 0), .int x] (wB D (tyA cI cJ cZ) (wM b cI cJ cZ mki msz mle mel mme mal mic mil mio mab mae msa mlc mli mna mva mma mch mre mlv mwr msh mth mnv mns mfa mmo)) (.int r) :=
  pm_i (by decide) hr (Nat.le_of_ble_eq_true rfl) (fun p e s m below meth c ls Q S hB hl hret => g_Mo_noName S (Nat.le_refl _) (Nat.le_refl _) ⟨Nat.le_refl _, Nat.le_refl _⟩ D b cI cJ cZ mki msz mle mel mme mal mic mil mio mab mae msa mlc mli mna mva mma mch mre mlv mwr msh mth mnv mns mfa mmo x hB.2 hB.1 hl vc hret)
theorem c_Mo_noName (l : Launch) (D : va_G) (b : Nat → Nat) (cI cJ cZ : ClassId) (mki : Nat → Int32) (msz : Nat → Int64) (mle : Nat → Int32) (mel : Nat → Int32) (mme : Nat → Int32) (mal : Nat → Int32) (mic : Nat → Int32) (mil : Nat → Int32) (mio : Nat → Int32) (mab : Nat → Int32) (mae : Nat → Int32) (msa : Nat → Int32) (mlc : Nat → Int32) (mli : Nat → Int32) (mna : Nat → Int32) (mva : Nat → Int32) (mma : Nat → Int32) (mch : Nat → Int32) (mre : Nat → Int32) (mlv : Nat → Int32) (mwr : Nat → Int64) (msh : Nat → Int32) (mth : Int32) (mnv : Int32) (mns : Int32) (mfa : Int32) (mmo : Int32) (x : Int32) : Pm l y_Mo_noName b_Mo_noName 2 (some .boolean) 0 0 [.ref (b 0), .int x] (wB D (tyA cI cJ cZ) (wM b cI cJ cZ mki msz mle mel mme mal mic mil mio mab mae msa mlc mli mna mva mma mch mre mlv mwr msh mth mnv mns mfa mmo)) (.int (bI (!(sIn x 0 11)))) := h_Mo_noName l D b cI cJ cZ mki msz mle mel mme mal mic mil mio mab mae msa mlc mli mna mva mma mch mre mlv mwr msh mth mnv mns mfa mmo x _ (bI_nar _) (by
  unfold V_Mo_noName
  refine ⟨fun h => ?_, fun h => ⟨fun h2 => ?_, fun h2 => ?_⟩⟩ <;> simp_all [bI, sIn])
theorem hd_Mo_noName : y_Mo_noName.cls ≠ "java/lang/invoke/MethodHandle" ∧ y_Mo_noName.cls ≠ "java/lang/invoke/VarHandle" ∧ (parseMethodDescriptor y_Mo_noName.desc).map (fun d => d.parameters.length) = some 1 := ⟨by decide, by decide, by decide +kernel⟩
def V_Mo_noPattern (mki : Nat → Int32) (msz : Nat → Int64) (mle : Nat → Int32) (mel : Nat → Int32) (mme : Nat → Int32) (mal : Nat → Int32) (mic : Nat → Int32) (mil : Nat → Int32) (mio : Nat → Int32) (mab : Nat → Int32) (mae : Nat → Int32) (msa : Nat → Int32) (mlc : Nat → Int32) (mli : Nat → Int32) (mna : Nat → Int32) (mva : Nat → Int32) (mma : Nat → Int32) (mch : Nat → Int32) (mre : Nat → Int32) (mlv : Nat → Int32) (mwr : Nat → Int64) (msh : Nat → Int32) (mth : Int32) (mnv : Int32) (mns : Int32) (mfa : Int32) (mmo : Int32) (x : Int32) (post : Int32 → Prop) : Prop :=
  ((x < 0 → post 1) ∧ (¬ x < 0 → ((x ≤ 7 → post 0) ∧ (¬ x ≤ 7 → post 1))))
set_option maxHeartbeats 4000000 in
set_option maxRecDepth 100000 in
theorem g_Mo_noPattern {p : Program} {l : Launch} {e : Env} {R : Room} {s : State} {m : MethodId} {args : Array Value} {below : List Frame} {meth : Method} {c : Code} {H : Heap} {locs : List Loc} {cells slots : Nat} {Q : State → Prop} {ls : Array Slot} (S : CallFix p m c b_Mo_noPattern 2 s args W0 R_Mo) (hRf : 0 ≤ R.frames) (hRl : 0 ≤ R.locals) (hRc : cells ≤ R.cells ∧ slots ≤ R.slots) (D : va_G) (b : Nat → Nat) (cI cJ cZ : ClassId) (mki : Nat → Int32) (msz : Nat → Int64) (mle : Nat → Int32) (mel : Nat → Int32) (mme : Nat → Int32) (mal : Nat → Int32) (mic : Nat → Int32) (mil : Nat → Int32) (mio : Nat → Int32) (mab : Nat → Int32) (mae : Nat → Int32) (msa : Nat → Int32) (mlc : Nat → Int32) (mli : Nat → Int32) (mna : Nat → Int32) (mva : Nat → Int32) (mma : Nat → Int32) (mch : Nat → Int32) (mre : Nat → Int32) (mlv : Nat → Int32) (mwr : Nat → Int64) (msh : Nat → Int32) (mth : Int32) (mnv : Int32) (mns : Int32) (mfa : Int32) (mmo : Int32) (x : Int32) (hK : va_K D vwCl (tyA cI cJ cZ) s) (hP : va_P D vwCl (wM b cI cJ cZ mki msz mle mel mme mal mic mil mio mab mae msa mlc mli mna mva mma mch mre mlv mwr msh mth mnv mns mfa mmo) H) (hl : lv_has ls 2 [(0, .ref (b 0)), (1, .int x)]) {post : Int32 → Prop} (vc : V_Mo_noPattern mki msz mle mel mme mal mic mil mio mab mae msa mlc mli mna mva mma mch mre mlv mwr msh mth mnv mns mfa mmo x post)
    (hret : ∀ (v : Int32) (ls : Array Slot) (pc : Nat), decode b_Mo_noPattern pc = .ok (.ireturn, 1) → post v → W p l e R s m args below meth c H locs cells slots Q (F0 m pc ls [.int v])) : W p l e R s m args below meth c H locs cells slots Q (F0 m 0 ls []) := by
  have hx := S.1
  have hb := S.2.1
  have hown := S.2.2.2.1
  have hts := S.2.2.2.2
  unfold V_Mo_noPattern at vc
  refine lv_iload_n hx hb d_Mo_noPattern_0 rfl (lv_at hl 1 rfl) ?_
  refine lv_if_lt (tgt := 10) hx hb d_Mo_noPattern_1 (by decide) (fun h => ?_) (fun h => ?_)
  · have vc := vc.1 h
    refine lv_iconst (v := 1) hx hb d_Mo_noPattern_10 (by decide) ?_
    refine lv_goto (tgt := 15) hx hb d_Mo_noPattern_11 (by decide) ?_
    exact hret _ ls _ d_Mo_noPattern_15 vc
  · have vc := vc.2 h
    refine lv_iload_n hx hb d_Mo_noPattern_4 rfl (lv_at hl 1 rfl) ?_
    refine lv_bipush (v := 7) hx hb d_Mo_noPattern_5 (by decide) ?_
    refine lv_icmp_le (tgt := 14) hx hb d_Mo_noPattern_7 (by decide) (fun h => ?_) (fun h => ?_)
    · have vc := vc.1 h
      refine lv_iconst (v := 0) hx hb d_Mo_noPattern_14 (by decide) ?_
      exact hret _ ls _ d_Mo_noPattern_15 vc
    · have vc := vc.2 h
      refine lv_iconst (v := 1) hx hb d_Mo_noPattern_10 (by decide) ?_
      refine lv_goto (tgt := 15) hx hb d_Mo_noPattern_11 (by decide) ?_
      exact hret _ ls _ d_Mo_noPattern_15 vc
theorem h_Mo_noPattern (l : Launch) (D : va_G) (b : Nat → Nat) (cI cJ cZ : ClassId) (mki : Nat → Int32) (msz : Nat → Int64) (mle : Nat → Int32) (mel : Nat → Int32) (mme : Nat → Int32) (mal : Nat → Int32) (mic : Nat → Int32) (mil : Nat → Int32) (mio : Nat → Int32) (mab : Nat → Int32) (mae : Nat → Int32) (msa : Nat → Int32) (mlc : Nat → Int32) (mli : Nat → Int32) (mna : Nat → Int32) (mva : Nat → Int32) (mma : Nat → Int32) (mch : Nat → Int32) (mre : Nat → Int32) (mlv : Nat → Int32) (mwr : Nat → Int64) (msh : Nat → Int32) (mth : Int32) (mnv : Int32) (mns : Int32) (mfa : Int32) (mmo : Int32) (x : Int32) (r : Int32) (hr : narrow .boolean (.int r) = .int r) (vc : V_Mo_noPattern mki msz mle mel mme mal mic mil mio mab mae msa mlc mli mna mva mma mch mre mlv mwr msh mth mnv mns mfa mmo x (fun v => v = r)) : Pm l y_Mo_noPattern b_Mo_noPattern 2 (some .boolean) 0 0 [.ref (b 0), .int x] (wB D (tyA cI cJ cZ) (wM b cI cJ cZ mki msz mle mel mme mal mic mil mio mab mae msa mlc mli mna mva mma mch mre mlv mwr msh mth mnv mns mfa mmo)) (.int r) :=
  pm_i (by decide) hr (Nat.le_of_ble_eq_true rfl) (fun p e s m below meth c ls Q S hB hl hret => g_Mo_noPattern S (Nat.le_refl _) (Nat.le_refl _) ⟨Nat.le_refl _, Nat.le_refl _⟩ D b cI cJ cZ mki msz mle mel mme mal mic mil mio mab mae msa mlc mli mna mva mma mch mre mlv mwr msh mth mnv mns mfa mmo x hB.2 hB.1 hl vc hret)
theorem c_Mo_noPattern (l : Launch) (D : va_G) (b : Nat → Nat) (cI cJ cZ : ClassId) (mki : Nat → Int32) (msz : Nat → Int64) (mle : Nat → Int32) (mel : Nat → Int32) (mme : Nat → Int32) (mal : Nat → Int32) (mic : Nat → Int32) (mil : Nat → Int32) (mio : Nat → Int32) (mab : Nat → Int32) (mae : Nat → Int32) (msa : Nat → Int32) (mlc : Nat → Int32) (mli : Nat → Int32) (mna : Nat → Int32) (mva : Nat → Int32) (mma : Nat → Int32) (mch : Nat → Int32) (mre : Nat → Int32) (mlv : Nat → Int32) (mwr : Nat → Int64) (msh : Nat → Int32) (mth : Int32) (mnv : Int32) (mns : Int32) (mfa : Int32) (mmo : Int32) (x : Int32) : Pm l y_Mo_noPattern b_Mo_noPattern 2 (some .boolean) 0 0 [.ref (b 0), .int x] (wB D (tyA cI cJ cZ) (wM b cI cJ cZ mki msz mle mel mme mal mic mil mio mab mae msa mlc mli mna mva mma mch mre mlv mwr msh mth mnv mns mfa mmo)) (.int (bI (!(sIn x 0 7)))) := h_Mo_noPattern l D b cI cJ cZ mki msz mle mel mme mal mic mil mio mab mae msa mlc mli mna mva mma mch mre mlv mwr msh mth mnv mns mfa mmo x _ (bI_nar _) (by
  unfold V_Mo_noPattern
  refine ⟨fun h => ?_, fun h => ⟨fun h2 => ?_, fun h2 => ?_⟩⟩ <;> simp_all [bI, sIn])
theorem hd_Mo_noPattern : y_Mo_noPattern.cls ≠ "java/lang/invoke/MethodHandle" ∧ y_Mo_noPattern.cls ≠ "java/lang/invoke/VarHandle" ∧ (parseMethodDescriptor y_Mo_noPattern.desc).map (fun d => d.parameters.length) = some 1 := ⟨by decide, by decide, by decide +kernel⟩
def V_Mo_noSchema (mki : Nat → Int32) (msz : Nat → Int64) (mle : Nat → Int32) (mel : Nat → Int32) (mme : Nat → Int32) (mal : Nat → Int32) (mic : Nat → Int32) (mil : Nat → Int32) (mio : Nat → Int32) (mab : Nat → Int32) (mae : Nat → Int32) (msa : Nat → Int32) (mlc : Nat → Int32) (mli : Nat → Int32) (mna : Nat → Int32) (mva : Nat → Int32) (mma : Nat → Int32) (mch : Nat → Int32) (mre : Nat → Int32) (mlv : Nat → Int32) (mwr : Nat → Int64) (msh : Nat → Int32) (mth : Int32) (mnv : Int32) (mns : Int32) (mfa : Int32) (mmo : Int32) (x : Int32) (post : Int32 → Prop) : Prop :=
  ((x < 0 → post 1) ∧ (¬ x < 0 → ((x < mns → post 0) ∧ (¬ x < mns → post 1))))
set_option maxHeartbeats 4000000 in
set_option maxRecDepth 100000 in
theorem g_Mo_noSchema {p : Program} {l : Launch} {e : Env} {R : Room} {s : State} {m : MethodId} {args : Array Value} {below : List Frame} {meth : Method} {c : Code} {H : Heap} {locs : List Loc} {cells slots : Nat} {Q : State → Prop} {ls : Array Slot} (S : CallFix p m c b_Mo_noSchema 2 s args W0 R_Mo) (hRf : 0 ≤ R.frames) (hRl : 0 ≤ R.locals) (hRc : cells ≤ R.cells ∧ slots ≤ R.slots) (D : va_G) (b : Nat → Nat) (cI cJ cZ : ClassId) (mki : Nat → Int32) (msz : Nat → Int64) (mle : Nat → Int32) (mel : Nat → Int32) (mme : Nat → Int32) (mal : Nat → Int32) (mic : Nat → Int32) (mil : Nat → Int32) (mio : Nat → Int32) (mab : Nat → Int32) (mae : Nat → Int32) (msa : Nat → Int32) (mlc : Nat → Int32) (mli : Nat → Int32) (mna : Nat → Int32) (mva : Nat → Int32) (mma : Nat → Int32) (mch : Nat → Int32) (mre : Nat → Int32) (mlv : Nat → Int32) (mwr : Nat → Int64) (msh : Nat → Int32) (mth : Int32) (mnv : Int32) (mns : Int32) (mfa : Int32) (mmo : Int32) (x : Int32) (hK : va_K D vwCl (tyA cI cJ cZ) s) (hP : va_P D vwCl (wM b cI cJ cZ mki msz mle mel mme mal mic mil mio mab mae msa mlc mli mna mva mma mch mre mlv mwr msh mth mnv mns mfa mmo) H) (hl : lv_has ls 2 [(0, .ref (b 0)), (1, .int x)]) {post : Int32 → Prop} (vc : V_Mo_noSchema mki msz mle mel mme mal mic mil mio mab mae msa mlc mli mna mva mma mch mre mlv mwr msh mth mnv mns mfa mmo x post)
    (hret : ∀ (v : Int32) (ls : Array Slot) (pc : Nat), decode b_Mo_noSchema pc = .ok (.ireturn, 1) → post v → W p l e R s m args below meth c H locs cells slots Q (F0 m pc ls [.int v])) : W p l e R s m args below meth c H locs cells slots Q (F0 m 0 ls []) := by
  have hx := S.1
  have hb := S.2.1
  have hown := S.2.2.2.1
  have hts := S.2.2.2.2
  unfold V_Mo_noSchema at vc
  refine lv_iload_n hx hb d_Mo_noSchema_0 rfl (lv_at hl 1 rfl) ?_
  refine lv_if_lt (tgt := 12) hx hb d_Mo_noSchema_1 (by decide) (fun h => ?_) (fun h => ?_)
  · have vc := vc.1 h
    refine lv_iconst (v := 1) hx hb d_Mo_noSchema_12 (by decide) ?_
    refine lv_goto (tgt := 17) hx hb d_Mo_noSchema_13 (by decide) ?_
    exact hret _ ls _ d_Mo_noSchema_17 vc
  · have vc := vc.2 h
    refine lv_iload_n hx hb d_Mo_noSchema_4 rfl (lv_at hl 1 rfl) ?_
    refine lv_aload_n hx hb d_Mo_noSchema_5 rfl (lv_at hl 0 rfl) ?_
    refine va_get (D := D) (ci := 6) (v := .int mns) (C := R_Mo) (T := F_Mo) (N := 27) hx hb hts in_Mo hown hK hP 0 rfl rfl 13 (by decide) (hts _ fl_Mo_128) (fun _ h => h) rfl d_Mo_noSchema_6 ?_
    refine lv_icmp_lt (tgt := 16) hx hb d_Mo_noSchema_9 (by decide) (fun h => ?_) (fun h => ?_)
    · have vc := vc.1 h
      refine lv_iconst (v := 0) hx hb d_Mo_noSchema_16 (by decide) ?_
      exact hret _ ls _ d_Mo_noSchema_17 vc
    · have vc := vc.2 h
      refine lv_iconst (v := 1) hx hb d_Mo_noSchema_12 (by decide) ?_
      refine lv_goto (tgt := 17) hx hb d_Mo_noSchema_13 (by decide) ?_
      exact hret _ ls _ d_Mo_noSchema_17 vc
theorem h_Mo_noSchema (l : Launch) (D : va_G) (b : Nat → Nat) (cI cJ cZ : ClassId) (mki : Nat → Int32) (msz : Nat → Int64) (mle : Nat → Int32) (mel : Nat → Int32) (mme : Nat → Int32) (mal : Nat → Int32) (mic : Nat → Int32) (mil : Nat → Int32) (mio : Nat → Int32) (mab : Nat → Int32) (mae : Nat → Int32) (msa : Nat → Int32) (mlc : Nat → Int32) (mli : Nat → Int32) (mna : Nat → Int32) (mva : Nat → Int32) (mma : Nat → Int32) (mch : Nat → Int32) (mre : Nat → Int32) (mlv : Nat → Int32) (mwr : Nat → Int64) (msh : Nat → Int32) (mth : Int32) (mnv : Int32) (mns : Int32) (mfa : Int32) (mmo : Int32) (x : Int32) (r : Int32) (hr : narrow .boolean (.int r) = .int r) (vc : V_Mo_noSchema mki msz mle mel mme mal mic mil mio mab mae msa mlc mli mna mva mma mch mre mlv mwr msh mth mnv mns mfa mmo x (fun v => v = r)) : Pm l y_Mo_noSchema b_Mo_noSchema 2 (some .boolean) 0 0 [.ref (b 0), .int x] (wB D (tyA cI cJ cZ) (wM b cI cJ cZ mki msz mle mel mme mal mic mil mio mab mae msa mlc mli mna mva mma mch mre mlv mwr msh mth mnv mns mfa mmo)) (.int r) :=
  pm_i (by decide) hr (Nat.le_of_ble_eq_true rfl) (fun p e s m below meth c ls Q S hB hl hret => g_Mo_noSchema S (Nat.le_refl _) (Nat.le_refl _) ⟨Nat.le_refl _, Nat.le_refl _⟩ D b cI cJ cZ mki msz mle mel mme mal mic mil mio mab mae msa mlc mli mna mva mma mch mre mlv mwr msh mth mnv mns mfa mmo x hB.2 hB.1 hl vc hret)
theorem c_Mo_noSchema (l : Launch) (D : va_G) (b : Nat → Nat) (cI cJ cZ : ClassId) (mki : Nat → Int32) (msz : Nat → Int64) (mle : Nat → Int32) (mel : Nat → Int32) (mme : Nat → Int32) (mal : Nat → Int32) (mic : Nat → Int32) (mil : Nat → Int32) (mio : Nat → Int32) (mab : Nat → Int32) (mae : Nat → Int32) (msa : Nat → Int32) (mlc : Nat → Int32) (mli : Nat → Int32) (mna : Nat → Int32) (mva : Nat → Int32) (mma : Nat → Int32) (mch : Nat → Int32) (mre : Nat → Int32) (mlv : Nat → Int32) (mwr : Nat → Int64) (msh : Nat → Int32) (mth : Int32) (mnv : Int32) (mns : Int32) (mfa : Int32) (mmo : Int32) (x : Int32) : Pm l y_Mo_noSchema b_Mo_noSchema 2 (some .boolean) 0 0 [.ref (b 0), .int x] (wB D (tyA cI cJ cZ) (wM b cI cJ cZ mki msz mle mel mme mal mic mil mio mab mae msa mlc mli mna mva mma mch mre mlv mwr msh mth mnv mns mfa mmo)) (.int (bI (!(sHas mns x)))) := h_Mo_noSchema l D b cI cJ cZ mki msz mle mel mme mal mic mil mio mab mae msa mlc mli mna mva mma mch mre mlv mwr msh mth mnv mns mfa mmo x _ (bI_nar _) (by
  unfold V_Mo_noSchema
  refine ⟨fun h => ?_, fun h => ⟨fun h2 => ?_, fun h2 => ?_⟩⟩ <;> simp_all [bI, sHas])
theorem hd_Mo_noSchema : y_Mo_noSchema.cls ≠ "java/lang/invoke/MethodHandle" ∧ y_Mo_noSchema.cls ≠ "java/lang/invoke/VarHandle" ∧ (parseMethodDescriptor y_Mo_noSchema.desc).map (fun d => d.parameters.length) = some 1 := ⟨by decide, by decide, by decide +kernel⟩
