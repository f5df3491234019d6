/-! ===== the model's equal and fault in full ===== -/
theorem sL_l : ∀ n, n < 64 → (((nI n).toInt64 &&& 63).toBitVec.smod 64).toNat = n := by decide +kernel
theorem bL_and (x y : Int64) (i : Nat) : bL (x &&& y) i = (bL x i && bL y i) := by unfold bL; rw [Int64.toBitVec_and, BitVec.getLsbD_and]
theorem bL_one : ∀ i, i < 64 → bL 1 i = decide (i = 0) := by decide +kernel
theorem bL_sshr (n : Nat) (hn : n < 64) (x : Int64) {i : Nat} (hi : i < 64) : bL (x >>> ((nI n).toInt64 &&& 63)) i = if n + i < 64 then bL x (n + i) else bL x 63 := by
  unfold bL
  rw [Int64.toBitVec_shiftRight]
  show (x.toBitVec.sshiftRight (((nI n).toInt64 &&& 63).toBitVec.smod 64).toNat).getLsbD i = _
  rw [sL_l n hn, BitVec.getLsbD_sshiftRight, BitVec.msb_eq_getLsbD_last]
  simp [hi]
theorem bL_and1 (x : Int64) {k : Nat} (hk : k < 64) : x >>> ((nI k).toInt64 &&& 63) &&& 1 = if bL x k = true then 1 else 0 := by
  apply bL_ext
  intro i hi
  rw [bL_and, bL_one i hi, bL_sshr k hk _ hi]
  by_cases e : i = 0
  · subst e
    cases hb : bL x k <;> simp [hk, hb, bL_0, bL_one 0 hi]
  · cases hb : bL x k <;> simp [e, bL_0, bL_one i hi]
/-- the bits of a pair, by its place in the order of faults -/
def BF (mwr : Nat → Int64) (p k : Nat) : Prop := bL (mwr (40 * (p % 24) + p / 24)) k = true
noncomputable def FS (B : Nat → Nat → Prop) (p : Nat) : Nat := cN (B p) 36
theorem sumN_mono {F : Nat → Nat} : ∀ b a, a ≤ b → sumN F a ≤ sumN F b := by
  intro b
  induction b with
  | zero => intro a h; obtain rfl : a = 0 := by omega
            exact Nat.le_refl _
  | succ b ih =>
    intro a h
    by_cases e : a = b + 1
    · rw [e]; exact Nat.le_refl _
    · exact Nat.le_trans (ih a (by omega)) (Nat.le_add_right _ _)
theorem sumN_bd {F : Nat → Nat} {c : Nat} (h : ∀ p, F p ≤ c) : ∀ b, sumN F b ≤ c * b := by
  intro b
  induction b with
  | zero => exact Nat.le_refl _
  | succ b ih => show sumN F b + F b ≤ _; have := h b; rw [Nat.mul_succ]; omega
/-- the place of a fault: B's bit k of pair p is the i-th -/
def FaAt (B : Nat → Nat → Prop) (i p k : Nat) : Prop := p < 960 ∧ k < 36 ∧ B p k ∧ i = sumN (FS B) p + cN (B p) k
theorem FaAt.unique {B : Nat → Nat → Prop} {i p k p' k' : Nat} (h : FaAt B i p k) (h' : FaAt B i p' k') : p = p' ∧ k = k' := by
  have lt1 : ∀ {p k p' k'}, FaAt B i p k → FaAt B i p' k' → ¬ p < p' := fun {p k p' k'} h h' q => by
    have h1 : sumN (FS B) (p + 1) ≤ sumN (FS B) p' := sumN_mono p' (p + 1) q
    have h2 : cN (B p) (k + 1) ≤ FS B p := by
      unfold FS
      have : ∀ b a, a ≤ b → cN (B p) a ≤ cN (B p) b := by
        intro b
        induction b with
        | zero => intro a h; obtain rfl : a = 0 := by omega
                  exact Nat.le_refl _
        | succ b ih =>
          intro a h
          by_cases e : a = b + 1
          · rw [e]; exact Nat.le_refl _
          · refine Nat.le_trans (ih a (by omega)) ?_
            by_cases hb : B p b
            · rw [cN_s.1 hb]; omega
            · rw [cN_s.2 hb]; exact Nat.le_refl _
      exact this 36 (k + 1) h.2.1
    rw [cN_s.1 h.2.2.1] at h2
    have h3 := h.2.2.2
    have h4 := h'.2.2.2
    have h5 : sumN (FS B) (p + 1) = sumN (FS B) p + FS B p := rfl
    omega
  obtain rfl : p = p' := by have := lt1 h h'; have := lt1 h' h; omega
  refine ⟨rfl, ?_⟩
  have lt2 : ∀ {k k'}, FaAt B i p k → FaAt B i p k' → ¬ k < k' := fun {k k'} h h' q => by
    have : ∀ b a, a ≤ b → cN (B p) a ≤ cN (B p) b := by
      intro b
      induction b with
      | zero => intro a h; obtain rfl : a = 0 := by omega
                exact Nat.le_refl _
      | succ b ih =>
        intro a h
        by_cases e : a = b + 1
        · rw [e]; exact Nat.le_refl _
        · refine Nat.le_trans (ih a (by omega)) ?_
          by_cases hb : B p b
          · rw [cN_s.1 hb]; omega
          · rw [cN_s.2 hb]; exact Nat.le_refl _
    have h2 := this k' (k + 1) q
    rw [cN_s.1 h.2.2.1] at h2
    have h3 := h.2.2.2
    have h4 := h'.2.2.2
    omega
  have := lt2 h h'
  have := lt2 h' h
  omega
theorem div24 {n : Nat} (h : n < 2 ^ 31) : nI n / 24 = nI (n / 24) := pk_div h (by decide) (by decide)
theorem rem24 {n : Nat} (h : n < 2 ^ 31) : nI n - nI n / 24 * 24 = nI (n % 24) := by
  rw [div24 h, nI_mulR, nI_sub (by omega)]; congr 1; omega
def V_Mo_equalF (mki : Nat → Int32) (msz : Nat → Int64) (mle : Nat → Int32) (mel : Nat → Int32) (mme : Nat → Int32) (mal : Nat → Int32) (mic : Nat → Int32) (mil : Nat → Int32) (mio : Nat → Int32) (mab : Nat → Int32) (mae : Nat → Int32) (msa : Nat → Int32) (mlc : Nat → Int32) (mli : Nat → Int32) (mna : Nat → Int32) (mva : Nat → Int32) (mma : Nat → Int32) (mch : Nat → Int32) (mre : Nat → Int32) (mlv : Nat → Int32) (mwr : Nat → Int64) (msh : Nat → Int32) (mth : Int32) (mnv : Int32) (mns : Int32) (mfa : Int32) (mmo : Int32) (x : Int32) (y : Int32) (post : Int32 → (Nat → Int32) → (Nat → Int64) → (Nat → Int32) → (Nat → Int32) → (Nat → Int32) → (Nat → Int32) → (Nat → Int32) → (Nat → Int32) → (Nat → Int32) → (Nat → Int32) → (Nat → Int32) → (Nat → Int32) → (Nat → Int32) → (Nat → Int32) → (Nat → Int32) → (Nat → Int32) → (Nat → Int32) → (Nat → Int32) → (Nat → Int32) → (Nat → Int32) → (Nat → Int64) → (Nat → Int32) → Int32 → Int32 → Int32 → Int32 → Int32 → Prop) : Prop :=
  (∃ J1 : Int32 → Prop, ((¬ (bI (!(sHas mnv x))) = 0 → J1 1) ∧ ((bI (!(sHas mnv x))) = 0 → (((bI (!(sHas mnv y))) = 0 → J1 0) ∧ (¬ (bI (!(sHas mnv y))) = 0 → J1 1)))) ∧ (∀ (x3 : Int32), J1 x3 → ((x3 = 0 → ((∃ n : Nat, n ≤ 40 ∧ mnv = nI n ∧ MeOK mle mel mme ∧ (∀ v : Nat, v < 40 → (mle v).toNatClampNeg ≤ 8 ∧ ¬ mle v < 0) ∧ (∀ j : Nat, j < 320 → vp_in (mel j) 40) ∧ (∀ j : Nat, j < 480 → ¬ mme j < 0 → vp_in (mme j) 40)) ∧ (∀ (f4 : Nat → Int32), (∀ n : Nat, mnv = nI n → n ≤ 40 → AlOK mki msz mle mel mme f4 n) → (vp_in x 40 ∧ (vp_in y 40 ∧ ((¬ (f4 x.toNatClampNeg) = (f4 y.toNatClampNeg) → post 0 mki msz mle mel mme f4 mic mil mio mab mae msa mlc mli mna mva mma mch mre mlv mwr msh x3 mnv mns mfa mmo) ∧ ((f4 x.toNatClampNeg) = (f4 y.toNatClampNeg) → post 1 mki msz mle mel mme f4 mic mil mio mab mae msa mlc mli mna mva mma mch mre mlv mwr msh x3 mnv mns mfa mmo))))))) ∧ (¬ x3 = 0 → post 0 mki msz mle mel mme mal mic mil mio mab mae msa mlc mli mna mva mma mch mre mlv mwr msh x3 mnv mns mfa mmo))))
set_option maxHeartbeats 4000000 in
set_option maxRecDepth 100000 in
theorem g_Mo_equalF {p : Program} {l : Launch} {e : Env} {R : Room} {s : State} {m : MethodId} {args : Array Value} {below : List Frame} {meth : Method} {c : Code} {H : Heap} {locs : List Loc} {cells slots : Nat} {Q : State → Prop} {ls : Array Slot} {A : Nat → Prop} (S : CallFix p m c b_Mo_equal 3 s args W0 R_Mo) (hRf : 2 ≤ R.frames) (hRl : 48 ≤ R.locals) (hRc : cells ≤ R.cells ∧ slots ≤ R.slots) (D : va_G) (b : Nat → Nat) (cI cJ cZ : ClassId) (mki : Nat → Int32) (msz : Nat → Int64) (mle : Nat → Int32) (mel : Nat → Int32) (mme : Nat → Int32) (mal : Nat → Int32) (mic : Nat → Int32) (mil : Nat → Int32) (mio : Nat → Int32) (mab : Nat → Int32) (mae : Nat → Int32) (msa : Nat → Int32) (mlc : Nat → Int32) (mli : Nat → Int32) (mna : Nat → Int32) (mva : Nat → Int32) (mma : Nat → Int32) (mch : Nat → Int32) (mre : Nat → Int32) (mlv : Nat → Int32) (mwr : Nat → Int64) (msh : Nat → Int32) (mth : Int32) (mnv : Int32) (mns : Int32) (mfa : Int32) (mmo : Int32) (x : Int32) (y : Int32) (hK : va_K D vwCl (tyA cI cJ cZ) s) (hP : va_P D vwCl (wM b cI cJ cZ mki msz mle mel mme mal mic mil mio mab mae msa mlc mli mna mva mma mch mre mlv mwr msh mth mnv mns mfa mmo) H) (hD : va_D A (wM b cI cJ cZ mki msz mle mel mme mal mic mil mio mab mae msa mlc mli mna mva mma mch mre mlv mwr msh mth mnv mns mfa mmo)) (hA : ∀ q, s.heap.size ≤ q → A q) (hS : va_S A s.heap H locs) (hl : lv_has ls 3 [(0, .ref (b 0)), (1, .int x), (2, .int y)]) {post : Int32 → (Nat → Int32) → (Nat → Int64) → (Nat → Int32) → (Nat → Int32) → (Nat → Int32) → (Nat → Int32) → (Nat → Int32) → (Nat → Int32) → (Nat → Int32) → (Nat → Int32) → (Nat → Int32) → (Nat → Int32) → (Nat → Int32) → (Nat → Int32) → (Nat → Int32) → (Nat → Int32) → (Nat → Int32) → (Nat → Int32) → (Nat → Int32) → (Nat → Int32) → (Nat → Int64) → (Nat → Int32) → Int32 → Int32 → Int32 → Int32 → Int32 → Prop} (vc : V_Mo_equalF mki msz mle mel mme mal mic mil mio mab mae msa mlc mli mna mva mma mch mre mlv mwr msh mth mnv mns mfa mmo x y post)
    (hret : ∀ (v : Int32) (mki : Nat → Int32) (msz : Nat → Int64) (mle : Nat → Int32) (mel : Nat → Int32) (mme : Nat → Int32) (mal : Nat → Int32) (mic : Nat → Int32) (mil : Nat → Int32) (mio : Nat → Int32) (mab : Nat → Int32) (mae : Nat → Int32) (msa : Nat → Int32) (mlc : Nat → Int32) (mli : Nat → Int32) (mna : Nat → Int32) (mva : Nat → Int32) (mma : Nat → Int32) (mch : Nat → Int32) (mre : Nat → Int32) (mlv : Nat → Int32) (mwr : Nat → Int64) (msh : Nat → Int32) (mth : Int32) (mnv : Int32) (mns : Int32) (mfa : Int32) (mmo : Int32) (ls : Array Slot) (pc : Nat) (H : Heap) (locs : List Loc), decode b_Mo_equal pc = .ok (.ireturn, 1) → post v mki msz mle mel mme mal mic mil mio mab mae msa mlc mli mna mva mma mch mre mlv mwr msh mth mnv mns mfa mmo → va_P D vwCl (wM b cI cJ cZ mki msz mle mel mme mal mic mil mio mab mae msa mlc mli mna mva mma mch mre mlv mwr msh mth mnv mns mfa mmo) H → va_D A (wM b cI cJ cZ mki msz mle mel mme mal mic mil mio mab mae msa mlc mli mna mva mma mch mre mlv mwr msh mth mnv mns mfa mmo) → va_S A s.heap H locs → W p l e R s m args below meth c H locs cells slots Q (F0 m pc ls [.int v])) : W p l e R s m args below meth c H locs cells slots Q (F0 m 0 ls []) := by
  have hx := S.1
  have hb := S.2.1
  have hown := S.2.2.2.1
  have hts := S.2.2.2.2
  unfold V_Mo_equalF at vc
  refine lv_aload_n hx hb d_Mo_equal_0 rfl (lv_at hl 0 rfl) ?_
  refine lv_aload_n hx hb d_Mo_equal_1 rfl (lv_at hl 0 rfl) ?_
  refine lv_iload_n hx hb d_Mo_equal_2 rfl (lv_at hl 1 rfl) ?_
  refine pc_V (As := [.int x]) (rest := [.ref (b 0)]) S (c_Mo_noValue l D b cI cJ cZ mki msz mle mel mme mal mic mil mio mab mae msa mlc mli mna mva mma mch mre mlv mwr msh mth mnv mns mfa mmo x) wB_blind k_Mo_noValue i_Mo_noValue e_Mo_noValue o_Mo ml_Mo_101 hd_Mo_noValue (Nat.le_trans (by decide) hRf) (Nat.le_trans (by decide) hRl) hRc (va_recv hK hP (q0 := 0) (ci := 6) rfl rfl) (wB_at hP hK) hl.1 rfl (Nat.le_of_ble_eq_true rfl) d_Mo_equal_3 ?_
  obtain ⟨J1, vc, vc2⟩ := vc
  have jJ1 : ∀ (x3 : Int32) (ls : Array Slot) (H : Heap) (locs : List Loc), J1 x3 → lv_has ls 3 [(0, .ref (b 0)), (1, .int x), (2, .int y)] → va_P D vwCl (wM b cI cJ cZ mki msz mle mel mme mal mic mil mio mab mae msa mlc mli mna mva mma mch mre mlv mwr msh mth mnv mns mfa mmo) H → va_D A (wM b cI cJ cZ mki msz mle mel mme mal mic mil mio mab mae msa mlc mli mna mva mma mch mre mlv mwr msh mth mnv mns mfa mmo) → va_S A s.heap H locs → W p l e R s m args below meth c H locs cells slots Q (F0 m 22 ls [.int x3, .ref (b 0)]) := by
    intro x3 ls H locs vc hl hP hD hS
    have vc := vc2 x3 vc
    refine va_put (D := D) (ci := 6) (v := .int x3) (ty := .int) (C := R_Mo) (T := F_Mo) (N := 27) hx hb hts in_Mo t_Mo t_Mo_ok n_Mo hown hK hP hD hS 0 rfl rfl 0 (by decide) (hts _ fl_Mo_78) (fun _ h => h) rfl (by decide +kernel) rfl rfl (Nat.le_of_ble_eq_true rfl) d_Mo_equal_22 (fun H locs hP hD hS => ?_)
    have hP : va_P D vwCl (wM b cI cJ cZ mki msz mle mel mme mal mic mil mio mab mae msa mlc mli mna mva mma mch mre mlv mwr msh x3 mnv mns mfa mmo) H := hP
    have hD : va_D A (wM b cI cJ cZ mki msz mle mel mme mal mic mil mio mab mae msa mlc mli mna mva mma mch mre mlv mwr msh x3 mnv mns mfa mmo) := hD
    refine lv_aload_n hx hb d_Mo_equal_25 rfl (lv_at hl 0 rfl) ?_
    refine va_get (D := D) (ci := 6) (v := .int x3) (C := R_Mo) (T := F_Mo) (N := 27) hx hb hts in_Mo hown hK hP 0 rfl rfl 0 (by decide) (hts _ fl_Mo_78) (fun _ h => h) rfl d_Mo_equal_26 ?_
    refine lv_if_eq (tgt := 34) hx hb d_Mo_equal_29 (by decide) (fun h => ?_) (fun h => ?_)
    · have vc := vc.1 h
      refine lv_aload_n hx hb d_Mo_equal_34 rfl (lv_at hl 0 rfl) ?_
      obtain ⟨hpre, vc⟩ := vc
      refine wc_V (As := []) (rest := []) (wr := ([] : va_W)) S (c_Mo_compareAll l D b cI cJ cZ mki msz mle mel mme mal mic mil mio mab mae msa mlc mli mna mva mma mch mre mlv mwr msh x3 mnv mns mfa mmo hpre) k_Mo_compareAll i_Mo_compareAll e_Mo_compareAll o_Mo ml_Mo_114 hd_Mo_compareAll (Nat.le_trans (by decide) hRf) (Nat.le_trans (by decide) hRl) hRc (va_recv hK hP (q0 := 0) (ci := 6) rfl rfl) hK hP hD hS hA [0, 1, 2, 3, 4, 5, 6, 7, 8, 9, 10, 11, 12, 13, 14, 15, 16, 17, 18, 19, 20, 21, 22] [] rfl rfl rfl (by decide) (by decide) (by decide) hl.1 rfl (Nat.le_of_ble_eq_true rfl) d_Mo_equal_35 (fun f4 H locs hu hP hD hS => ?_)
      have vc := vc f4 hu
      clear hu
      have hP : va_P D vwCl (wM b cI cJ cZ mki msz mle mel mme f4 mic mil mio mab mae msa mlc mli mna mva mma mch mre mlv mwr msh x3 mnv mns mfa mmo) H := hP
      have hD : va_D A (wM b cI cJ cZ mki msz mle mel mme f4 mic mil mio mab mae msa mlc mli mna mva mma mch mre mlv mwr msh x3 mnv mns mfa mmo) := hD
      refine lv_aload_n hx hb d_Mo_equal_38 rfl (lv_at hl 0 rfl) ?_
      refine va_get (D := D) (ci := 6) (v := .ref (b 6)) (C := R_Mo) (T := F_Mo) (N := 27) hx hb hts in_Mo hown hK hP 0 rfl rfl 7 (by decide) (hts _ fl_Mo_26) (fun _ h => h) rfl d_Mo_equal_39 ?_
      refine lv_iload_n hx hb d_Mo_equal_42 rfl (lv_at hl 1 rfl) ?_
      obtain ⟨vcb, vc⟩ := vc
      refine va_iald hx hb hK hP 6 0 rfl rfl vcb d_Mo_equal_43 ?_
      refine lv_aload_n hx hb d_Mo_equal_44 rfl (lv_at hl 0 rfl) ?_
      refine va_get (D := D) (ci := 6) (v := .ref (b 6)) (C := R_Mo) (T := F_Mo) (N := 27) hx hb hts in_Mo hown hK hP 0 rfl rfl 7 (by decide) (hts _ fl_Mo_26) (fun _ h => h) rfl d_Mo_equal_45 ?_
      refine lv_iload_n hx hb d_Mo_equal_48 rfl (lv_at hl 2 rfl) ?_
      obtain ⟨vcb, vc⟩ := vc
      refine va_iald hx hb hK hP 6 0 rfl rfl vcb d_Mo_equal_49 ?_
      refine lv_icmp_ne (tgt := 57) hx hb d_Mo_equal_50 (by decide) (fun h => ?_) (fun h => ?_)
      · have vc := vc.1 h
        refine lv_iconst (v := 0) hx hb d_Mo_equal_57 (by decide) ?_
        exact hret _ _ _ _ _ _ _ _ _ _ _ _ _ _ _ _ _ _ _ _ _ _ _ _ _ _ _ _ ls _ H locs d_Mo_equal_58 vc hP hD hS
      · have vc := vc.2 h
        refine lv_iconst (v := 1) hx hb d_Mo_equal_53 (by decide) ?_
        refine lv_goto (tgt := 58) hx hb d_Mo_equal_54 (by decide) ?_
        exact hret _ _ _ _ _ _ _ _ _ _ _ _ _ _ _ _ _ _ _ _ _ _ _ _ _ _ _ _ ls _ H locs d_Mo_equal_58 vc hP hD hS
    · have vc := vc.2 h
      refine lv_iconst (v := 0) hx hb d_Mo_equal_32 (by decide) ?_
      exact hret _ _ _ _ _ _ _ _ _ _ _ _ _ _ _ _ _ _ _ _ _ _ _ _ _ _ _ _ ls _ H locs d_Mo_equal_33 vc hP hD hS
  clear vc2
  refine lv_if_ne (tgt := 17) hx hb d_Mo_equal_6 (by decide) (fun h => ?_) (fun h => ?_)
  · have vc := vc.1 h
    refine lv_iconst (v := 1) hx hb d_Mo_equal_17 (by decide) ?_
    refine lv_goto (tgt := 22) hx hb d_Mo_equal_18 (by decide) ?_
    exact jJ1 1 ls H locs vc (lv_sub hl [0, 1, 2] rfl) hP hD hS
  · have vc := vc.2 h
    refine lv_aload_n hx hb d_Mo_equal_9 rfl (lv_at hl 0 rfl) ?_
    refine lv_iload_n hx hb d_Mo_equal_10 rfl (lv_at hl 2 rfl) ?_
    refine pc_V (As := [.int y]) (rest := [.ref (b 0)]) S (c_Mo_noValue l D b cI cJ cZ mki msz mle mel mme mal mic mil mio mab mae msa mlc mli mna mva mma mch mre mlv mwr msh mth mnv mns mfa mmo y) wB_blind k_Mo_noValue i_Mo_noValue e_Mo_noValue o_Mo ml_Mo_101 hd_Mo_noValue (Nat.le_trans (by decide) hRf) (Nat.le_trans (by decide) hRl) hRc (va_recv hK hP (q0 := 0) (ci := 6) rfl rfl) (wB_at hP hK) hl.1 rfl (Nat.le_of_ble_eq_true rfl) d_Mo_equal_11 ?_
    refine lv_if_eq (tgt := 21) hx hb d_Mo_equal_14 (by decide) (fun h => ?_) (fun h => ?_)
    · have vc := vc.1 h
      refine lv_iconst (v := 0) hx hb d_Mo_equal_21 (by decide) ?_
      exact jJ1 0 ls H locs vc (lv_sub hl [0, 1, 2] rfl) hP hD hS
    · have vc := vc.2 h
      refine lv_iconst (v := 1) hx hb d_Mo_equal_17 (by decide) ?_
      refine lv_goto (tgt := 22) hx hb d_Mo_equal_18 (by decide) ?_
      exact jJ1 1 ls H locs vc (lv_sub hl [0, 1, 2] rfl) hP hD hS
set_option maxHeartbeats 4000000 in
theorem v_Mo_equalF (mki : Nat → Int32) (msz : Nat → Int64) (mle : Nat → Int32) (mel : Nat → Int32) (mme : Nat → Int32) (mal : Nat → Int32) (mic : Nat → Int32) (mil : Nat → Int32) (mio : Nat → Int32) (mab : Nat → Int32) (mae : Nat → Int32) (msa : Nat → Int32) (mlc : Nat → Int32) (mli : Nat → Int32) (mna : Nat → Int32) (mva : Nat → Int32) (mma : Nat → Int32) (mch : Nat → Int32) (mre : Nat → Int32) (mlv : Nat → Int32) (mwr : Nat → Int64) (msh : Nat → Int32) (mth : Int32) (mnv : Int32) (mns : Int32) (mfa : Int32) (mmo : Int32) (x : Int32) (y : Int32) (hpre : (∃ n0 : Nat, mnv = nI n0 ∧ MVOK mki msz mle mel mme n0)) : V_Mo_equalF mki msz mle mel mme mal mic mil mio mab mae msa mlc mli mna mva mma mch mre mlv mwr msh mth mnv mns mfa mmo x y (fun v mki' msz' mle' mel' mme' mal' mic' mil' mio' mab' mae' msa' mlc' mli' mna' mva' mma' mch' mre' mlv' mwr' msh' mth' mnv' mns' mfa' mmo' => ∃ rr : Bool, v = bI rr ∧ (((¬ (sHas mnv x = true ∧ sHas mnv y = true) → mth' = 1 ∧ mal' = mal) ∧ (sHas mnv x = true ∧ sHas mnv y = true → mth' = 0 ∧ AlOK mki msz mle mel mme mal' mnv.toNatClampNeg ∧ (rr = true ↔ mal' x.toNatClampNeg = mal' y.toNatClampNeg)))) ∧ mki' = mki ∧ msz' = msz ∧ mle' = mle ∧ mel' = mel ∧ mme' = mme ∧ mic' = mic ∧ mil' = mil ∧ mio' = mio ∧ mab' = mab ∧ mae' = mae ∧ msa' = msa ∧ mlc' = mlc ∧ mli' = mli ∧ mna' = mna ∧ mva' = mva ∧ mma' = mma ∧ mch' = mch ∧ mre' = mre ∧ mlv' = mlv ∧ mwr' = mwr ∧ msh' = msh ∧ mnv' = mnv ∧ mns' = mns ∧ mfa' = mfa ∧ mmo' = mmo) := by
  have main : ∀ post : Int32 → (Nat → Int32) → (Nat → Int64) → (Nat → Int32) → (Nat → Int32) → (Nat → Int32) → (Nat → Int32) → (Nat → Int32) → (Nat → Int32) → (Nat → Int32) → (Nat → Int32) → (Nat → Int32) → (Nat → Int32) → (Nat → Int32) → (Nat → Int32) → (Nat → Int32) → (Nat → Int32) → (Nat → Int32) → (Nat → Int32) → (Nat → Int32) → (Nat → Int32) → (Nat → Int64) → (Nat → Int32) → Int32 → Int32 → Int32 → Int32 → Int32 → Prop, (∀ v mki' msz' mle' mel' mme' mal' mic' mil' mio' mab' mae' msa' mlc' mli' mna' mva' mma' mch' mre' mlv' mwr' msh' mth' mnv' mns' mfa' mmo', (fun v mki' msz' mle' mel' mme' mal' mic' mil' mio' mab' mae' msa' mlc' mli' mna' mva' mma' mch' mre' mlv' mwr' msh' mth' mnv' mns' mfa' mmo' => ∃ rr : Bool, v = bI rr ∧ (((¬ (sHas mnv x = true ∧ sHas mnv y = true) → mth' = 1 ∧ mal' = mal) ∧ (sHas mnv x = true ∧ sHas mnv y = true → mth' = 0 ∧ AlOK mki msz mle mel mme mal' mnv.toNatClampNeg ∧ (rr = true ↔ mal' x.toNatClampNeg = mal' y.toNatClampNeg)))) ∧ mki' = mki ∧ msz' = msz ∧ mle' = mle ∧ mel' = mel ∧ mme' = mme ∧ mic' = mic ∧ mil' = mil ∧ mio' = mio ∧ mab' = mab ∧ mae' = mae ∧ msa' = msa ∧ mlc' = mlc ∧ mli' = mli ∧ mna' = mna ∧ mva' = mva ∧ mma' = mma ∧ mch' = mch ∧ mre' = mre ∧ mlv' = mlv ∧ mwr' = mwr ∧ msh' = msh ∧ mnv' = mnv ∧ mns' = mns ∧ mfa' = mfa ∧ mmo' = mmo) v mki' msz' mle' mel' mme' mal' mic' mil' mio' mab' mae' msa' mlc' mli' mna' mva' mma' mch' mre' mlv' mwr' msh' mth' mnv' mns' mfa' mmo' → post v mki' msz' mle' mel' mme' mal' mic' mil' mio' mab' mae' msa' mlc' mli' mna' mva' mma' mch' mre' mlv' mwr' msh' mth' mnv' mns' mfa' mmo') → V_Mo_equalF mki msz mle mel mme mal mic mil mio mab mae msa mlc mli mna mva mma mch mre mlv mwr msh mth mnv mns mfa mmo x y post := by
    intro post hpost
    unfold V_Mo_equalF
    obtain ⟨n0, hnv, hV⟩ := hpre
    have hn40 := hV.1
    refine ⟨fun z => (z = 0 ∧ sHas mnv x = true ∧ sHas mnv y = true) ∨ (z = 1 ∧ ¬ (sHas mnv x = true ∧ sHas mnv y = true)), ⟨fun h => Or.inr ⟨rfl, fun q => h (bIn0.mpr q.1)⟩, fun h => ⟨fun h2 => Or.inl ⟨rfl, bIn0.mp h, bIn0.mp h2⟩, fun h2 => Or.inr ⟨rfl, fun q => h2 (bIn0.mpr q.2)⟩⟩⟩, ?_⟩
    rintro x3 (⟨rfl, hx, hy⟩ | ⟨rfl, hn⟩)
    rotate_left
    · exact ⟨fun h => absurd h (by decide), fun _ => (hpost _ _ _ _ _ _ _ _ _ _ _ _ _ _ _ _ _ _ _ _ _ _ _ _ _ _ _ _ ⟨false, rfl, ⟨fun _ => ⟨rfl, rfl⟩, fun h => absurd h hn⟩, rfl, rfl, rfl, rfl, rfl, rfl, rfl, rfl, rfl, rfl, rfl, rfl, rfl, rfl, rfl, rfl, rfl, rfl, rfl, rfl, rfl, rfl, rfl, rfl, rfl⟩)⟩
    refine ⟨fun _ => ?_, fun h => absurd rfl h⟩
    obtain ⟨s0, hs, rfl⟩ := sHas_nI (by omega) (show sHas (nI n0) x = true by rw [← hnv]; exact hx)
    obtain ⟨v0, hv, rfl⟩ := sHas_nI (by omega) (show sHas (nI n0) y = true by rw [← hnv]; exact hy)
    have cn : mnv.toNatClampNeg = n0 := by rw [hnv]; exact nI_clamp (by omega)
    obtain ⟨me1, me2, me3⟩ := hV.me
    refine ⟨⟨n0, hn40, hnv, me1, me2, hV.2.1, me3⟩, fun f4 h4 => ⟨vp_in_nI (by omega) (by decide), vp_in_nI (by omega) (by decide), fun h => ?_, fun h => ?_⟩⟩
    · exact (hpost _ _ _ _ _ _ _ _ _ _ _ _ _ _ _ _ _ _ _ _ _ _ _ _ _ _ _ _ ⟨false, rfl, ⟨fun q => absurd ⟨hx, hy⟩ q, fun _ => ⟨rfl, by rw [cn]; exact h4 n0 hnv hn40, fun q => absurd q (by decide), fun q => absurd q h⟩⟩, rfl, rfl, rfl, rfl, rfl, rfl, rfl, rfl, rfl, rfl, rfl, rfl, rfl, rfl, rfl, rfl, rfl, rfl, rfl, rfl, rfl, rfl, rfl, rfl, rfl⟩)
    · exact (hpost _ _ _ _ _ _ _ _ _ _ _ _ _ _ _ _ _ _ _ _ _ _ _ _ _ _ _ _ ⟨true, rfl, ⟨fun q => absurd ⟨hx, hy⟩ q, fun _ => ⟨rfl, by rw [cn]; exact h4 n0 hnv hn40, fun _ => h, fun _ => rfl⟩⟩, rfl, rfl, rfl, rfl, rfl, rfl, rfl, rfl, rfl, rfl, rfl, rfl, rfl, rfl, rfl, rfl, rfl, rfl, rfl, rfl, rfl, rfl, rfl, rfl, rfl⟩)
  exact main _ (fun _ _ _ _ _ _ _ _ _ _ _ _ _ _ _ _ _ _ _ _ _ _ _ _ _ _ _ _ h => h)
theorem c_Mo_equalF (l : Launch) (D : va_G) (b : Nat → Nat) (cI cJ cZ : ClassId) (mki : Nat → Int32) (msz : Nat → Int64) (mle : Nat → Int32) (mel : Nat → Int32) (mme : Nat → Int32) (mal : Nat → Int32) (mic : Nat → Int32) (mil : Nat → Int32) (mio : Nat → Int32) (mab : Nat → Int32) (mae : Nat → Int32) (msa : Nat → Int32) (mlc : Nat → Int32) (mli : Nat → Int32) (mna : Nat → Int32) (mva : Nat → Int32) (mma : Nat → Int32) (mch : Nat → Int32) (mre : Nat → Int32) (mlv : Nat → Int32) (mwr : Nat → Int64) (msh : Nat → Int32) (mth : Int32) (mnv : Int32) (mns : Int32) (mfa : Int32) (mmo : Int32) (x : Int32) (y : Int32) (hpre : (∃ n0 : Nat, mnv = nI n0 ∧ MVOK mki msz mle mel mme n0)) : Wm (S := Bool × Int32 × (Nat → Int32)) l y_Mo_equal b_Mo_equal 3 (some .boolean) 2 48 [.ref (b 0), .int x, .int y] D (tyA cI cJ cZ) (wM b cI cJ cZ mki msz mle mel mme mal mic mil mio mab mae msa mlc mli mna mva mma mch mre mlv mwr msh mth mnv mns mfa mmo) (fun uu => ((¬ (sHas mnv x = true ∧ sHas mnv y = true) → uu.2.1 = 1 ∧ uu.2.2 = mal) ∧ (sHas mnv x = true ∧ sHas mnv y = true → uu.2.1 = 0 ∧ AlOK mki msz mle mel mme uu.2.2 mnv.toNatClampNeg ∧ (uu.1 = true ↔ uu.2.2 x.toNatClampNeg = uu.2.2 y.toNatClampNeg)))) (fun uu => some (.int (bI uu.1))) (fun uu => (wM b cI cJ cZ mki msz mle mel mme uu.2.2 mic mil mio mab mae msa mlc mli mna mva mma mch mre mlv mwr msh uu.2.1 mnv mns mfa mmo)) :=
  wm_i (by decide) (fun _ _ => bI_nar _) (Nat.le_of_ble_eq_true rfl) (fun p e s m below meth c ls Q A S hK hP hD hA hS hl hret => g_Mo_equalF S (Nat.le_refl _) (Nat.le_refl _) ⟨Nat.le_refl _, Nat.le_refl _⟩ D b cI cJ cZ mki msz mle mel mme mal mic mil mio mab mae msa mlc mli mna mva mma mch mre mlv mwr msh mth mnv mns mfa mmo x y hK hP hD hA hS hl (v_Mo_equalF mki msz mle mel mme mal mic mil mio mab mae msa mlc mli mna mva mma mch mre mlv mwr msh mth mnv mns mfa mmo x y hpre) (fun v mki' msz' mle' mel' mme' mal' mic' mil' mio' mab' mae' msa' mlc' mli' mna' mva' mma' mch' mre' mlv' mwr' msh' mth' mnv' mns' mfa' mmo' ls1 pc H1 locs1 hd hv hP1 hD1 hS1 => by obtain ⟨rr, rfl, hp, rfl, rfl, rfl, rfl, rfl, rfl, rfl, rfl, rfl, rfl, rfl, rfl, rfl, rfl, rfl, rfl, rfl, rfl, rfl, rfl, rfl, rfl, rfl, rfl, rfl⟩ := hv; exact hret (rr, mth', mal') _ ls1 pc H1 locs1 hd hp rfl hP1 hD1 hS1))
theorem hd_Mo_equalF : y_Mo_equal.cls ≠ "java/lang/invoke/MethodHandle" ∧ y_Mo_equal.cls ≠ "java/lang/invoke/VarHandle" ∧ (parseMethodDescriptor y_Mo_equal.desc).map (fun d => d.parameters.length) = some 2 := ⟨by decide, by decide, by decide +kernel⟩
def V_Mo_faultF (mki : Nat → Int32) (msz : Nat → Int64) (mle : Nat → Int32) (mel : Nat → Int32) (mme : Nat → Int32) (mal : Nat → Int32) (mic : Nat → Int32) (mil : Nat → Int32) (mio : Nat → Int32) (mab : Nat → Int32) (mae : Nat → Int32) (msa : Nat → Int32) (mlc : Nat → Int32) (mli : Nat → Int32) (mna : Nat → Int32) (mva : Nat → Int32) (mma : Nat → Int32) (mch : Nat → Int32) (mre : Nat → Int32) (mlv : Nat → Int32) (mwr : Nat → Int64) (msh : Nat → Int32) (mth : Int32) (mnv : Int32) (mns : Int32) (mfa : Int32) (mmo : Int32) (x : Int32) (post : Int32 → (Nat → Int32) → (Nat → Int64) → (Nat → Int32) → (Nat → Int32) → (Nat → Int32) → (Nat → Int32) → (Nat → Int32) → (Nat → Int32) → (Nat → Int32) → (Nat → Int32) → (Nat → Int32) → (Nat → Int32) → (Nat → Int32) → (Nat → Int32) → (Nat → Int32) → (Nat → Int32) → (Nat → Int32) → (Nat → Int32) → (Nat → Int32) → (Nat → Int32) → (Nat → Int64) → (Nat → Int32) → Int32 → Int32 → Int32 → Int32 → Int32 → Prop) : Prop :=
  (∃ J1 : Int32 → Prop, ((x < 0 → J1 1) ∧ (¬ x < 0 → ((x < mfa → J1 0) ∧ (¬ x < mfa → J1 1)))) ∧ (∀ (x3 : Int32), J1 x3 → (∃ (I17 : Int32 → Int32 → Prop) (mI17 : Int32 → Int32 → Nat), I17 x 0 ∧ (∀ (x15 : Int32) (x16 : Int32), I17 x15 x16 → ((960 ≤ x16 → post 0 mki msz mle mel mme mal mic mil mio mab mae msa mlc mli mna mva mma mch mre mlv mwr msh x3 mnv mns mfa mmo) ∧ (¬ 960 ≤ x16 → ((¬ x3 = 0 → post 0 mki msz mle mel mme mal mic mil mio mab mae msa mlc mli mna mva mma mch mre mlv mwr msh x3 mnv mns mfa mmo) ∧ (x3 = 0 → (∃ (I24 : Int32 → Int32 → Prop) (mI24 : Int32 → Int32 → Nat), I24 x15 0 ∧ (∀ (x22 : Int32) (x23 : Int32), I24 x22 x23 → ((36 ≤ x23 → (I17 x22 (x16 + 1) ∧ mI17 x22 (x16 + 1) < mI17 x15 x16)) ∧ (¬ 36 ≤ x23 → (vp_in ((40 * (x16 - x16 / 24 * 24)) + (x16 / 24)) 960 ∧ (∃ J25 : Int32 → Prop, ((¬ (lg_cmp (((mwr ((40 * (x16 - x16 / 24 * 24)) + (x16 / 24) : Int32).toNatClampNeg) >>> (x23.toInt64 &&& 63)) &&& 1) 1) = 0 → J25 0) ∧ ((lg_cmp (((mwr ((40 * (x16 - x16 / 24 * 24)) + (x16 / 24) : Int32).toNatClampNeg) >>> (x23.toInt64 &&& 63)) &&& 1) 1) = 0 → J25 1)) ∧ (∀ (x26 : Int32), J25 x26 → (∃ J27 : Prop, ((x26 = 0 → J27) ∧ (¬ x26 = 0 → ((¬ x22 = 0 → J27) ∧ (x22 = 0 → post (((10000 * (x16 / 24)) + (100 * (x16 - x16 / 24 * 24))) + x23) mki msz mle mel mme mal mic mil mio mab mae msa mlc mli mna mva mma mch mre mlv mwr msh x3 mnv mns mfa mmo)))) ∧ (J27 → ((x26 = 0 → (I24 (x22 - 0) (x23 + 1) ∧ mI24 (x22 - 0) (x23 + 1) < mI24 x22 x23)) ∧ (¬ x26 = 0 → (I24 (x22 - 1) (x23 + 1) ∧ mI24 (x22 - 1) (x23 + 1) < mI24 x22 x23))))))))))))))))))))
set_option maxHeartbeats 4000000 in
set_option maxRecDepth 100000 in
theorem g_Mo_faultF {p : Program} {l : Launch} {e : Env} {R : Room} {s : State} {m : MethodId} {args : Array Value} {below : List Frame} {meth : Method} {c : Code} {H : Heap} {locs : List Loc} {cells slots : Nat} {Q : State → Prop} {ls : Array Slot} {A : Nat → Prop} (S : CallFix p m c b_Mo_fault 8 s args W0 R_Mo) (hRf : 0 ≤ R.frames) (hRl : 0 ≤ R.locals) (hRc : cells ≤ R.cells ∧ slots ≤ R.slots) (D : va_G) (b : Nat → Nat) (cI cJ cZ : ClassId) (mki : Nat → Int32) (msz : Nat → Int64) (mle : Nat → Int32) (mel : Nat → Int32) (mme : Nat → Int32) (mal : Nat → Int32) (mic : Nat → Int32) (mil : Nat → Int32) (mio : Nat → Int32) (mab : Nat → Int32) (mae : Nat → Int32) (msa : Nat → Int32) (mlc : Nat → Int32) (mli : Nat → Int32) (mna : Nat → Int32) (mva : Nat → Int32) (mma : Nat → Int32) (mch : Nat → Int32) (mre : Nat → Int32) (mlv : Nat → Int32) (mwr : Nat → Int64) (msh : Nat → Int32) (mth : Int32) (mnv : Int32) (mns : Int32) (mfa : Int32) (mmo : Int32) (x : Int32) (hK : va_K D vwCl (tyA cI cJ cZ) s) (hP : va_P D vwCl (wM b cI cJ cZ mki msz mle mel mme mal mic mil mio mab mae msa mlc mli mna mva mma mch mre mlv mwr msh mth mnv mns mfa mmo) H) (hD : va_D A (wM b cI cJ cZ mki msz mle mel mme mal mic mil mio mab mae msa mlc mli mna mva mma mch mre mlv mwr msh mth mnv mns mfa mmo)) (hA : ∀ q, s.heap.size ≤ q → A q) (hS : va_S A s.heap H locs) (hl : lv_has ls 8 [(0, .ref (b 0)), (1, .int x)]) {post : Int32 → (Nat → Int32) → (Nat → Int64) → (Nat → Int32) → (Nat → Int32) → (Nat → Int32) → (Nat → Int32) → (Nat → Int32) → (Nat → Int32) → (Nat → Int32) → (Nat → Int32) → (Nat → Int32) → (Nat → Int32) → (Nat → Int32) → (Nat → Int32) → (Nat → Int32) → (Nat → Int32) → (Nat → Int32) → (Nat → Int32) → (Nat → Int32) → (Nat → Int32) → (Nat → Int64) → (Nat → Int32) → Int32 → Int32 → Int32 → Int32 → Int32 → Prop} (vc : V_Mo_faultF mki msz mle mel mme mal mic mil mio mab mae msa mlc mli mna mva mma mch mre mlv mwr msh mth mnv mns mfa mmo x post)
    (hret : ∀ (v : Int32) (mki : Nat → Int32) (msz : Nat → Int64) (mle : Nat → Int32) (mel : Nat → Int32) (mme : Nat → Int32) (mal : Nat → Int32) (mic : Nat → Int32) (mil : Nat → Int32) (mio : Nat → Int32) (mab : Nat → Int32) (mae : Nat → Int32) (msa : Nat → Int32) (mlc : Nat → Int32) (mli : Nat → Int32) (mna : Nat → Int32) (mva : Nat → Int32) (mma : Nat → Int32) (mch : Nat → Int32) (mre : Nat → Int32) (mlv : Nat → Int32) (mwr : Nat → Int64) (msh : Nat → Int32) (mth : Int32) (mnv : Int32) (mns : Int32) (mfa : Int32) (mmo : Int32) (ls : Array Slot) (pc : Nat) (H : Heap) (locs : List Loc), decode b_Mo_fault pc = .ok (.ireturn, 1) → post v mki msz mle mel mme mal mic mil mio mab mae msa mlc mli mna mva mma mch mre mlv mwr msh mth mnv mns mfa mmo → va_P D vwCl (wM b cI cJ cZ mki msz mle mel mme mal mic mil mio mab mae msa mlc mli mna mva mma mch mre mlv mwr msh mth mnv mns mfa mmo) H → va_D A (wM b cI cJ cZ mki msz mle mel mme mal mic mil mio mab mae msa mlc mli mna mva mma mch mre mlv mwr msh mth mnv mns mfa mmo) → va_S A s.heap H locs → W p l e R s m args below meth c H locs cells slots Q (F0 m pc ls [.int v])) : W p l e R s m args below meth c H locs cells slots Q (F0 m 0 ls []) := by
  have hx := S.1
  have hb := S.2.1
  have hown := S.2.2.2.1
  have hts := S.2.2.2.2
  unfold V_Mo_faultF at vc
  refine lv_aload_n hx hb d_Mo_fault_0 rfl (lv_at hl 0 rfl) ?_
  refine lv_iload_n hx hb d_Mo_fault_1 rfl (lv_at hl 1 rfl) ?_
  obtain ⟨J1, vc, vc2⟩ := vc
  have jJ1 : ∀ (x3 : Int32) (ls : Array Slot) (H : Heap) (locs : List Loc), J1 x3 → lv_has ls 8 [(0, .ref (b 0)), (1, .int x)] → va_P D vwCl (wM b cI cJ cZ mki msz mle mel mme mal mic mil mio mab mae msa mlc mli mna mva mma mch mre mlv mwr msh mth mnv mns mfa mmo) H → va_D A (wM b cI cJ cZ mki msz mle mel mme mal mic mil mio mab mae msa mlc mli mna mva mma mch mre mlv mwr msh mth mnv mns mfa mmo) → va_S A s.heap H locs → W p l e R s m args below meth c H locs cells slots Q (F0 m 18 ls [.int x3, .ref (b 0)]) := by
    intro x3 ls H locs vc hl hP hD hS
    have vc := vc2 x3 vc
    refine va_put (D := D) (ci := 6) (v := .int x3) (ty := .int) (C := R_Mo) (T := F_Mo) (N := 27) hx hb hts in_Mo t_Mo t_Mo_ok n_Mo hown hK hP hD hS 0 rfl rfl 0 (by decide) (hts _ fl_Mo_78) (fun _ h => h) rfl (by decide +kernel) rfl rfl (Nat.le_of_ble_eq_true rfl) d_Mo_fault_18 (fun H locs hP hD hS => ?_)
    have hP : va_P D vwCl (wM b cI cJ cZ mki msz mle mel mme mal mic mil mio mab mae msa mlc mli mna mva mma mch mre mlv mwr msh x3 mnv mns mfa mmo) H := hP
    have hD : va_D A (wM b cI cJ cZ mki msz mle mel mme mal mic mil mio mab mae msa mlc mli mna mva mma mch mre mlv mwr msh x3 mnv mns mfa mmo) := hD
    refine lv_iload_n hx hb d_Mo_fault_21 rfl (lv_at hl 1 rfl) ?_
    refine lv_istore_n hx hb d_Mo_fault_22 rfl hl (by decide) (lv' := [(2, .int x), (0, .ref (b 0)), (1, .int x)]) rfl (fun ls hl => ?_)
    refine lv_iconst (v := 0) hx hb d_Mo_fault_23 (by decide) ?_
    refine lv_istore_n hx hb d_Mo_fault_24 rfl hl (by decide) (lv' := [(3, .int 0), (2, .int x), (0, .ref (b 0)), (1, .int x)]) rfl (fun ls hl => ?_)
    obtain ⟨I17, mI17, vc0, vcs⟩ := vc
    have lI17 : ∀ n : Nat, ∀ (x15 : Int32) (x16 : Int32) (ls : Array Slot) (H : Heap) (locs : List Loc), I17 x15 x16 → mI17 x15 x16 < n → lv_has ls 8 [(0, .ref (b 0)), (1, .int x), (2, .int x15), (3, .int x16)] → va_P D vwCl (wM b cI cJ cZ mki msz mle mel mme mal mic mil mio mab mae msa mlc mli mna mva mma mch mre mlv mwr msh x3 mnv mns mfa mmo) H → va_D A (wM b cI cJ cZ mki msz mle mel mme mal mic mil mio mab mae msa mlc mli mna mva mma mch mre mlv mwr msh x3 mnv mns mfa mmo) → va_S A s.heap H locs → W p l e R s m args below meth c H locs cells slots Q (F0 m 25 ls []) := by
      intro n
      induction n with
      | zero => intro x15 x16 ls H locs _ h; exact absurd h (Nat.not_lt_zero _)
      | succ n ihI17 =>
        intro x15 x16 ls H locs vc hmI17 hl hP hD hS
        have vc := vcs x15 x16 vc
        refine lv_iload_n hx hb d_Mo_fault_25 rfl (lv_at hl 3 rfl) ?_
        refine lv_sipush (v := 960) hx hb d_Mo_fault_26 (by decide) ?_
        refine lv_icmp_ge (tgt := 141) hx hb d_Mo_fault_29 (by decide) (fun h => ?_) (fun h => ?_)
        · have vc := vc.1 h
          refine lv_iconst (v := 0) hx hb d_Mo_fault_141 (by decide) ?_
          exact hret _ _ _ _ _ _ _ _ _ _ _ _ _ _ _ _ _ _ _ _ _ _ _ _ _ _ _ _ ls _ H locs d_Mo_fault_142 vc hP hD hS
        · have vc := vc.2 h
          refine lv_aload_n hx hb d_Mo_fault_32 rfl (lv_at hl 0 rfl) ?_
          refine va_get (D := D) (ci := 6) (v := .int x3) (C := R_Mo) (T := F_Mo) (N := 27) hx hb hts in_Mo hown hK hP 0 rfl rfl 0 (by decide) (hts _ fl_Mo_78) (fun _ h => h) rfl d_Mo_fault_33 ?_
          refine lv_if_ne (tgt := 141) hx hb d_Mo_fault_36 (by decide) (fun h => ?_) (fun h => ?_)
          · have vc := vc.1 h
            refine lv_iconst (v := 0) hx hb d_Mo_fault_141 (by decide) ?_
            exact hret _ _ _ _ _ _ _ _ _ _ _ _ _ _ _ _ _ _ _ _ _ _ _ _ _ _ _ _ ls _ H locs d_Mo_fault_142 vc hP hD hS
          · have vc := vc.2 h
            refine lv_iload_n hx hb d_Mo_fault_39 rfl (lv_at hl 3 rfl) ?_
            refine lv_bipush (v := 24) hx hb d_Mo_fault_40 (by decide) ?_
            refine lv_idiv hx hb d_Mo_fault_42 (by decide) ?_
            refine lv_istore hx hb d_Mo_fault_43 hl (by decide) (lv' := [(4, .int (x16 / 24)), (0, .ref (b 0)), (1, .int x), (2, .int x15), (3, .int x16)]) rfl (fun ls hl => ?_)
            refine lv_iload_n hx hb d_Mo_fault_45 rfl (lv_at hl 4 rfl) ?_
            refine lv_bipush (v := 24) hx hb d_Mo_fault_46 (by decide) ?_
            refine lv_irem hx hb d_Mo_fault_48 (by decide) ?_
            refine lv_istore hx hb d_Mo_fault_49 hl (by decide) (lv' := [(5, .int (x16 - x16 / 24 * 24)), (4, .int (x16 / 24)), (0, .ref (b 0)), (1, .int x), (2, .int x15), (3, .int x16)]) rfl (fun ls hl => ?_)
            refine lv_iconst (v := 0) hx hb d_Mo_fault_51 (by decide) ?_
            refine lv_istore hx hb d_Mo_fault_52 hl (by decide) (lv' := [(6, .int 0), (5, .int (x16 - x16 / 24 * 24)), (4, .int (x16 / 24)), (0, .ref (b 0)), (1, .int x), (2, .int x15), (3, .int x16)]) rfl (fun ls hl => ?_)
            obtain ⟨I24, mI24, vc0, vcs⟩ := vc
            have lI24 : ∀ n : Nat, ∀ (x22 : Int32) (x23 : Int32) (ls : Array Slot) (H : Heap) (locs : List Loc), I24 x22 x23 → mI24 x22 x23 < n → lv_has ls 8 [(0, .ref (b 0)), (1, .int x), (2, .int x22), (3, .int x16), (4, .int (x16 / 24)), (5, .int (x16 - x16 / 24 * 24)), (6, .int x23)] → va_P D vwCl (wM b cI cJ cZ mki msz mle mel mme mal mic mil mio mab mae msa mlc mli mna mva mma mch mre mlv mwr msh x3 mnv mns mfa mmo) H → va_D A (wM b cI cJ cZ mki msz mle mel mme mal mic mil mio mab mae msa mlc mli mna mva mma mch mre mlv mwr msh x3 mnv mns mfa mmo) → va_S A s.heap H locs → W p l e R s m args below meth c H locs cells slots Q (F0 m 54 ls []) := by
              intro n
              induction n with
              | zero => intro x22 x23 ls H locs _ h; exact absurd h (Nat.not_lt_zero _)
              | succ n ihI24 =>
                intro x22 x23 ls H locs vc hmI24 hl hP hD hS
                have vc := vcs x22 x23 vc
                refine lv_iload hx hb d_Mo_fault_54 (lv_at hl 6 rfl) ?_
                refine lv_bipush (v := 36) hx hb d_Mo_fault_56 (by decide) ?_
                refine lv_icmp_ge (tgt := 135) hx hb d_Mo_fault_58 (by decide) (fun h => ?_) (fun h => ?_)
                · have vc := vc.1 h
                  refine lv_iinc (k := 3) (v := x16 + 1) hx hb d_Mo_fault_135 hl rfl rfl (by decide) (lv' := [(3, .int (x16 + 1)), (0, .ref (b 0)), (1, .int x), (2, .int x22), (4, .int (x16 / 24)), (5, .int (x16 - x16 / 24 * 24)), (6, .int x23)]) rfl (fun ls hl => ?_)
                  refine lv_goto (tgt := 25) hx hb d_Mo_fault_138 (by decide) ?_
                  exact ihI17 x22 (x16 + 1) ls H locs vc.1 (Nat.lt_of_lt_of_le vc.2 (Nat.le_of_lt_succ hmI17)) (lv_sub hl [1, 2, 3, 0] rfl) hP hD hS
                · have vc := vc.2 h
                  refine lv_aload_n hx hb d_Mo_fault_61 rfl (lv_at hl 0 rfl) ?_
                  refine va_get (D := D) (ci := 6) (v := .ref (b 21)) (C := R_Mo) (T := F_Mo) (N := 27) hx hb hts in_Mo hown hK hP 0 rfl rfl 24 (by decide) (hts _ fl_Mo_72) (fun _ h => h) rfl d_Mo_fault_62 ?_
                  refine lv_bipush (v := 40) hx hb d_Mo_fault_65 (by decide) ?_
                  refine lv_iload hx hb d_Mo_fault_67 (lv_at hl 5 rfl) ?_
                  refine lv_imul hx hb d_Mo_fault_69 ?_
                  refine lv_iload hx hb d_Mo_fault_70 (lv_at hl 4 rfl) ?_
                  refine lv_iadd hx hb d_Mo_fault_72 ?_
                  obtain ⟨vcb, vc⟩ := vc
                  refine va_lald hx hb hK hP 21 1 rfl rfl vcb d_Mo_fault_73 ?_
                  refine lv_iload hx hb d_Mo_fault_74 (lv_at hl 6 rfl) ?_
                  refine lv_lshr hx hb d_Mo_fault_76 rfl ?_
                  refine lv_lconst (v := 1) hx hb d_Mo_fault_77 (by decide) ?_
                  refine lv_land hx hb d_Mo_fault_78 ?_
                  refine lv_lconst (v := 1) hx hb d_Mo_fault_79 (by decide) ?_
                  refine W.lcmp hx hb d_Mo_fault_80 ?_
                  obtain ⟨J25, vc, vc2⟩ := vc
                  have jJ25 : ∀ (x26 : Int32) (ls : Array Slot) (H : Heap) (locs : List Loc), J25 x26 → lv_has ls 8 [(0, .ref (b 0)), (1, .int x), (2, .int x22), (3, .int x16), (4, .int (x16 / 24)), (5, .int (x16 - x16 / 24 * 24)), (6, .int x23)] → va_P D vwCl (wM b cI cJ cZ mki msz mle mel mme mal mic mil mio mab mae msa mlc mli mna mva mma mch mre mlv mwr msh x3 mnv mns mfa mmo) H → va_D A (wM b cI cJ cZ mki msz mle mel mme mal mic mil mio mab mae msa mlc mli mna mva mma mch mre mlv mwr msh x3 mnv mns mfa mmo) → va_S A s.heap H locs → W p l e R s m args below meth c H locs cells slots Q (F0 m 89 ls [.int x26]) := by
                    intro x26 ls H locs vc hl hP hD hS
                    have vc := vc2 x26 vc
                    refine lv_istore hx hb d_Mo_fault_89 hl (by decide) (lv' := [(7, .int x26), (0, .ref (b 0)), (1, .int x), (2, .int x22), (3, .int x16), (4, .int (x16 / 24)), (5, .int (x16 - x16 / 24 * 24)), (6, .int x23)]) rfl (fun ls hl => ?_)
                    refine lv_iload hx hb d_Mo_fault_91 (lv_at hl 0 rfl) ?_
                    obtain ⟨J27, vc, vc2⟩ := vc
                    have jJ27 : ∀ (ls : Array Slot) (H : Heap) (locs : List Loc), J27 → lv_has ls 8 [(0, .ref (b 0)), (1, .int x), (2, .int x22), (3, .int x16), (4, .int (x16 / 24)), (5, .int (x16 - x16 / 24 * 24)), (6, .int x23), (7, .int x26)] → va_P D vwCl (wM b cI cJ cZ mki msz mle mel mme mal mic mil mio mab mae msa mlc mli mna mva mma mch mre mlv mwr msh x3 mnv mns mfa mmo) H → va_D A (wM b cI cJ cZ mki msz mle mel mme mal mic mil mio mab mae msa mlc mli mna mva mma mch mre mlv mwr msh x3 mnv mns mfa mmo) → va_S A s.heap H locs → W p l e R s m args below meth c H locs cells slots Q (F0 m 116 ls []) := by
                      intro  ls H locs vc hl hP hD hS
                      have vc := vc2  vc
                      refine lv_iload_n hx hb d_Mo_fault_116 rfl (lv_at hl 2 rfl) ?_
                      refine lv_iload hx hb d_Mo_fault_117 (lv_at hl 7 rfl) ?_
                      refine lv_if_eq (tgt := 126) hx hb d_Mo_fault_119 (by decide) (fun h => ?_) (fun h => ?_)
                      · have vc := vc.1 h
                        refine lv_iconst (v := 0) hx hb d_Mo_fault_126 (by decide) ?_
                        refine lv_isub hx hb d_Mo_fault_127 ?_
                        refine lv_istore_n hx hb d_Mo_fault_128 rfl hl (by decide) (lv' := [(2, .int (x22 - 0)), (0, .ref (b 0)), (1, .int x), (3, .int x16), (4, .int (x16 / 24)), (5, .int (x16 - x16 / 24 * 24)), (6, .int x23), (7, .int x26)]) rfl (fun ls hl => ?_)
                        refine lv_iinc (k := 6) (v := x23 + 1) hx hb d_Mo_fault_129 hl rfl rfl (by decide) (lv' := [(6, .int (x23 + 1)), (2, .int (x22 - 0)), (0, .ref (b 0)), (1, .int x), (3, .int x16), (4, .int (x16 / 24)), (5, .int (x16 - x16 / 24 * 24)), (7, .int x26)]) rfl (fun ls hl => ?_)
                        refine lv_goto (tgt := 54) hx hb d_Mo_fault_132 (by decide) ?_
                        exact ihI24 (x22 - 0) (x23 + 1) ls H locs vc.1 (Nat.lt_of_lt_of_le vc.2 (Nat.le_of_lt_succ hmI24)) (lv_sub hl [2, 3, 1, 4, 5, 6, 0] rfl) hP hD hS
                      · have vc := vc.2 h
                        refine lv_iconst (v := 1) hx hb d_Mo_fault_122 (by decide) ?_
                        refine lv_goto (tgt := 127) hx hb d_Mo_fault_123 (by decide) ?_
                        refine lv_isub hx hb d_Mo_fault_127 ?_
                        refine lv_istore_n hx hb d_Mo_fault_128 rfl hl (by decide) (lv' := [(2, .int (x22 - 1)), (0, .ref (b 0)), (1, .int x), (3, .int x16), (4, .int (x16 / 24)), (5, .int (x16 - x16 / 24 * 24)), (6, .int x23), (7, .int x26)]) rfl (fun ls hl => ?_)
                        refine lv_iinc (k := 6) (v := x23 + 1) hx hb d_Mo_fault_129 hl rfl rfl (by decide) (lv' := [(6, .int (x23 + 1)), (2, .int (x22 - 1)), (0, .ref (b 0)), (1, .int x), (3, .int x16), (4, .int (x16 / 24)), (5, .int (x16 - x16 / 24 * 24)), (7, .int x26)]) rfl (fun ls hl => ?_)
                        refine lv_goto (tgt := 54) hx hb d_Mo_fault_132 (by decide) ?_
                        exact ihI24 (x22 - 1) (x23 + 1) ls H locs vc.1 (Nat.lt_of_lt_of_le vc.2 (Nat.le_of_lt_succ hmI24)) (lv_sub hl [2, 3, 1, 4, 5, 6, 0] rfl) hP hD hS
                    clear vc2
                    refine lv_if_eq (tgt := 116) hx hb d_Mo_fault_93 (by decide) (fun h => ?_) (fun h => ?_)
                    · have vc := vc.1 h
                      exact jJ27 ls H locs vc (lv_sub hl [1, 2, 3, 4, 5, 6, 7, 0] rfl) hP hD hS
                    · have vc := vc.2 h
                      refine lv_iload_n hx hb d_Mo_fault_96 rfl (lv_at hl 3 rfl) ?_
                      refine lv_if_ne (tgt := 116) hx hb d_Mo_fault_97 (by decide) (fun h => ?_) (fun h => ?_)
                      · have vc := vc.1 h
                        exact jJ27 ls H locs vc (lv_sub hl [1, 2, 3, 4, 5, 6, 7, 0] rfl) hP hD hS
                      · have vc := vc.2 h
                        refine lv_sipush (v := 10000) hx hb d_Mo_fault_100 (by decide) ?_
                        refine lv_iload hx hb d_Mo_fault_103 (lv_at hl 5 rfl) ?_
                        refine lv_imul hx hb d_Mo_fault_105 ?_
                        refine lv_bipush (v := 100) hx hb d_Mo_fault_106 (by decide) ?_
                        refine lv_iload hx hb d_Mo_fault_108 (lv_at hl 6 rfl) ?_
                        refine lv_imul hx hb d_Mo_fault_110 ?_
                        refine lv_iadd hx hb d_Mo_fault_111 ?_
                        refine lv_iload hx hb d_Mo_fault_112 (lv_at hl 7 rfl) ?_
                        refine lv_iadd hx hb d_Mo_fault_114 ?_
                        exact hret _ _ _ _ _ _ _ _ _ _ _ _ _ _ _ _ _ _ _ _ _ _ _ _ _ _ _ _ ls _ H locs d_Mo_fault_115 vc hP hD hS
                  clear vc2
                  refine lv_if_ne (tgt := 88) hx hb d_Mo_fault_81 (by decide) (fun h => ?_) (fun h => ?_)
                  · have vc := vc.1 h
                    refine lv_iconst (v := 0) hx hb d_Mo_fault_88 (by decide) ?_
                    exact jJ25 0 ls H locs vc (lv_sub hl [0, 1, 2, 3, 4, 5, 6] rfl) hP hD hS
                  · have vc := vc.2 h
                    refine lv_iconst (v := 1) hx hb d_Mo_fault_84 (by decide) ?_
                    refine lv_goto (tgt := 89) hx hb d_Mo_fault_85 (by decide) ?_
                    exact jJ25 1 ls H locs vc (lv_sub hl [0, 1, 2, 3, 4, 5, 6] rfl) hP hD hS
            exact lI24 _ x15 0 ls H locs vc0 (Nat.lt_succ_self _) (lv_sub hl [3, 4, 5, 6, 2, 1, 0] rfl) hP hD hS
    exact lI17 _ x 0 ls H locs vc0 (Nat.lt_succ_self _) (lv_sub hl [2, 3, 1, 0] rfl) hP hD hS
  clear vc2
  refine lv_if_lt (tgt := 13) hx hb d_Mo_fault_2 (by decide) (fun h => ?_) (fun h => ?_)
  · have vc := vc.1 h
    refine lv_iconst (v := 1) hx hb d_Mo_fault_13 (by decide) ?_
    refine lv_goto (tgt := 18) hx hb d_Mo_fault_14 (by decide) ?_
    exact jJ1 1 ls H locs vc (lv_sub hl [0, 1] rfl) hP hD hS
  · have vc := vc.2 h
    refine lv_iload_n hx hb d_Mo_fault_5 rfl (lv_at hl 1 rfl) ?_
    refine lv_aload_n hx hb d_Mo_fault_6 rfl (lv_at hl 0 rfl) ?_
    refine va_get (D := D) (ci := 6) (v := .int mfa) (C := R_Mo) (T := F_Mo) (N := 27) hx hb hts in_Mo hown hK hP 0 rfl rfl 23 (by decide) (hts _ fl_Mo_245) (fun _ h => h) rfl d_Mo_fault_7 ?_
    refine lv_icmp_lt (tgt := 17) hx hb d_Mo_fault_10 (by decide) (fun h => ?_) (fun h => ?_)
    · have vc := vc.1 h
      refine lv_iconst (v := 0) hx hb d_Mo_fault_17 (by decide) ?_
      exact jJ1 0 ls H locs vc (lv_sub hl [0, 1] rfl) hP hD hS
    · have vc := vc.2 h
      refine lv_iconst (v := 1) hx hb d_Mo_fault_13 (by decide) ?_
      refine lv_goto (tgt := 18) hx hb d_Mo_fault_14 (by decide) ?_
      exact jJ1 1 ls H locs vc (lv_sub hl [0, 1] rfl) hP hD hS
set_option maxHeartbeats 4000000 in
theorem v_Mo_faultF (mki : Nat → Int32) (msz : Nat → Int64) (mle : Nat → Int32) (mel : Nat → Int32) (mme : Nat → Int32) (mal : Nat → Int32) (mic : Nat → Int32) (mil : Nat → Int32) (mio : Nat → Int32) (mab : Nat → Int32) (mae : Nat → Int32) (msa : Nat → Int32) (mlc : Nat → Int32) (mli : Nat → Int32) (mna : Nat → Int32) (mva : Nat → Int32) (mma : Nat → Int32) (mch : Nat → Int32) (mre : Nat → Int32) (mlv : Nat → Int32) (mwr : Nat → Int64) (msh : Nat → Int32) (mth : Int32) (mnv : Int32) (mns : Int32) (mfa : Int32) (mmo : Int32) (x : Int32) (hpre : (mfa = nI (sumN (FS (BF mwr)) 960))) : V_Mo_faultF mki msz mle mel mme mal mic mil mio mab mae msa mlc mli mna mva mma mch mre mlv mwr msh mth mnv mns mfa mmo x (fun v mki' msz' mle' mel' mme' mal' mic' mil' mio' mab' mae' msa' mlc' mli' mna' mva' mma' mch' mre' mlv' mwr' msh' mth' mnv' mns' mfa' mmo' => (((¬ sHas mfa x = true → mth' = 1) ∧ (sHas mfa x = true → mth' = 0 ∧ ∃ i p k : Nat, x = nI i ∧ FaAt (BF mwr) i p k ∧ v = nI (10000 * (p / 24) + 100 * (p % 24) + k)))) ∧ mki' = mki ∧ msz' = msz ∧ mle' = mle ∧ mel' = mel ∧ mme' = mme ∧ mal' = mal ∧ mic' = mic ∧ mil' = mil ∧ mio' = mio ∧ mab' = mab ∧ mae' = mae ∧ msa' = msa ∧ mlc' = mlc ∧ mli' = mli ∧ mna' = mna ∧ mva' = mva ∧ mma' = mma ∧ mch' = mch ∧ mre' = mre ∧ mlv' = mlv ∧ mwr' = mwr ∧ msh' = msh ∧ mnv' = mnv ∧ mns' = mns ∧ mfa' = mfa ∧ mmo' = mmo) := by
  have main : ∀ post : Int32 → (Nat → Int32) → (Nat → Int64) → (Nat → Int32) → (Nat → Int32) → (Nat → Int32) → (Nat → Int32) → (Nat → Int32) → (Nat → Int32) → (Nat → Int32) → (Nat → Int32) → (Nat → Int32) → (Nat → Int32) → (Nat → Int32) → (Nat → Int32) → (Nat → Int32) → (Nat → Int32) → (Nat → Int32) → (Nat → Int32) → (Nat → Int32) → (Nat → Int32) → (Nat → Int64) → (Nat → Int32) → Int32 → Int32 → Int32 → Int32 → Int32 → Prop, (∀ v mki' msz' mle' mel' mme' mal' mic' mil' mio' mab' mae' msa' mlc' mli' mna' mva' mma' mch' mre' mlv' mwr' msh' mth' mnv' mns' mfa' mmo', (fun v mki' msz' mle' mel' mme' mal' mic' mil' mio' mab' mae' msa' mlc' mli' mna' mva' mma' mch' mre' mlv' mwr' msh' mth' mnv' mns' mfa' mmo' => (((¬ sHas mfa x = true → mth' = 1) ∧ (sHas mfa x = true → mth' = 0 ∧ ∃ i p k : Nat, x = nI i ∧ FaAt (BF mwr) i p k ∧ v = nI (10000 * (p / 24) + 100 * (p % 24) + k)))) ∧ mki' = mki ∧ msz' = msz ∧ mle' = mle ∧ mel' = mel ∧ mme' = mme ∧ mal' = mal ∧ mic' = mic ∧ mil' = mil ∧ mio' = mio ∧ mab' = mab ∧ mae' = mae ∧ msa' = msa ∧ mlc' = mlc ∧ mli' = mli ∧ mna' = mna ∧ mva' = mva ∧ mma' = mma ∧ mch' = mch ∧ mre' = mre ∧ mlv' = mlv ∧ mwr' = mwr ∧ msh' = msh ∧ mnv' = mnv ∧ mns' = mns ∧ mfa' = mfa ∧ mmo' = mmo) v mki' msz' mle' mel' mme' mal' mic' mil' mio' mab' mae' msa' mlc' mli' mna' mva' mma' mch' mre' mlv' mwr' msh' mth' mnv' mns' mfa' mmo' → post v mki' msz' mle' mel' mme' mal' mic' mil' mio' mab' mae' msa' mlc' mli' mna' mva' mma' mch' mre' mlv' mwr' msh' mth' mnv' mns' mfa' mmo') → V_Mo_faultF mki msz mle mel mme mal mic mil mio mab mae msa mlc mli mna mva mma mch mre mlv mwr msh mth mnv mns mfa mmo x post := by
    intro post hpost
    unfold V_Mo_faultF
    have hbd : ∀ b, sumN (FS (BF mwr)) b ≤ 36 * b := sumN_bd (fun p => cN_le _ _)
    have hT := hbd 960
    have hxs : sHas mfa x = true ↔ ¬ x < 0 ∧ x < mfa := sHas_i
    refine ⟨fun z => (z = 0 ∧ sHas mfa x = true) ∨ (z = 1 ∧ ¬ sHas mfa x = true), ⟨fun h => Or.inr ⟨rfl, fun q => (hxs.mp q).1 h⟩, fun h => ⟨fun h2 => Or.inl ⟨rfl, hxs.mpr ⟨h, h2⟩⟩, fun h2 => Or.inr ⟨rfl, fun q => h2 (hxs.mp q).2⟩⟩⟩, ?_⟩
    rintro x3 (⟨rfl, hx⟩ | ⟨rfl, hn⟩)
    rotate_left
    · refine ⟨fun _ _ => True, fun _ _ => 0, trivial, ?_⟩
      intro x15 x16 _
      exact ⟨fun _ => (hpost _ _ _ _ _ _ _ _ _ _ _ _ _ _ _ _ _ _ _ _ _ _ _ _ _ _ _ _ ⟨⟨fun _ => rfl, fun h => absurd h hn⟩, rfl, rfl, rfl, rfl, rfl, rfl, rfl, rfl, rfl, rfl, rfl, rfl, rfl, rfl, rfl, rfl, rfl, rfl, rfl, rfl, rfl, rfl, rfl, rfl, rfl, rfl⟩), fun _ => ⟨fun _ => (hpost _ _ _ _ _ _ _ _ _ _ _ _ _ _ _ _ _ _ _ _ _ _ _ _ _ _ _ _ ⟨⟨fun _ => rfl, fun h => absurd h hn⟩, rfl, rfl, rfl, rfl, rfl, rfl, rfl, rfl, rfl, rfl, rfl, rfl, rfl, rfl, rfl, rfl, rfl, rfl, rfl, rfl, rfl, rfl, rfl, rfl, rfl, rfl⟩), fun h => absurd h (by decide)⟩⟩
    obtain ⟨i, hi, rfl⟩ := sHas_nI (n := sumN (FS (BF mwr)) 960) (by omega) (by rw [← hpre]; exact hx)
    refine ⟨fun xl xp => ∃ p, p ≤ 960 ∧ xp = nI p ∧ sumN (FS (BF mwr)) p ≤ i ∧ xl = nI (i - sumN (FS (BF mwr)) p), fun _ xp => 960 - xp.toInt.toNat, ⟨0, Nat.zero_le _, rfl, Nat.zero_le _, rfl⟩, ?_⟩
    rintro xl xp ⟨p, hp, rfl, hle, rfl⟩
    refine ⟨fun h => ?_, fun h => ⟨fun q => absurd rfl q, fun _ => ?_⟩⟩
    · obtain rfl := (fill_end (N := 960) h (by omega) hp).symm
      omega
    have hp2 := fill_step (N := 960) h (by omega) hp
    have mu1 := fill_mu (N := 960) hp2 (by omega)
    have hsu : sumN (FS (BF mwr)) (p + 1) = sumN (FS (BF mwr)) p + cN (BF mwr p) 36 := rfl
    have hb1 := hbd p
    refine ⟨fun xl xk => ∃ k, k ≤ 36 ∧ xk = nI k ∧ sumN (FS (BF mwr)) p + cN (BF mwr p) k ≤ i ∧ xl = nI (i - (sumN (FS (BF mwr)) p + cN (BF mwr p) k)), fun _ xk => 36 - xk.toInt.toNat, ⟨0, Nat.zero_le _, rfl, hle, rfl⟩, ?_⟩
    rintro xl xk ⟨k, hk, rfl, hle2, rfl⟩
    refine ⟨fun h2 => ?_, fun h2 => ?_⟩
    · obtain rfl := (fill_end (N := 36) h2 (by omega) hk).symm
      exact ⟨⟨p + 1, hp2, nI_1 p, hle2, rfl⟩, mu1⟩
    have hk2 := fill_step (N := 36) h2 (by omega) hk
    have mu2 := fill_mu (N := 36) hk2 (by omega)
    have ix : (40 * (nI p - nI p / 24 * 24)) + (nI p / 24) = nI (40 * (p % 24) + p / 24) := by rw [rem24 (by omega), div24 (by omega), jx40]
    have v9 : vp_in ((40 * (nI p - nI p / 24 * 24)) + (nI p / 24)) 960 := by rw [ix]; exact vp_in_nI (by omega) (by decide)
    have c4 : ((40 * (nI p - nI p / 24 * 24)) + (nI p / 24) : Int32).toNatClampNeg = 40 * (p % 24) + p / 24 := by rw [ix, nI_clamp (by omega)]
    rw [c4, bL_and1 _ (by omega), lg_eq0]
    have hB : (if bL (mwr (40 * (p % 24) + p / 24)) k = true then (1 : Int64) else 0) = 1 ↔ BF mwr p k := by
      unfold BF
      cases bL (mwr (40 * (p % 24) + p / 24)) k <;> decide
    rw [hB]
    refine ⟨v9, fun z => (z = 1 ∧ BF mwr p k) ∨ (z = 0 ∧ ¬ BF mwr p k), ⟨fun q => Or.inr ⟨rfl, q⟩, fun q => Or.inl ⟨rfl, q⟩⟩, ?_⟩
    have i0 : nI (i - (sumN (FS (BF mwr)) p + cN (BF mwr p) k)) = 0 ↔ i = sumN (FS (BF mwr)) p + cN (BF mwr p) k := by rw [nI_eq0 (by omega)]; omega
    rw [i0]
    rintro z (⟨rfl, hb⟩ | ⟨rfl, hb⟩)
    · refine ⟨¬ i = sumN (FS (BF mwr)) p + cN (BF mwr p) k, ⟨fun q => absurd q (by decide), fun _ => ⟨fun q => q, fun q => ?_⟩⟩, fun hJ => ⟨fun q => absurd q (by decide), fun _ => ⟨⟨k + 1, hk2, nI_1 k, ?_, ?_⟩, mu2⟩⟩⟩
      · refine (hpost _ _ _ _ _ _ _ _ _ _ _ _ _ _ _ _ _ _ _ _ _ _ _ _ _ _ _ _ ⟨⟨fun q => absurd hx q, fun _ => ⟨rfl, i, p, k, rfl, ⟨hp2, hk2, hb, q⟩, ?_⟩⟩, rfl, rfl, rfl, rfl, rfl, rfl, rfl, rfl, rfl, rfl, rfl, rfl, rfl, rfl, rfl, rfl, rfl, rfl, rfl, rfl, rfl, rfl, rfl, rfl, rfl, rfl⟩)
        rw [rem24 (by omega), div24 (by omega), nI_mulL, nI_mulL, nI_add, nI_add]
      · rw [cN_s.1 hb]; omega
      · rw [cN_s.1 hb, show (1 : Int32) = nI 1 from rfl, nI_sub (by omega)]; congr 1
    · refine ⟨True, ⟨fun _ => trivial, fun q => absurd rfl q⟩, fun _ => ⟨fun _ => ⟨⟨k + 1, hk2, nI_1 k, ?_, ?_⟩, mu2⟩, fun q => absurd rfl q⟩⟩
      · rw [cN_s.2 hb]; exact hle2
      · rw [cN_s.2 hb, Int32.sub_zero]
  exact main _ (fun _ _ _ _ _ _ _ _ _ _ _ _ _ _ _ _ _ _ _ _ _ _ _ _ _ _ _ _ h => h)
theorem c_Mo_faultF (l : Launch) (D : va_G) (b : Nat → Nat) (cI cJ cZ : ClassId) (mki : Nat → Int32) (msz : Nat → Int64) (mle : Nat → Int32) (mel : Nat → Int32) (mme : Nat → Int32) (mal : Nat → Int32) (mic : Nat → Int32) (mil : Nat → Int32) (mio : Nat → Int32) (mab : Nat → Int32) (mae : Nat → Int32) (msa : Nat → Int32) (mlc : Nat → Int32) (mli : Nat → Int32) (mna : Nat → Int32) (mva : Nat → Int32) (mma : Nat → Int32) (mch : Nat → Int32) (mre : Nat → Int32) (mlv : Nat → Int32) (mwr : Nat → Int64) (msh : Nat → Int32) (mth : Int32) (mnv : Int32) (mns : Int32) (mfa : Int32) (mmo : Int32) (x : Int32) (hpre : (mfa = nI (sumN (FS (BF mwr)) 960))) : Wm (S := Int32 × Int32) l y_Mo_fault b_Mo_fault 8 (some .int) 0 0 [.ref (b 0), .int x] D (tyA cI cJ cZ) (wM b cI cJ cZ mki msz mle mel mme mal mic mil mio mab mae msa mlc mli mna mva mma mch mre mlv mwr msh mth mnv mns mfa mmo) (fun uu => ((¬ sHas mfa x = true → uu.2 = 1) ∧ (sHas mfa x = true → uu.2 = 0 ∧ ∃ i p k : Nat, x = nI i ∧ FaAt (BF mwr) i p k ∧ uu.1 = nI (10000 * (p / 24) + 100 * (p % 24) + k)))) (fun uu => some (.int (uu.1))) (fun uu => (wM b cI cJ cZ mki msz mle mel mme mal mic mil mio mab mae msa mlc mli mna mva mma mch mre mlv mwr msh uu.2 mnv mns mfa mmo)) :=
  wm_i (by decide) (fun _ _ => rfl) (Nat.le_of_ble_eq_true rfl) (fun p e s m below meth c ls Q A S hK hP hD hA hS hl hret => g_Mo_faultF S (Nat.le_refl _) (Nat.le_refl _) ⟨Nat.le_refl _, Nat.le_refl _⟩ D b cI cJ cZ mki msz mle mel mme mal mic mil mio mab mae msa mlc mli mna mva mma mch mre mlv mwr msh mth mnv mns mfa mmo x hK hP hD hA hS hl (v_Mo_faultF mki msz mle mel mme mal mic mil mio mab mae msa mlc mli mna mva mma mch mre mlv mwr msh mth mnv mns mfa mmo x hpre) (fun v mki' msz' mle' mel' mme' mal' mic' mil' mio' mab' mae' msa' mlc' mli' mna' mva' mma' mch' mre' mlv' mwr' msh' mth' mnv' mns' mfa' mmo' ls1 pc H1 locs1 hd hv hP1 hD1 hS1 => by obtain ⟨hp, rfl, rfl, rfl, rfl, rfl, rfl, rfl, rfl, rfl, rfl, rfl, rfl, rfl, rfl, rfl, rfl, rfl, rfl, rfl, rfl, rfl, rfl, rfl, rfl, rfl, rfl⟩ := hv; exact hret (v, mth') _ ls1 pc H1 locs1 hd hp rfl hP1 hD1 hS1))
theorem hd_Mo_faultF : y_Mo_fault.cls ≠ "java/lang/invoke/MethodHandle" ∧ y_Mo_fault.cls ≠ "java/lang/invoke/VarHandle" ∧ (parseMethodDescriptor y_Mo_fault.desc).map (fun d => d.parameters.length) = some 1 := ⟨by decide, by decide, by decide +kernel⟩
