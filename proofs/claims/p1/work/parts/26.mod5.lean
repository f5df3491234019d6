def lo3 (j : Nat) : Int32 := nI j - 3
theorem lo3_i : ∀ j : Nat, j ≤ 6 → (lo3 j).toInt = (j : Int) - 3 := by decide
theorem lo3_1 : ∀ j : Nat, j ≤ 5 → lo3 j + 1 = lo3 (j + 1) := by decide
theorem lo3_c : ∀ j : Nat, j ≤ 6 → (lo3 j + 3).toNatClampNeg = j := by decide
theorem thou_1 : ∀ j : Nat, j ≤ 5 → (thou j).toInt64 * 10 = (thou (j + 1)).toInt64 := by decide
theorem num_loop (x y : Int32) (h1 : ¬ y < -3) (h3 : y ≤ 3) (post : Int64 → Prop) (hp : post (x.toInt64 * (thou (y + 3 : Int32).toNatClampNeg).toInt64)) :
    ∃ (I4 : Int64 → Int32 → Prop) (mI4 : Int64 → Int32 → Nat), I4 x.toInt64 (-3) ∧ (∀ (y2 : Int64) (x3 : Int32), I4 y2 x3 → ((y ≤ x3 → post y2) ∧ (¬ y ≤ x3 → (I4 (y2 * 10) (x3 + 1) ∧ mI4 (y2 * 10) (x3 + 1) < mI4 y2 x3)))) := by
  have hy3 : y.toInt ≤ 3 := Int32.le_iff_toInt_le.mp h3
  have hy1 : -3 ≤ y.toInt := Int32.le_iff_toInt_le.mp (Int32.not_lt.mp h1)
  refine ⟨fun v i => ∃ j : Nat, j ≤ 6 ∧ i = lo3 j ∧ i.toInt ≤ y.toInt ∧ v = x.toInt64 * (thou j).toInt64, fun _ i => (3 - i.toInt).toNat, ⟨0, by decide, rfl, hy1, ?_⟩, ?_⟩
  · rw [show (thou 0).toInt64 = 1 from rfl, Int64.mul_one]
  · rintro v i ⟨j, hj, rfl, hij, rfl⟩
    have e := lo3_i j hj
    refine ⟨fun h => ?_, fun h => ?_⟩
    · have h := Int32.le_iff_toInt_le.mp h
      have e2 : y = lo3 j := Int32.toInt_inj.mp (by omega)
      rw [e2, lo3_c j hj] at hp; exact hp
    · have h : ¬ y.toInt ≤ (lo3 j).toInt := fun q => h (Int32.le_iff_toInt_le.mpr q)
      have hj5 : j ≤ 5 := by omega
      have e2 := lo3_i (j + 1) (by omega)
      refine ⟨⟨j + 1, by omega, lo3_1 j hj5, ?_, ?_⟩, ?_⟩
      · rw [lo3_1 j hj5, e2]; omega
      · rw [Int64.mul_assoc, thou_1 j hj5]
      · simp only [lo3_1 j hj5, e2, e]; omega
def V_Mo_number (mki : Nat → Int32) (msz : Nat → Int64) (mle : Nat → Int32) (mel : Nat → Int32) (mme : Nat → Int32) (mal : Nat → Int32) (mic : Nat → Int32) (mil : Nat → Int32) (mio : Nat → Int32) (mab : Nat → Int32) (mae : Nat → Int32) (msa : Nat → Int32) (mlc : Nat → Int32) (mli : Nat → Int32) (mna : Nat → Int32) (mva : Nat → Int32) (mma : Nat → Int32) (mch : Nat → Int32) (mre : Nat → Int32) (mlv : Nat → Int32) (mwr : Nat → Int64) (msh : Nat → Int32) (mth : Int32) (mnv : Int32) (mns : Int32) (mfa : Int32) (mmo : Int32) (x : Int32) (y : Int32) (post : Int32 → (Nat → Int32) → (Nat → Int64) → (Nat → Int32) → (Nat → Int32) → (Nat → Int32) → (Nat → Int32) → (Nat → Int32) → (Nat → Int32) → (Nat → Int32) → (Nat → Int32) → (Nat → Int32) → (Nat → Int32) → (Nat → Int32) → (Nat → Int32) → (Nat → Int32) → (Nat → Int32) → (Nat → Int32) → (Nat → Int32) → (Nat → Int32) → (Nat → Int32) → (Nat → Int64) → (Nat → Int32) → Int32 → Int32 → Int32 → Int32 → Int32 → Prop) : Prop :=
  ((x < (-99999) → post 0 mki msz mle mel mme mal mic mil mio mab mae msa mlc mli mna mva mma mch mre mlv mwr msh 1 mnv mns mfa mmo) ∧ (¬ x < (-99999) → ((99999 < x → post 0 mki msz mle mel mme mal mic mil mio mab mae msa mlc mli mna mva mma mch mre mlv mwr msh 1 mnv mns mfa mmo) ∧ (¬ 99999 < x → ((y < (-3) → post 0 mki msz mle mel mme mal mic mil mio mab mae msa mlc mli mna mva mma mch mre mlv mwr msh 1 mnv mns mfa mmo) ∧ (¬ y < (-3) → ((y ≤ 3 → (∃ (I4 : Int64 → Int32 → Prop) (mI4 : Int64 → Int32 → Nat), I4 x.toInt64 (-3) ∧ (∀ (y2 : Int64) (x3 : Int32), I4 y2 x3 → ((y ≤ x3 → ((¬ mnv < 0 ∧ mnv ≤ 40) ∧ ((mnv = 40 → post 0 mki msz mle mel mme mal mic mil mio mab mae msa mlc mli mna mva mma mch mre mlv mwr msh 2 mnv mns mfa mmo) ∧ (¬ (mnv = 40) → post (mnv + 1 - 1) (upd mki mnv.toNatClampNeg 2) (vp_updL msz mnv.toNatClampNeg y2) mle mel mme mal mic mil mio mab mae msa mlc mli mna mva mma mch mre mlv mwr msh 0 (mnv + 1) mns mfa mmo)))) ∧ (¬ y ≤ x3 → (I4 (y2 * 10) (x3 + 1) ∧ mI4 (y2 * 10) (x3 + 1) < mI4 y2 x3)))))) ∧ (¬ y ≤ 3 → post 0 mki msz mle mel mme mal mic mil mio mab mae msa mlc mli mna mva mma mch mre mlv mwr msh 1 mnv mns mfa mmo))))))))
set_option maxHeartbeats 4000000 in
set_option maxRecDepth 100000 in
theorem g_Mo_number {p : Program} {l : Launch} {e : Env} {R : Room} {s : State} {m : MethodId} {args : Array Value} {below : List Frame} {meth : Method} {c : Code} {H : Heap} {locs : List Loc} {cells slots : Nat} {Q : State → Prop} {ls : Array Slot} {A : Nat → Prop} (S : CallFix p m c b_Mo_number 6 s args W0 R_Mo) (hRf : 2 ≤ R.frames) (hRl : 47 ≤ R.locals) (hRc : cells ≤ R.cells ∧ slots ≤ R.slots) (D : va_G) (b : Nat → Nat) (cI cJ cZ : ClassId) (mki : Nat → Int32) (msz : Nat → Int64) (mle : Nat → Int32) (mel : Nat → Int32) (mme : Nat → Int32) (mal : Nat → Int32) (mic : Nat → Int32) (mil : Nat → Int32) (mio : Nat → Int32) (mab : Nat → Int32) (mae : Nat → Int32) (msa : Nat → Int32) (mlc : Nat → Int32) (mli : Nat → Int32) (mna : Nat → Int32) (mva : Nat → Int32) (mma : Nat → Int32) (mch : Nat → Int32) (mre : Nat → Int32) (mlv : Nat → Int32) (mwr : Nat → Int64) (msh : Nat → Int32) (mth : Int32) (mnv : Int32) (mns : Int32) (mfa : Int32) (mmo : Int32) (x : Int32) (y : Int32) (hK : va_K D vwCl (tyA cI cJ cZ) s) (hP : va_P D vwCl (wM b cI cJ cZ mki msz mle mel mme mal mic mil mio mab mae msa mlc mli mna mva mma mch mre mlv mwr msh mth mnv mns mfa mmo) H) (hD : va_D A (wM b cI cJ cZ mki msz mle mel mme mal mic mil mio mab mae msa mlc mli mna mva mma mch mre mlv mwr msh mth mnv mns mfa mmo)) (hA : ∀ q, s.heap.size ≤ q → A q) (hS : va_S A s.heap H locs) (hl : lv_has ls 6 [(0, .ref (b 0)), (1, .int x), (2, .int y)]) {post : Int32 → (Nat → Int32) → (Nat → Int64) → (Nat → Int32) → (Nat → Int32) → (Nat → Int32) → (Nat → Int32) → (Nat → Int32) → (Nat → Int32) → (Nat → Int32) → (Nat → Int32) → (Nat → Int32) → (Nat → Int32) → (Nat → Int32) → (Nat → Int32) → (Nat → Int32) → (Nat → Int32) → (Nat → Int32) → (Nat → Int32) → (Nat → Int32) → (Nat → Int32) → (Nat → Int64) → (Nat → Int32) → Int32 → Int32 → Int32 → Int32 → Int32 → Prop} (vc : V_Mo_number mki msz mle mel mme mal mic mil mio mab mae msa mlc mli mna mva mma mch mre mlv mwr msh mth mnv mns mfa mmo x y post)
    (hret : ∀ (v : Int32) (mki : Nat → Int32) (msz : Nat → Int64) (mle : Nat → Int32) (mel : Nat → Int32) (mme : Nat → Int32) (mal : Nat → Int32) (mic : Nat → Int32) (mil : Nat → Int32) (mio : Nat → Int32) (mab : Nat → Int32) (mae : Nat → Int32) (msa : Nat → Int32) (mlc : Nat → Int32) (mli : Nat → Int32) (mna : Nat → Int32) (mva : Nat → Int32) (mma : Nat → Int32) (mch : Nat → Int32) (mre : Nat → Int32) (mlv : Nat → Int32) (mwr : Nat → Int64) (msh : Nat → Int32) (mth : Int32) (mnv : Int32) (mns : Int32) (mfa : Int32) (mmo : Int32) (ls : Array Slot) (pc : Nat) (H : Heap) (locs : List Loc), decode b_Mo_number pc = .ok (.ireturn, 1) → post v mki msz mle mel mme mal mic mil mio mab mae msa mlc mli mna mva mma mch mre mlv mwr msh mth mnv mns mfa mmo → va_P D vwCl (wM b cI cJ cZ mki msz mle mel mme mal mic mil mio mab mae msa mlc mli mna mva mma mch mre mlv mwr msh mth mnv mns mfa mmo) H → va_D A (wM b cI cJ cZ mki msz mle mel mme mal mic mil mio mab mae msa mlc mli mna mva mma mch mre mlv mwr msh mth mnv mns mfa mmo) → va_S A s.heap H locs → W p l e R s m args below meth c H locs cells slots Q (F0 m pc ls [.int v])) : W p l e R s m args below meth c H locs cells slots Q (F0 m 0 ls []) := by
  have hx := S.1
  have hb := S.2.1
  have hown := S.2.2.2.1
  have hts := S.2.2.2.2
  unfold V_Mo_number at vc
  refine lv_aload_n hx hb d_Mo_number_0 rfl (lv_at hl 0 rfl) ?_
  refine lv_iload_n hx hb d_Mo_number_1 rfl (lv_at hl 1 rfl) ?_
  refine lv_ldc hx hb hown (hts _ co_Mo_92) d_Mo_number_2 ?_
  refine lv_icmp_lt (tgt := 24) hx hb d_Mo_number_4 (by decide) (fun h => ?_) (fun h => ?_)
  · have vc := vc.1 h
    refine lv_iconst (v := 1) hx hb d_Mo_number_24 (by decide) ?_
    refine lv_goto (tgt := 29) hx hb d_Mo_number_25 (by decide) ?_
    refine va_put (D := D) (ci := 6) (v := .int 1) (ty := .int) (C := R_Mo) (T := F_Mo) (N := 27) hx hb hts in_Mo t_Mo t_Mo_ok n_Mo hown hK hP hD hS 0 rfl rfl 0 (by decide) (hts _ fl_Mo_78) (fun _ h => h) rfl (by decide +kernel) rfl rfl (Nat.le_of_ble_eq_true rfl) d_Mo_number_29 (fun H locs hP hD hS => ?_)
    have hP : va_P D vwCl (wM b cI cJ cZ mki msz mle mel mme mal mic mil mio mab mae msa mlc mli mna mva mma mch mre mlv mwr msh 1 mnv mns mfa mmo) H := hP
    have hD : va_D A (wM b cI cJ cZ mki msz mle mel mme mal mic mil mio mab mae msa mlc mli mna mva mma mch mre mlv mwr msh 1 mnv mns mfa mmo) := hD
    refine lv_aload_n hx hb d_Mo_number_32 rfl (lv_at hl 0 rfl) ?_
    refine va_get (D := D) (ci := 6) (v := .int 1) (C := R_Mo) (T := F_Mo) (N := 27) hx hb hts in_Mo hown hK hP 0 rfl rfl 0 (by decide) (hts _ fl_Mo_78) (fun _ h => h) rfl d_Mo_number_33 ?_
    refine lv_if_eq (tgt := 41) hx hb d_Mo_number_36 (by decide) (fun h => ?_) (fun h => ?_)
    · exact absurd h (by decide)
    · skip
      refine lv_iconst (v := 0) hx hb d_Mo_number_39 (by decide) ?_
      exact hret _ _ _ _ _ _ _ _ _ _ _ _ _ _ _ _ _ _ _ _ _ _ _ _ _ _ _ _ ls _ H locs d_Mo_number_40 vc hP hD hS
  · have vc := vc.2 h
    refine lv_iload_n hx hb d_Mo_number_7 rfl (lv_at hl 1 rfl) ?_
    refine lv_ldc hx hb hown (hts _ co_Mo_93) d_Mo_number_8 ?_
    refine lv_icmp_gt (tgt := 24) hx hb d_Mo_number_10 (by decide) (fun h => ?_) (fun h => ?_)
    · have vc := vc.1 h
      refine lv_iconst (v := 1) hx hb d_Mo_number_24 (by decide) ?_
      refine lv_goto (tgt := 29) hx hb d_Mo_number_25 (by decide) ?_
      refine va_put (D := D) (ci := 6) (v := .int 1) (ty := .int) (C := R_Mo) (T := F_Mo) (N := 27) hx hb hts in_Mo t_Mo t_Mo_ok n_Mo hown hK hP hD hS 0 rfl rfl 0 (by decide) (hts _ fl_Mo_78) (fun _ h => h) rfl (by decide +kernel) rfl rfl (Nat.le_of_ble_eq_true rfl) d_Mo_number_29 (fun H locs hP hD hS => ?_)
      have hP : va_P D vwCl (wM b cI cJ cZ mki msz mle mel mme mal mic mil mio mab mae msa mlc mli mna mva mma mch mre mlv mwr msh 1 mnv mns mfa mmo) H := hP
      have hD : va_D A (wM b cI cJ cZ mki msz mle mel mme mal mic mil mio mab mae msa mlc mli mna mva mma mch mre mlv mwr msh 1 mnv mns mfa mmo) := hD
      refine lv_aload_n hx hb d_Mo_number_32 rfl (lv_at hl 0 rfl) ?_
      refine va_get (D := D) (ci := 6) (v := .int 1) (C := R_Mo) (T := F_Mo) (N := 27) hx hb hts in_Mo hown hK hP 0 rfl rfl 0 (by decide) (hts _ fl_Mo_78) (fun _ h => h) rfl d_Mo_number_33 ?_
      refine lv_if_eq (tgt := 41) hx hb d_Mo_number_36 (by decide) (fun h => ?_) (fun h => ?_)
      · exact absurd h (by decide)
      · skip
        refine lv_iconst (v := 0) hx hb d_Mo_number_39 (by decide) ?_
        exact hret _ _ _ _ _ _ _ _ _ _ _ _ _ _ _ _ _ _ _ _ _ _ _ _ _ _ _ _ ls _ H locs d_Mo_number_40 vc hP hD hS
    · have vc := vc.2 h
      refine lv_iload_n hx hb d_Mo_number_13 rfl (lv_at hl 2 rfl) ?_
      refine lv_bipush (v := (-3)) hx hb d_Mo_number_14 (by decide) ?_
      refine lv_icmp_lt (tgt := 24) hx hb d_Mo_number_16 (by decide) (fun h => ?_) (fun h => ?_)
      · have vc := vc.1 h
        refine lv_iconst (v := 1) hx hb d_Mo_number_24 (by decide) ?_
        refine lv_goto (tgt := 29) hx hb d_Mo_number_25 (by decide) ?_
        refine va_put (D := D) (ci := 6) (v := .int 1) (ty := .int) (C := R_Mo) (T := F_Mo) (N := 27) hx hb hts in_Mo t_Mo t_Mo_ok n_Mo hown hK hP hD hS 0 rfl rfl 0 (by decide) (hts _ fl_Mo_78) (fun _ h => h) rfl (by decide +kernel) rfl rfl (Nat.le_of_ble_eq_true rfl) d_Mo_number_29 (fun H locs hP hD hS => ?_)
        have hP : va_P D vwCl (wM b cI cJ cZ mki msz mle mel mme mal mic mil mio mab mae msa mlc mli mna mva mma mch mre mlv mwr msh 1 mnv mns mfa mmo) H := hP
        have hD : va_D A (wM b cI cJ cZ mki msz mle mel mme mal mic mil mio mab mae msa mlc mli mna mva mma mch mre mlv mwr msh 1 mnv mns mfa mmo) := hD
        refine lv_aload_n hx hb d_Mo_number_32 rfl (lv_at hl 0 rfl) ?_
        refine va_get (D := D) (ci := 6) (v := .int 1) (C := R_Mo) (T := F_Mo) (N := 27) hx hb hts in_Mo hown hK hP 0 rfl rfl 0 (by decide) (hts _ fl_Mo_78) (fun _ h => h) rfl d_Mo_number_33 ?_
        refine lv_if_eq (tgt := 41) hx hb d_Mo_number_36 (by decide) (fun h => ?_) (fun h => ?_)
        · exact absurd h (by decide)
        · skip
          refine lv_iconst (v := 0) hx hb d_Mo_number_39 (by decide) ?_
          exact hret _ _ _ _ _ _ _ _ _ _ _ _ _ _ _ _ _ _ _ _ _ _ _ _ _ _ _ _ ls _ H locs d_Mo_number_40 vc hP hD hS
      · have vc := vc.2 h
        refine lv_iload_n hx hb d_Mo_number_19 rfl (lv_at hl 2 rfl) ?_
        refine lv_iconst (v := 3) hx hb d_Mo_number_20 (by decide) ?_
        refine lv_icmp_le (tgt := 28) hx hb d_Mo_number_21 (by decide) (fun h => ?_) (fun h => ?_)
        · have vc := vc.1 h
          refine lv_iconst (v := 0) hx hb d_Mo_number_28 (by decide) ?_
          refine va_put (D := D) (ci := 6) (v := .int 0) (ty := .int) (C := R_Mo) (T := F_Mo) (N := 27) hx hb hts in_Mo t_Mo t_Mo_ok n_Mo hown hK hP hD hS 0 rfl rfl 0 (by decide) (hts _ fl_Mo_78) (fun _ h => h) rfl (by decide +kernel) rfl rfl (Nat.le_of_ble_eq_true rfl) d_Mo_number_29 (fun H locs hP hD hS => ?_)
          have hP : va_P D vwCl (wM b cI cJ cZ mki msz mle mel mme mal mic mil mio mab mae msa mlc mli mna mva mma mch mre mlv mwr msh 0 mnv mns mfa mmo) H := hP
          have hD : va_D A (wM b cI cJ cZ mki msz mle mel mme mal mic mil mio mab mae msa mlc mli mna mva mma mch mre mlv mwr msh 0 mnv mns mfa mmo) := hD
          refine lv_aload_n hx hb d_Mo_number_32 rfl (lv_at hl 0 rfl) ?_
          refine va_get (D := D) (ci := 6) (v := .int 0) (C := R_Mo) (T := F_Mo) (N := 27) hx hb hts in_Mo hown hK hP 0 rfl rfl 0 (by decide) (hts _ fl_Mo_78) (fun _ h => h) rfl d_Mo_number_33 ?_
          refine lv_if_eq (tgt := 41) hx hb d_Mo_number_36 (by decide) (fun h => ?_) (fun h => ?_)
          · skip
            refine lv_iload_n hx hb d_Mo_number_41 rfl (lv_at hl 1 rfl) ?_
            refine lv_i2l hx hb d_Mo_number_42 rfl ?_
            refine lv_lstore_n hx hb d_Mo_number_43 rfl hl (by decide) (lv' := [(3, .long x.toInt64), (0, .ref (b 0)), (1, .int x), (2, .int y)]) rfl (fun ls hl => ?_)
            refine lv_bipush (v := (-3)) hx hb d_Mo_number_44 (by decide) ?_
            refine lv_istore hx hb d_Mo_number_46 hl (by decide) (lv' := [(5, .int (-3)), (3, .long x.toInt64), (0, .ref (b 0)), (1, .int x), (2, .int y)]) rfl (fun ls hl => ?_)
            obtain ⟨I4, mI4, vc0, vcs⟩ := vc
            have lI4 : ∀ n : Nat, ∀ (y2 : Int64) (x3 : Int32) (ls : Array Slot) (H : Heap) (locs : List Loc), I4 y2 x3 → mI4 y2 x3 < n → lv_has ls 6 [(0, .ref (b 0)), (1, .int x), (2, .int y), (3, .long y2), (5, .int x3)] → va_P D vwCl (wM b cI cJ cZ mki msz mle mel mme mal mic mil mio mab mae msa mlc mli mna mva mma mch mre mlv mwr msh 0 mnv mns mfa mmo) H → va_D A (wM b cI cJ cZ mki msz mle mel mme mal mic mil mio mab mae msa mlc mli mna mva mma mch mre mlv mwr msh 0 mnv mns mfa mmo) → va_S A s.heap H locs → W p l e R s m args below meth c H locs cells slots Q (F0 m 48 ls []) := by
              intro n
              induction n with
              | zero => intro y2 x3 ls H locs _ h; exact absurd h (Nat.not_lt_zero _)
              | succ n ihI4 =>
                intro y2 x3 ls H locs vc hmI4 hl hP hD hS
                have vc := vcs y2 x3 vc
                refine lv_iload hx hb d_Mo_number_48 (lv_at hl 4 rfl) ?_
                refine lv_iload_n hx hb d_Mo_number_50 rfl (lv_at hl 2 rfl) ?_
                refine lv_icmp_ge (tgt := 66) hx hb d_Mo_number_51 (by decide) (fun h => ?_) (fun h => ?_)
                · have vc := vc.1 h
                  refine lv_aload_n hx hb d_Mo_number_66 rfl (lv_at hl 0 rfl) ?_
                  refine lv_iconst (v := 2) hx hb d_Mo_number_67 (by decide) ?_
                  refine lv_lload_n hx hb d_Mo_number_68 rfl (lv_at hl 3 rfl) ?_
                  obtain ⟨hpre, vc⟩ := vc
                  by_cases hv1 : mnv = 40
                  · have vc := vc.1 hv1
                    refine wc_V (As := [.int 2, .long y2]) (rest := []) (wr := ([] : va_W)) S (c_Mo_made_1 l D b cI cJ cZ mki msz mle mel mme mal mic mil mio mab mae msa mlc mli mna mva mma mch mre mlv mwr msh 0 mnv mns mfa mmo 2 y2 hpre hv1) k_Mo_made i_Mo_made e_Mo_made o_Mo ml_Mo_89 hd_Mo_made (Nat.le_trans (by decide) hRf) (Nat.le_trans (by decide) hRl) hRc (va_recv hK hP (q0 := 0) (ci := 6) rfl rfl) hK hP hD hS hA [0, 1, 2, 3, 4, 5, 6, 7, 8, 9, 10, 11, 12, 13, 14, 15, 16, 17, 18, 19, 20, 21, 22] [] rfl rfl rfl (by decide) (by decide) (by decide) hl.1 rfl (Nat.le_of_ble_eq_true rfl) d_Mo_number_69 (fun _ H locs _ hP hD hS => ?_)
                    have hP : va_P D vwCl (wM b cI cJ cZ mki msz mle mel mme mal mic mil mio mab mae msa mlc mli mna mva mma mch mre mlv mwr msh 2 mnv mns mfa mmo) H := hP
                    have hD : va_D A (wM b cI cJ cZ mki msz mle mel mme mal mic mil mio mab mae msa mlc mli mna mva mma mch mre mlv mwr msh 2 mnv mns mfa mmo) := hD
                    exact hret _ _ _ _ _ _ _ _ _ _ _ _ _ _ _ _ _ _ _ _ _ _ _ _ _ _ _ _ ls _ H locs d_Mo_number_72 vc hP hD hS
                  · have vc := vc.2 hv1
                    refine wc_V (As := [.int 2, .long y2]) (rest := []) (wr := ([] : va_W)) S (c_Mo_made_2 l D b cI cJ cZ mki msz mle mel mme mal mic mil mio mab mae msa mlc mli mna mva mma mch mre mlv mwr msh 0 mnv mns mfa mmo 2 y2 hpre hv1) k_Mo_made i_Mo_made e_Mo_made o_Mo ml_Mo_89 hd_Mo_made (Nat.le_trans (by decide) hRf) (Nat.le_trans (by decide) hRl) hRc (va_recv hK hP (q0 := 0) (ci := 6) rfl rfl) hK hP hD hS hA [0, 1, 2, 3, 4, 5, 6, 7, 8, 9, 10, 11, 12, 13, 14, 15, 16, 17, 18, 19, 20, 21, 22] [] rfl rfl rfl (by decide) (by decide) (by decide) hl.1 rfl (Nat.le_of_ble_eq_true rfl) d_Mo_number_69 (fun _ H locs _ hP hD hS => ?_)
                    have hP : va_P D vwCl (wM b cI cJ cZ (upd mki mnv.toNatClampNeg 2) (vp_updL msz mnv.toNatClampNeg y2) mle mel mme mal mic mil mio mab mae msa mlc mli mna mva mma mch mre mlv mwr msh 0 (mnv + 1) mns mfa mmo) H := hP
                    have hD : va_D A (wM b cI cJ cZ (upd mki mnv.toNatClampNeg 2) (vp_updL msz mnv.toNatClampNeg y2) mle mel mme mal mic mil mio mab mae msa mlc mli mna mva mma mch mre mlv mwr msh 0 (mnv + 1) mns mfa mmo) := hD
                    exact hret _ _ _ _ _ _ _ _ _ _ _ _ _ _ _ _ _ _ _ _ _ _ _ _ _ _ _ _ ls _ H locs d_Mo_number_72 vc hP hD hS
                · have vc := vc.2 h
                  refine lv_lload_n hx hb d_Mo_number_54 rfl (lv_at hl 3 rfl) ?_
                  refine lv_ldc2 hx hb hown (hts _ cg_Mo_94) d_Mo_number_55 ?_
                  refine lv_lmul hx hb d_Mo_number_58 ?_
                  refine lv_lstore_n hx hb d_Mo_number_59 rfl hl (by decide) (lv' := [(3, .long (y2 * 10)), (0, .ref (b 0)), (1, .int x), (2, .int y), (5, .int x3)]) rfl (fun ls hl => ?_)
                  refine lv_iinc (k := 4) (v := x3 + 1) hx hb d_Mo_number_60 hl rfl rfl (by decide) (lv' := [(5, .int (x3 + 1)), (3, .long (y2 * 10)), (0, .ref (b 0)), (1, .int x), (2, .int y)]) rfl (fun ls hl => ?_)
                  refine lv_goto (tgt := 48) hx hb d_Mo_number_63 (by decide) ?_
                  exact ihI4 (y2 * 10) (x3 + 1) ls H locs vc.1 (Nat.lt_of_lt_of_le vc.2 (Nat.le_of_lt_succ hmI4)) (lv_sub hl [2, 3, 4, 1, 0] rfl) hP hD hS
            exact lI4 _ x.toInt64 (-3) ls H locs vc0 (Nat.lt_succ_self _) (lv_sub hl [2, 3, 4, 1, 0] rfl) hP hD hS
          · exact absurd h (by decide)
        · have vc := vc.2 h
          refine lv_iconst (v := 1) hx hb d_Mo_number_24 (by decide) ?_
          refine lv_goto (tgt := 29) hx hb d_Mo_number_25 (by decide) ?_
          refine va_put (D := D) (ci := 6) (v := .int 1) (ty := .int) (C := R_Mo) (T := F_Mo) (N := 27) hx hb hts in_Mo t_Mo t_Mo_ok n_Mo hown hK hP hD hS 0 rfl rfl 0 (by decide) (hts _ fl_Mo_78) (fun _ h => h) rfl (by decide +kernel) rfl rfl (Nat.le_of_ble_eq_true rfl) d_Mo_number_29 (fun H locs hP hD hS => ?_)
          have hP : va_P D vwCl (wM b cI cJ cZ mki msz mle mel mme mal mic mil mio mab mae msa mlc mli mna mva mma mch mre mlv mwr msh 1 mnv mns mfa mmo) H := hP
          have hD : va_D A (wM b cI cJ cZ mki msz mle mel mme mal mic mil mio mab mae msa mlc mli mna mva mma mch mre mlv mwr msh 1 mnv mns mfa mmo) := hD
          refine lv_aload_n hx hb d_Mo_number_32 rfl (lv_at hl 0 rfl) ?_
          refine va_get (D := D) (ci := 6) (v := .int 1) (C := R_Mo) (T := F_Mo) (N := 27) hx hb hts in_Mo hown hK hP 0 rfl rfl 0 (by decide) (hts _ fl_Mo_78) (fun _ h => h) rfl d_Mo_number_33 ?_
          refine lv_if_eq (tgt := 41) hx hb d_Mo_number_36 (by decide) (fun h => ?_) (fun h => ?_)
          · exact absurd h (by decide)
          · skip
            refine lv_iconst (v := 0) hx hb d_Mo_number_39 (by decide) ?_
            exact hret _ _ _ _ _ _ _ _ _ _ _ _ _ _ _ _ _ _ _ _ _ _ _ _ _ _ _ _ ls _ H locs d_Mo_number_40 vc hP hD hS
theorem h_Mo_number (l : Launch) (D : va_G) (b : Nat → Nat) (cI cJ cZ : ClassId) (mki : Nat → Int32) (msz : Nat → Int64) (mle : Nat → Int32) (mel : Nat → Int32) (mme : Nat → Int32) (mal : Nat → Int32) (mic : Nat → Int32) (mil : Nat → Int32) (mio : Nat → Int32) (mab : Nat → Int32) (mae : Nat → Int32) (msa : Nat → Int32) (mlc : Nat → Int32) (mli : Nat → Int32) (mna : Nat → Int32) (mva : Nat → Int32) (mma : Nat → Int32) (mch : Nat → Int32) (mre : Nat → Int32) (mlv : Nat → Int32) (mwr : Nat → Int64) (msh : Nat → Int32) (mth : Int32) (mnv : Int32) (mns : Int32) (mfa : Int32) (mmo : Int32) (x : Int32) (y : Int32) (r : Int32) (mki' : Nat → Int32) (msz' : Nat → Int64) (mle' : Nat → Int32) (mel' : Nat → Int32) (mme' : Nat → Int32) (mal' : Nat → Int32) (mic' : Nat → Int32) (mil' : Nat → Int32) (mio' : Nat → Int32) (mab' : Nat → Int32) (mae' : Nat → Int32) (msa' : Nat → Int32) (mlc' : Nat → Int32) (mli' : Nat → Int32) (mna' : Nat → Int32) (mva' : Nat → Int32) (mma' : Nat → Int32) (mch' : Nat → Int32) (mre' : Nat → Int32) (mlv' : Nat → Int32) (mwr' : Nat → Int64) (msh' : Nat → Int32) (mth' : Int32) (mnv' : Int32) (mns' : Int32) (mfa' : Int32) (mmo' : Int32) (vc : V_Mo_number mki msz mle mel mme mal mic mil mio mab mae msa mlc mli mna mva mma mch mre mlv mwr msh mth mnv mns mfa mmo x y (fun v mki msz mle mel mme mal mic mil mio mab mae msa mlc mli mna mva mma mch mre mlv mwr msh mth mnv mns mfa mmo => v = r ∧ mki = mki' ∧ msz = msz' ∧ mle = mle' ∧ mel = mel' ∧ mme = mme' ∧ mal = mal' ∧ mic = mic' ∧ mil = mil' ∧ mio = mio' ∧ mab = mab' ∧ mae = mae' ∧ msa = msa' ∧ mlc = mlc' ∧ mli = mli' ∧ mna = mna' ∧ mva = mva' ∧ mma = mma' ∧ mch = mch' ∧ mre = mre' ∧ mlv = mlv' ∧ mwr = mwr' ∧ msh = msh' ∧ mth = mth' ∧ mnv = mnv' ∧ mns = mns' ∧ mfa = mfa' ∧ mmo = mmo')) : Wm (S := Unit) l y_Mo_number b_Mo_number 6 (some .int) 2 47 [.ref (b 0), .int x, .int y] D (tyA cI cJ cZ) (wM b cI cJ cZ mki msz mle mel mme mal mic mil mio mab mae msa mlc mli mna mva mma mch mre mlv mwr msh mth mnv mns mfa mmo) (fun _ => True) (fun _ => some (.int r)) (fun _ => (wM b cI cJ cZ mki' msz' mle' mel' mme' mal' mic' mil' mio' mab' mae' msa' mlc' mli' mna' mva' mma' mch' mre' mlv' mwr' msh' mth' mnv' mns' mfa' mmo')) :=
  wm_i (by decide) (fun _ _ => rfl) (Nat.le_of_ble_eq_true rfl) (fun p e s m below meth c ls Q A S hK hP hD hA hS hl hret => g_Mo_number S (Nat.le_refl _) (Nat.le_refl _) ⟨Nat.le_refl _, Nat.le_refl _⟩ D b cI cJ cZ mki msz mle mel mme mal mic mil mio mab mae msa mlc mli mna mva mma mch mre mlv mwr msh mth mnv mns mfa mmo x y hK hP hD hA hS hl vc (fun v mki msz mle mel mme mal mic mil mio mab mae msa mlc mli mna mva mma mch mre mlv mwr msh mth mnv mns mfa mmo ls pc H locs hd hv hP hD hS => by obtain ⟨rfl, rfl, rfl, rfl, rfl, rfl, rfl, rfl, rfl, rfl, rfl, rfl, rfl, rfl, rfl, rfl, rfl, rfl, rfl, rfl, rfl, rfl, rfl, rfl, rfl, rfl, rfl, rfl⟩ := hv; exact hret () _ ls pc H locs hd trivial rfl hP hD hS))
theorem c_Mo_number_1 (l : Launch) (D : va_G) (b : Nat → Nat) (cI cJ cZ : ClassId) (mki : Nat → Int32) (msz : Nat → Int64) (mle : Nat → Int32) (mel : Nat → Int32) (mme : Nat → Int32) (mal : Nat → Int32) (mic : Nat → Int32) (mil : Nat → Int32) (mio : Nat → Int32) (mab : Nat → Int32) (mae : Nat → Int32) (msa : Nat → Int32) (mlc : Nat → Int32) (mli : Nat → Int32) (mna : Nat → Int32) (mva : Nat → Int32) (mma : Nat → Int32) (mch : Nat → Int32) (mre : Nat → Int32) (mlv : Nat → Int32) (mwr : Nat → Int64) (msh : Nat → Int32) (mth : Int32) (mnv : Int32) (mns : Int32) (mfa : Int32) (mmo : Int32) (x : Int32) (y : Int32) (hpre : (¬ mnv < 0 ∧ mnv ≤ 40)) (hv1 : ¬ (sIn x (-99999) 99999 && sIn y (-3) 3) = true) : Wm (S := Unit) l y_Mo_number b_Mo_number 6 (some .int) 2 47 [.ref (b 0), .int x, .int y] D (tyA cI cJ cZ) (wM b cI cJ cZ mki msz mle mel mme mal mic mil mio mab mae msa mlc mli mna mva mma mch mre mlv mwr msh mth mnv mns mfa mmo) (fun _ => True) (fun _ => some (.int 0)) (fun _ => (wM b cI cJ cZ mki msz mle mel mme mal mic mil mio mab mae msa mlc mli mna mva mma mch mre mlv mwr msh 1 mnv mns mfa mmo)) := h_Mo_number l D b cI cJ cZ mki msz mle mel mme mal mic mil mio mab mae msa mlc mli mna mva mma mch mre mlv mwr msh mth mnv mns mfa mmo x y 0 mki msz mle mel mme mal mic mil mio mab mae msa mlc mli mna mva mma mch mre mlv mwr msh 1 mnv mns mfa mmo (by
  unfold V_Mo_number
  repeat' (first | apply br_c | apply br_d | intro _)
  case' b.b.b.a => refine num_loop x y ‹_› ‹_› _ (pre_and hpre ?_)
  case' b.b.b.a => refine ⟨fun _ => ?_, fun _ => ?_⟩
  all_goals (first | (simp_all [bI, upd, sIn]; done) | (exfalso; simp_all only [le_nlt, and2, sIn_i, not_and, Classical.not_not, not_true_eq_false, not_false_eq_true, true_and, and_true, false_and, and_false, true_implies, false_implies, implies_true, imp_false, imp_self]; done) | skip))
theorem c_Mo_number_2 (l : Launch) (D : va_G) (b : Nat → Nat) (cI cJ cZ : ClassId) (mki : Nat → Int32) (msz : Nat → Int64) (mle : Nat → Int32) (mel : Nat → Int32) (mme : Nat → Int32) (mal : Nat → Int32) (mic : Nat → Int32) (mil : Nat → Int32) (mio : Nat → Int32) (mab : Nat → Int32) (mae : Nat → Int32) (msa : Nat → Int32) (mlc : Nat → Int32) (mli : Nat → Int32) (mna : Nat → Int32) (mva : Nat → Int32) (mma : Nat → Int32) (mch : Nat → Int32) (mre : Nat → Int32) (mlv : Nat → Int32) (mwr : Nat → Int64) (msh : Nat → Int32) (mth : Int32) (mnv : Int32) (mns : Int32) (mfa : Int32) (mmo : Int32) (x : Int32) (y : Int32) (hpre : (¬ mnv < 0 ∧ mnv ≤ 40)) (hv1 : ¬ (¬ (sIn x (-99999) 99999 && sIn y (-3) 3) = true)) (hv2 : mnv = 40) : Wm (S := Unit) l y_Mo_number b_Mo_number 6 (some .int) 2 47 [.ref (b 0), .int x, .int y] D (tyA cI cJ cZ) (wM b cI cJ cZ mki msz mle mel mme mal mic mil mio mab mae msa mlc mli mna mva mma mch mre mlv mwr msh mth mnv mns mfa mmo) (fun _ => True) (fun _ => some (.int 0)) (fun _ => (wM b cI cJ cZ mki msz mle mel mme mal mic mil mio mab mae msa mlc mli mna mva mma mch mre mlv mwr msh 2 mnv mns mfa mmo)) := h_Mo_number l D b cI cJ cZ mki msz mle mel mme mal mic mil mio mab mae msa mlc mli mna mva mma mch mre mlv mwr msh mth mnv mns mfa mmo x y 0 mki msz mle mel mme mal mic mil mio mab mae msa mlc mli mna mva mma mch mre mlv mwr msh 2 mnv mns mfa mmo (by
  unfold V_Mo_number
  repeat' (first | apply br_c | apply br_d | intro _)
  case' b.b.b.a => refine num_loop x y ‹_› ‹_› _ (pre_and hpre ?_)
  case' b.b.b.a => refine ⟨fun _ => ?_, fun _ => ?_⟩
  all_goals (first | (simp_all [bI, upd, sIn]; done) | (exfalso; simp_all only [le_nlt, and2, sIn_i, not_and, Classical.not_not, not_true_eq_false, not_false_eq_true, true_and, and_true, false_and, and_false, true_implies, false_implies, implies_true, imp_false, imp_self]; done) | skip))
theorem c_Mo_number_3 (l : Launch) (D : va_G) (b : Nat → Nat) (cI cJ cZ : ClassId) (mki : Nat → Int32) (msz : Nat → Int64) (mle : Nat → Int32) (mel : Nat → Int32) (mme : Nat → Int32) (mal : Nat → Int32) (mic : Nat → Int32) (mil : Nat → Int32) (mio : Nat → Int32) (mab : Nat → Int32) (mae : Nat → Int32) (msa : Nat → Int32) (mlc : Nat → Int32) (mli : Nat → Int32) (mna : Nat → Int32) (mva : Nat → Int32) (mma : Nat → Int32) (mch : Nat → Int32) (mre : Nat → Int32) (mlv : Nat → Int32) (mwr : Nat → Int64) (msh : Nat → Int32) (mth : Int32) (mnv : Int32) (mns : Int32) (mfa : Int32) (mmo : Int32) (x : Int32) (y : Int32) (hpre : (¬ mnv < 0 ∧ mnv ≤ 40)) (hv1 : ¬ (¬ (sIn x (-99999) 99999 && sIn y (-3) 3) = true)) (hv2 : ¬ (mnv = 40)) : Wm (S := Unit) l y_Mo_number b_Mo_number 6 (some .int) 2 47 [.ref (b 0), .int x, .int y] D (tyA cI cJ cZ) (wM b cI cJ cZ mki msz mle mel mme mal mic mil mio mab mae msa mlc mli mna mva mma mch mre mlv mwr msh mth mnv mns mfa mmo) (fun _ => True) (fun _ => some (.int (mnv + 1 - 1))) (fun _ => (wM b cI cJ cZ (upd mki mnv.toNatClampNeg 2) (vp_updL msz mnv.toNatClampNeg (x.toInt64 * (thou (y + 3 : Int32).toNatClampNeg).toInt64)) mle mel mme mal mic mil mio mab mae msa mlc mli mna mva mma mch mre mlv mwr msh 0 (mnv + 1) mns mfa mmo)) := h_Mo_number l D b cI cJ cZ mki msz mle mel mme mal mic mil mio mab mae msa mlc mli mna mva mma mch mre mlv mwr msh mth mnv mns mfa mmo x y (mnv + 1 - 1) (upd mki mnv.toNatClampNeg 2) (vp_updL msz mnv.toNatClampNeg (x.toInt64 * (thou (y + 3 : Int32).toNatClampNeg).toInt64)) mle mel mme mal mic mil mio mab mae msa mlc mli mna mva mma mch mre mlv mwr msh 0 (mnv + 1) mns mfa mmo (by
  unfold V_Mo_number
  repeat' (first | apply br_c | apply br_d | intro _)
  case' b.b.b.a => refine num_loop x y ‹_› ‹_› _ (pre_and hpre ?_)
  case' b.b.b.a => refine ⟨fun _ => ?_, fun _ => ?_⟩
  all_goals (first | (simp_all [bI, upd, sIn]; done) | (exfalso; simp_all only [le_nlt, and2, sIn_i, not_and, Classical.not_not, not_true_eq_false, not_false_eq_true, true_and, and_true, false_and, and_false, true_implies, false_implies, implies_true, imp_false, imp_self]; done) | skip))
theorem hd_Mo_number : y_Mo_number.cls ≠ "java/lang/invoke/MethodHandle" ∧ y_Mo_number.cls ≠ "java/lang/invoke/VarHandle" ∧ (parseMethodDescriptor y_Mo_number.desc).map (fun d => d.parameters.length) = some 2 := ⟨by decide, by decide, by decide +kernel⟩
