theorem le_nlt {a b : Int32} : a ≤ b ↔ ¬ b < a := Int32.not_lt.symm
theorem bnot_t {b : Bool} : (!b) = true ↔ ¬ b = true := by cases b <;> simp
theorem sIn_i {x y z : Int32} : sIn x y z = true ↔ ¬ x < y ∧ ¬ z < x := by simp [sIn]
theorem sHas_i {n x : Int32} : sHas n x = true ↔ ¬ x < 0 ∧ x < n := by simp [sHas]

def V_Mo_push (mki : Nat → Int32) (msz : Nat → Int64) (mle : Nat → Int32) (mel : Nat → Int32) (mme : Nat → Int32) (mal : Nat → Int32) (mic : Nat → Int32) (mil : Nat → Int32) (mio : Nat → Int32) (mab : Nat → Int32) (mae : Nat → Int32) (msa : Nat → Int32) (mlc : Nat → Int32) (mli : Nat → Int32) (mna : Nat → Int32) (mva : Nat → Int32) (mma : Nat → Int32) (mch : Nat → Int32) (mre : Nat → Int32) (mlv : Nat → Int32) (mwr : Nat → Int64) (msh : Nat → Int32) (mth : Int32) (mnv : Int32) (mns : Int32) (mfa : Int32) (mmo : Int32) (x : Int32) (y : Int32) (post : Int32 → (Nat → Int32) → (Nat → Int64) → (Nat → Int32) → (Nat → Int32) → (Nat → Int32) → (Nat → Int32) → (Nat → Int32) → (Nat → Int32) → (Nat → Int32) → (Nat → Int32) → (Nat → Int32) → (Nat → Int32) → (Nat → Int32) → (Nat → Int32) → (Nat → Int32) → (Nat → Int32) → (Nat → Int32) → (Nat → Int32) → (Nat → Int32) → (Nat → Int32) → (Nat → Int64) → (Nat → Int32) → Int32 → Int32 → Int32 → Int32 → Int32 → Prop) : Prop :=
  (mnv ≤ 40 ∧ (((bI (sKind mki mnv x 4)) = 0 → post 0 mki msz mle mel mme mal mic mil mio mab mae msa mlc mli mna mva mma mch mre mlv mwr msh 1 mnv mns mfa mmo) ∧ (¬ (bI (sKind mki mnv x 4)) = 0 → ((y < 0 → post 0 mki msz mle mel mme mal mic mil mio mab mae msa mlc mli mna mva mma mch mre mlv mwr msh 1 mnv mns mfa mmo) ∧ (¬ y < 0 → ((y < x → (vp_in x 40 ∧ ((¬ (mle x.toNatClampNeg) = 8 → (vp_in x 40 ∧ (vp_in ((8 * x) + (mle x.toNatClampNeg)) 320 ∧ (vp_in x 40 ∧ (vp_in x 40 ∧ (vp_in x 40 ∧ post ((upd mle x.toNatClampNeg ((mle x.toNatClampNeg) + 1)) x.toNatClampNeg) mki msz (upd mle x.toNatClampNeg ((mle x.toNatClampNeg) + 1)) (upd mel ((8 * x) + (mle x.toNatClampNeg) : Int32).toNatClampNeg y) mme mal mic mil mio mab mae msa mlc mli mna mva mma mch mre mlv mwr msh 0 mnv mns mfa mmo)))))) ∧ ((mle x.toNatClampNeg) = 8 → post 0 mki msz mle mel mme mal mic mil mio mab mae msa mlc mli mna mva mma mch mre mlv mwr msh 2 mnv mns mfa mmo)))) ∧ (¬ y < x → post 0 mki msz mle mel mme mal mic mil mio mab mae msa mlc mli mna mva mma mch mre mlv mwr msh 1 mnv mns mfa mmo)))))))
set_option maxHeartbeats 4000000 in
set_option maxRecDepth 100000 in
theorem g_Mo_push {p : Program} {l : Launch} {e : Env} {R : Room} {s : State} {m : MethodId} {args : Array Value} {below : List Frame} {meth : Method} {c : Code} {H : Heap} {locs : List Loc} {cells slots : Nat} {Q : State → Prop} {ls : Array Slot} {A : Nat → Prop} (S : CallFix p m c b_Mo_push 3 s args W0 R_Mo) (hRf : 2 ≤ R.frames) (hRl : 43 ≤ R.locals) (hRc : cells ≤ R.cells ∧ slots ≤ R.slots) (D : va_G) (b : Nat → Nat) (cI cJ cZ : ClassId) (mki : Nat → Int32) (msz : Nat → Int64) (mle : Nat → Int32) (mel : Nat → Int32) (mme : Nat → Int32) (mal : Nat → Int32) (mic : Nat → Int32) (mil : Nat → Int32) (mio : Nat → Int32) (mab : Nat → Int32) (mae : Nat → Int32) (msa : Nat → Int32) (mlc : Nat → Int32) (mli : Nat → Int32) (mna : Nat → Int32) (mva : Nat → Int32) (mma : Nat → Int32) (mch : Nat → Int32) (mre : Nat → Int32) (mlv : Nat → Int32) (mwr : Nat → Int64) (msh : Nat → Int32) (mth : Int32) (mnv : Int32) (mns : Int32) (mfa : Int32) (mmo : Int32) (x : Int32) (y : Int32) (hK : va_K D vwCl (tyA cI cJ cZ) s) (hP : va_P D vwCl (wM b cI cJ cZ mki msz mle mel mme mal mic mil mio mab mae msa mlc mli mna mva mma mch mre mlv mwr msh mth mnv mns mfa mmo) H) (hD : va_D A (wM b cI cJ cZ mki msz mle mel mme mal mic mil mio mab mae msa mlc mli mna mva mma mch mre mlv mwr msh mth mnv mns mfa mmo)) (hA : ∀ q, s.heap.size ≤ q → A q) (hS : va_S A s.heap H locs) (hl : lv_has ls 3 [(0, .ref (b 0)), (1, .int x), (2, .int y)]) {post : Int32 → (Nat → Int32) → (Nat → Int64) → (Nat → Int32) → (Nat → Int32) → (Nat → Int32) → (Nat → Int32) → (Nat → Int32) → (Nat → Int32) → (Nat → Int32) → (Nat → Int32) → (Nat → Int32) → (Nat → Int32) → (Nat → Int32) → (Nat → Int32) → (Nat → Int32) → (Nat → Int32) → (Nat → Int32) → (Nat → Int32) → (Nat → Int32) → (Nat → Int32) → (Nat → Int64) → (Nat → Int32) → Int32 → Int32 → Int32 → Int32 → Int32 → Prop} (vc : V_Mo_push mki msz mle mel mme mal mic mil mio mab mae msa mlc mli mna mva mma mch mre mlv mwr msh mth mnv mns mfa mmo x y post)
    (hret : ∀ (v : Int32) (mki : Nat → Int32) (msz : Nat → Int64) (mle : Nat → Int32) (mel : Nat → Int32) (mme : Nat → Int32) (mal : Nat → Int32) (mic : Nat → Int32) (mil : Nat → Int32) (mio : Nat → Int32) (mab : Nat → Int32) (mae : Nat → Int32) (msa : Nat → Int32) (mlc : Nat → Int32) (mli : Nat → Int32) (mna : Nat → Int32) (mva : Nat → Int32) (mma : Nat → Int32) (mch : Nat → Int32) (mre : Nat → Int32) (mlv : Nat → Int32) (mwr : Nat → Int64) (msh : Nat → Int32) (mth : Int32) (mnv : Int32) (mns : Int32) (mfa : Int32) (mmo : Int32) (ls : Array Slot) (pc : Nat) (H : Heap) (locs : List Loc), decode b_Mo_push pc = .ok (.ireturn, 1) → post v mki msz mle mel mme mal mic mil mio mab mae msa mlc mli mna mva mma mch mre mlv mwr msh mth mnv mns mfa mmo → va_P D vwCl (wM b cI cJ cZ mki msz mle mel mme mal mic mil mio mab mae msa mlc mli mna mva mma mch mre mlv mwr msh mth mnv mns mfa mmo) H → va_D A (wM b cI cJ cZ mki msz mle mel mme mal mic mil mio mab mae msa mlc mli mna mva mma mch mre mlv mwr msh mth mnv mns mfa mmo) → va_S A s.heap H locs → W p l e R s m args below meth c H locs cells slots Q (F0 m pc ls [.int v])) : W p l e R s m args below meth c H locs cells slots Q (F0 m 0 ls []) := by
  have hx := S.1
  have hb := S.2.1
  have hown := S.2.2.2.1
  have hts := S.2.2.2.2
  unfold V_Mo_push at vc
  refine lv_aload_n hx hb d_Mo_push_0 rfl (lv_at hl 0 rfl) ?_
  refine lv_aload_n hx hb d_Mo_push_1 rfl (lv_at hl 0 rfl) ?_
  refine lv_iload_n hx hb d_Mo_push_2 rfl (lv_at hl 1 rfl) ?_
  refine lv_iconst (v := 4) hx hb d_Mo_push_3 (by decide) ?_
  obtain ⟨hpre, vc⟩ := vc
  refine pc_V (As := [.int x, .int 4]) (rest := [.ref (b 0)]) S (c_Mo_isKind l D b cI cJ cZ mki msz mle mel mme mal mic mil mio mab mae msa mlc mli mna mva mma mch mre mlv mwr msh mth mnv mns mfa mmo x 4 hpre) wB_blind k_Mo_isKind i_Mo_isKind e_Mo_isKind o_Mo ml_Mo_104 hd_Mo_isKind (Nat.le_trans (by decide) hRf) (Nat.le_trans (by decide) hRl) hRc (va_recv hK hP (q0 := 0) (ci := 6) rfl rfl) (wB_at hP hK) hl.1 rfl (Nat.le_of_ble_eq_true rfl) d_Mo_push_4 ?_
  refine lv_if_eq (tgt := 19) hx hb d_Mo_push_7 (by decide) (fun h => ?_) (fun h => ?_)
  · have vc := vc.1 h
    refine lv_iconst (v := 1) hx hb d_Mo_push_19 (by decide) ?_
    refine lv_goto (tgt := 39) hx hb d_Mo_push_20 (by decide) ?_
    refine va_put (D := D) (ci := 6) (v := .int 1) (ty := .int) (C := R_Mo) (T := F_Mo) (N := 27) hx hb hts in_Mo t_Mo t_Mo_ok n_Mo hown hK hP hD hS 0 rfl rfl 0 (by decide) (hts _ fl_Mo_78) (fun _ h => h) rfl (by decide +kernel) rfl rfl (Nat.le_of_ble_eq_true rfl) d_Mo_push_39 (fun H locs hP hD hS => ?_)
    have hP : va_P D vwCl (wM b cI cJ cZ mki msz mle mel mme mal mic mil mio mab mae msa mlc mli mna mva mma mch mre mlv mwr msh 1 mnv mns mfa mmo) H := hP
    have hD : va_D A (wM b cI cJ cZ mki msz mle mel mme mal mic mil mio mab mae msa mlc mli mna mva mma mch mre mlv mwr msh 1 mnv mns mfa mmo) := hD
    refine lv_aload_n hx hb d_Mo_push_42 rfl (lv_at hl 0 rfl) ?_
    refine va_get (D := D) (ci := 6) (v := .int 1) (C := R_Mo) (T := F_Mo) (N := 27) hx hb hts in_Mo hown hK hP 0 rfl rfl 0 (by decide) (hts _ fl_Mo_78) (fun _ h => h) rfl d_Mo_push_43 ?_
    refine lv_if_eq (tgt := 51) hx hb d_Mo_push_46 (by decide) (fun h => ?_) (fun h => ?_)
    · exact absurd h (by decide)
    · skip
      refine lv_iconst (v := 0) hx hb d_Mo_push_49 (by decide) ?_
      exact hret _ _ _ _ _ _ _ _ _ _ _ _ _ _ _ _ _ _ _ _ _ _ _ _ _ _ _ _ ls _ H locs d_Mo_push_50 vc hP hD hS
  · have vc := vc.2 h
    refine lv_iload_n hx hb d_Mo_push_10 rfl (lv_at hl 2 rfl) ?_
    refine lv_if_lt (tgt := 19) hx hb d_Mo_push_11 (by decide) (fun h => ?_) (fun h => ?_)
    · have vc := vc.1 h
      refine lv_iconst (v := 1) hx hb d_Mo_push_19 (by decide) ?_
      refine lv_goto (tgt := 39) hx hb d_Mo_push_20 (by decide) ?_
      refine va_put (D := D) (ci := 6) (v := .int 1) (ty := .int) (C := R_Mo) (T := F_Mo) (N := 27) hx hb hts in_Mo t_Mo t_Mo_ok n_Mo hown hK hP hD hS 0 rfl rfl 0 (by decide) (hts _ fl_Mo_78) (fun _ h => h) rfl (by decide +kernel) rfl rfl (Nat.le_of_ble_eq_true rfl) d_Mo_push_39 (fun H locs hP hD hS => ?_)
      have hP : va_P D vwCl (wM b cI cJ cZ mki msz mle mel mme mal mic mil mio mab mae msa mlc mli mna mva mma mch mre mlv mwr msh 1 mnv mns mfa mmo) H := hP
      have hD : va_D A (wM b cI cJ cZ mki msz mle mel mme mal mic mil mio mab mae msa mlc mli mna mva mma mch mre mlv mwr msh 1 mnv mns mfa mmo) := hD
      refine lv_aload_n hx hb d_Mo_push_42 rfl (lv_at hl 0 rfl) ?_
      refine va_get (D := D) (ci := 6) (v := .int 1) (C := R_Mo) (T := F_Mo) (N := 27) hx hb hts in_Mo hown hK hP 0 rfl rfl 0 (by decide) (hts _ fl_Mo_78) (fun _ h => h) rfl d_Mo_push_43 ?_
      refine lv_if_eq (tgt := 51) hx hb d_Mo_push_46 (by decide) (fun h => ?_) (fun h => ?_)
      · exact absurd h (by decide)
      · skip
        refine lv_iconst (v := 0) hx hb d_Mo_push_49 (by decide) ?_
        exact hret _ _ _ _ _ _ _ _ _ _ _ _ _ _ _ _ _ _ _ _ _ _ _ _ _ _ _ _ ls _ H locs d_Mo_push_50 vc hP hD hS
    · have vc := vc.2 h
      refine lv_iload_n hx hb d_Mo_push_14 rfl (lv_at hl 2 rfl) ?_
      refine lv_iload_n hx hb d_Mo_push_15 rfl (lv_at hl 1 rfl) ?_
      refine lv_icmp_lt (tgt := 23) hx hb d_Mo_push_16 (by decide) (fun h => ?_) (fun h => ?_)
      · have vc := vc.1 h
        refine lv_aload_n hx hb d_Mo_push_23 rfl (lv_at hl 0 rfl) ?_
        refine va_get (D := D) (ci := 6) (v := .ref (b 3)) (C := R_Mo) (T := F_Mo) (N := 27) hx hb hts in_Mo hown hK hP 0 rfl rfl 4 (by decide) (hts _ fl_Mo_17) (fun _ h => h) rfl d_Mo_push_24 ?_
        refine lv_iload_n hx hb d_Mo_push_27 rfl (lv_at hl 1 rfl) ?_
        obtain ⟨vcb, vc⟩ := vc
        refine va_iald hx hb hK hP 3 0 rfl rfl vcb d_Mo_push_28 ?_
        refine lv_bipush (v := 8) hx hb d_Mo_push_29 (by decide) ?_
        refine lv_icmp_ne (tgt := 38) hx hb d_Mo_push_31 (by decide) (fun h => ?_) (fun h => ?_)
        · have vc := vc.1 h
          refine lv_iconst (v := 0) hx hb d_Mo_push_38 (by decide) ?_
          refine va_put (D := D) (ci := 6) (v := .int 0) (ty := .int) (C := R_Mo) (T := F_Mo) (N := 27) hx hb hts in_Mo t_Mo t_Mo_ok n_Mo hown hK hP hD hS 0 rfl rfl 0 (by decide) (hts _ fl_Mo_78) (fun _ h => h) rfl (by decide +kernel) rfl rfl (Nat.le_of_ble_eq_true rfl) d_Mo_push_39 (fun H locs hP hD hS => ?_)
          have hP : va_P D vwCl (wM b cI cJ cZ mki msz mle mel mme mal mic mil mio mab mae msa mlc mli mna mva mma mch mre mlv mwr msh 0 mnv mns mfa mmo) H := hP
          have hD : va_D A (wM b cI cJ cZ mki msz mle mel mme mal mic mil mio mab mae msa mlc mli mna mva mma mch mre mlv mwr msh 0 mnv mns mfa mmo) := hD
          refine lv_aload_n hx hb d_Mo_push_42 rfl (lv_at hl 0 rfl) ?_
          refine va_get (D := D) (ci := 6) (v := .int 0) (C := R_Mo) (T := F_Mo) (N := 27) hx hb hts in_Mo hown hK hP 0 rfl rfl 0 (by decide) (hts _ fl_Mo_78) (fun _ h => h) rfl d_Mo_push_43 ?_
          refine lv_if_eq (tgt := 51) hx hb d_Mo_push_46 (by decide) (fun h => ?_) (fun h => ?_)
          · skip
            refine lv_aload_n hx hb d_Mo_push_51 rfl (lv_at hl 0 rfl) ?_
            refine va_get (D := D) (ci := 6) (v := .ref (b 4)) (C := R_Mo) (T := F_Mo) (N := 27) hx hb hts in_Mo hown hK hP 0 rfl rfl 5 (by decide) (hts _ fl_Mo_20) (fun _ h => h) rfl d_Mo_push_52 ?_
            refine lv_bipush (v := 8) hx hb d_Mo_push_55 (by decide) ?_
            refine lv_iload_n hx hb d_Mo_push_57 rfl (lv_at hl 1 rfl) ?_
            refine lv_imul hx hb d_Mo_push_58 ?_
            refine lv_aload_n hx hb d_Mo_push_59 rfl (lv_at hl 0 rfl) ?_
            refine va_get (D := D) (ci := 6) (v := .ref (b 3)) (C := R_Mo) (T := F_Mo) (N := 27) hx hb hts in_Mo hown hK hP 0 rfl rfl 4 (by decide) (hts _ fl_Mo_17) (fun _ h => h) rfl d_Mo_push_60 ?_
            refine lv_iload_n hx hb d_Mo_push_63 rfl (lv_at hl 1 rfl) ?_
            obtain ⟨vcb, vc⟩ := vc
            refine va_iald hx hb hK hP 3 0 rfl rfl vcb d_Mo_push_64 ?_
            refine lv_iadd hx hb d_Mo_push_65 ?_
            refine lv_iload_n hx hb d_Mo_push_66 rfl (lv_at hl 2 rfl) ?_
            obtain ⟨vcb, vc⟩ := vc
            refine va_iast hx hb hK hP hD hS 4 0 rfl rfl vcb d_Mo_push_67 (fun H locs hP hD hS => ?_)
            have hP : va_P D vwCl (wM b cI cJ cZ mki msz mle (upd mel ((8 * x) + (mle x.toNatClampNeg) : Int32).toNatClampNeg y) mme mal mic mil mio mab mae msa mlc mli mna mva mma mch mre mlv mwr msh 0 mnv mns mfa mmo) H := hP
            have hD : va_D A (wM b cI cJ cZ mki msz mle (upd mel ((8 * x) + (mle x.toNatClampNeg) : Int32).toNatClampNeg y) mme mal mic mil mio mab mae msa mlc mli mna mva mma mch mre mlv mwr msh 0 mnv mns mfa mmo) := hD
            refine lv_aload_n hx hb d_Mo_push_68 rfl (lv_at hl 0 rfl) ?_
            refine va_get (D := D) (ci := 6) (v := .ref (b 3)) (C := R_Mo) (T := F_Mo) (N := 27) hx hb hts in_Mo hown hK hP 0 rfl rfl 4 (by decide) (hts _ fl_Mo_17) (fun _ h => h) rfl d_Mo_push_69 ?_
            refine lv_iload_n hx hb d_Mo_push_72 rfl (lv_at hl 1 rfl) ?_
            refine lv_dup2_11 hx hb d_Mo_push_73 rfl rfl ?_
            obtain ⟨vcb, vc⟩ := vc
            refine va_iald hx hb hK hP 3 0 rfl rfl vcb d_Mo_push_74 ?_
            refine lv_iconst (v := 1) hx hb d_Mo_push_75 (by decide) ?_
            refine lv_iadd hx hb d_Mo_push_76 ?_
            obtain ⟨vcb, vc⟩ := vc
            refine va_iast hx hb hK hP hD hS 3 0 rfl rfl vcb d_Mo_push_77 (fun H locs hP hD hS => ?_)
            have hP : va_P D vwCl (wM b cI cJ cZ mki msz (upd mle x.toNatClampNeg ((mle x.toNatClampNeg) + 1)) (upd mel ((8 * x) + (mle x.toNatClampNeg) : Int32).toNatClampNeg y) mme mal mic mil mio mab mae msa mlc mli mna mva mma mch mre mlv mwr msh 0 mnv mns mfa mmo) H := hP
            have hD : va_D A (wM b cI cJ cZ mki msz (upd mle x.toNatClampNeg ((mle x.toNatClampNeg) + 1)) (upd mel ((8 * x) + (mle x.toNatClampNeg) : Int32).toNatClampNeg y) mme mal mic mil mio mab mae msa mlc mli mna mva mma mch mre mlv mwr msh 0 mnv mns mfa mmo) := hD
            refine lv_aload_n hx hb d_Mo_push_78 rfl (lv_at hl 0 rfl) ?_
            refine va_get (D := D) (ci := 6) (v := .ref (b 3)) (C := R_Mo) (T := F_Mo) (N := 27) hx hb hts in_Mo hown hK hP 0 rfl rfl 4 (by decide) (hts _ fl_Mo_17) (fun _ h => h) rfl d_Mo_push_79 ?_
            refine lv_iload_n hx hb d_Mo_push_82 rfl (lv_at hl 1 rfl) ?_
            obtain ⟨vcb, vc⟩ := vc
            refine va_iald hx hb hK hP 3 0 rfl rfl vcb d_Mo_push_83 ?_
            exact hret _ _ _ _ _ _ _ _ _ _ _ _ _ _ _ _ _ _ _ _ _ _ _ _ _ _ _ _ ls _ H locs d_Mo_push_84 vc hP hD hS
          · exact absurd h (by decide)
        · have vc := vc.2 h
          refine lv_iconst (v := 2) hx hb d_Mo_push_34 (by decide) ?_
          refine lv_goto (tgt := 39) hx hb d_Mo_push_35 (by decide) ?_
          refine va_put (D := D) (ci := 6) (v := .int 2) (ty := .int) (C := R_Mo) (T := F_Mo) (N := 27) hx hb hts in_Mo t_Mo t_Mo_ok n_Mo hown hK hP hD hS 0 rfl rfl 0 (by decide) (hts _ fl_Mo_78) (fun _ h => h) rfl (by decide +kernel) rfl rfl (Nat.le_of_ble_eq_true rfl) d_Mo_push_39 (fun H locs hP hD hS => ?_)
          have hP : va_P D vwCl (wM b cI cJ cZ mki msz mle mel mme mal mic mil mio mab mae msa mlc mli mna mva mma mch mre mlv mwr msh 2 mnv mns mfa mmo) H := hP
          have hD : va_D A (wM b cI cJ cZ mki msz mle mel mme mal mic mil mio mab mae msa mlc mli mna mva mma mch mre mlv mwr msh 2 mnv mns mfa mmo) := hD
          refine lv_aload_n hx hb d_Mo_push_42 rfl (lv_at hl 0 rfl) ?_
          refine va_get (D := D) (ci := 6) (v := .int 2) (C := R_Mo) (T := F_Mo) (N := 27) hx hb hts in_Mo hown hK hP 0 rfl rfl 0 (by decide) (hts _ fl_Mo_78) (fun _ h => h) rfl d_Mo_push_43 ?_
          refine lv_if_eq (tgt := 51) hx hb d_Mo_push_46 (by decide) (fun h => ?_) (fun h => ?_)
          · exact absurd h (by decide)
          · skip
            refine lv_iconst (v := 0) hx hb d_Mo_push_49 (by decide) ?_
            exact hret _ _ _ _ _ _ _ _ _ _ _ _ _ _ _ _ _ _ _ _ _ _ _ _ _ _ _ _ ls _ H locs d_Mo_push_50 vc hP hD hS
      · have vc := vc.2 h
        refine lv_iconst (v := 1) hx hb d_Mo_push_19 (by decide) ?_
        refine lv_goto (tgt := 39) hx hb d_Mo_push_20 (by decide) ?_
        refine va_put (D := D) (ci := 6) (v := .int 1) (ty := .int) (C := R_Mo) (T := F_Mo) (N := 27) hx hb hts in_Mo t_Mo t_Mo_ok n_Mo hown hK hP hD hS 0 rfl rfl 0 (by decide) (hts _ fl_Mo_78) (fun _ h => h) rfl (by decide +kernel) rfl rfl (Nat.le_of_ble_eq_true rfl) d_Mo_push_39 (fun H locs hP hD hS => ?_)
        have hP : va_P D vwCl (wM b cI cJ cZ mki msz mle mel mme mal mic mil mio mab mae msa mlc mli mna mva mma mch mre mlv mwr msh 1 mnv mns mfa mmo) H := hP
        have hD : va_D A (wM b cI cJ cZ mki msz mle mel mme mal mic mil mio mab mae msa mlc mli mna mva mma mch mre mlv mwr msh 1 mnv mns mfa mmo) := hD
        refine lv_aload_n hx hb d_Mo_push_42 rfl (lv_at hl 0 rfl) ?_
        refine va_get (D := D) (ci := 6) (v := .int 1) (C := R_Mo) (T := F_Mo) (N := 27) hx hb hts in_Mo hown hK hP 0 rfl rfl 0 (by decide) (hts _ fl_Mo_78) (fun _ h => h) rfl d_Mo_push_43 ?_
        refine lv_if_eq (tgt := 51) hx hb d_Mo_push_46 (by decide) (fun h => ?_) (fun h => ?_)
        · exact absurd h (by decide)
        · skip
          refine lv_iconst (v := 0) hx hb d_Mo_push_49 (by decide) ?_
          exact hret _ _ _ _ _ _ _ _ _ _ _ _ _ _ _ _ _ _ _ _ _ _ _ _ _ _ _ _ ls _ H locs d_Mo_push_50 vc hP hD hS
theorem h_Mo_push (l : Launch) (D : va_G) (b : Nat → Nat) (cI cJ cZ : ClassId) (mki : Nat → Int32) (msz : Nat → Int64) (mle : Nat → Int32) (mel : Nat → Int32) (mme : Nat → Int32) (mal : Nat → Int32) (mic : Nat → Int32) (mil : Nat → Int32) (mio : Nat → Int32) (mab : Nat → Int32) (mae : Nat → Int32) (msa : Nat → Int32) (mlc : Nat → Int32) (mli : Nat → Int32) (mna : Nat → Int32) (mva : Nat → Int32) (mma : Nat → Int32) (mch : Nat → Int32) (mre : Nat → Int32) (mlv : Nat → Int32) (mwr : Nat → Int64) (msh : Nat → Int32) (mth : Int32) (mnv : Int32) (mns : Int32) (mfa : Int32) (mmo : Int32) (x : Int32) (y : Int32) (r : Int32) (mki' : Nat → Int32) (msz' : Nat → Int64) (mle' : Nat → Int32) (mel' : Nat → Int32) (mme' : Nat → Int32) (mal' : Nat → Int32) (mic' : Nat → Int32) (mil' : Nat → Int32) (mio' : Nat → Int32) (mab' : Nat → Int32) (mae' : Nat → Int32) (msa' : Nat → Int32) (mlc' : Nat → Int32) (mli' : Nat → Int32) (mna' : Nat → Int32) (mva' : Nat → Int32) (mma' : Nat → Int32) (mch' : Nat → Int32) (mre' : Nat → Int32) (mlv' : Nat → Int32) (mwr' : Nat → Int64) (msh' : Nat → Int32) (mth' : Int32) (mnv' : Int32) (mns' : Int32) (mfa' : Int32) (mmo' : Int32) (vc : V_Mo_push mki msz mle mel mme mal mic mil mio mab mae msa mlc mli mna mva mma mch mre mlv mwr msh mth mnv mns mfa mmo x y (fun v mki msz mle mel mme mal mic mil mio mab mae msa mlc mli mna mva mma mch mre mlv mwr msh mth mnv mns mfa mmo => v = r ∧ mki = mki' ∧ msz = msz' ∧ mle = mle' ∧ mel = mel' ∧ mme = mme' ∧ mal = mal' ∧ mic = mic' ∧ mil = mil' ∧ mio = mio' ∧ mab = mab' ∧ mae = mae' ∧ msa = msa' ∧ mlc = mlc' ∧ mli = mli' ∧ mna = mna' ∧ mva = mva' ∧ mma = mma' ∧ mch = mch' ∧ mre = mre' ∧ mlv = mlv' ∧ mwr = mwr' ∧ msh = msh' ∧ mth = mth' ∧ mnv = mnv' ∧ mns = mns' ∧ mfa = mfa' ∧ mmo = mmo')) : Wm (S := Unit) l y_Mo_push b_Mo_push 3 (some .int) 2 43 [.ref (b 0), .int x, .int y] D (tyA cI cJ cZ) (wM b cI cJ cZ mki msz mle mel mme mal mic mil mio mab mae msa mlc mli mna mva mma mch mre mlv mwr msh mth mnv mns mfa mmo) (fun _ => True) (fun _ => some (.int r)) (fun _ => (wM b cI cJ cZ mki' msz' mle' mel' mme' mal' mic' mil' mio' mab' mae' msa' mlc' mli' mna' mva' mma' mch' mre' mlv' mwr' msh' mth' mnv' mns' mfa' mmo')) :=
  wm_i (by decide) (fun _ _ => rfl) (Nat.le_of_ble_eq_true rfl) (fun p e s m below meth c ls Q A S hK hP hD hA hS hl hret => g_Mo_push S (Nat.le_refl _) (Nat.le_refl _) ⟨Nat.le_refl _, Nat.le_refl _⟩ D b cI cJ cZ mki msz mle mel mme mal mic mil mio mab mae msa mlc mli mna mva mma mch mre mlv mwr msh mth mnv mns mfa mmo x y hK hP hD hA hS hl vc (fun v mki msz mle mel mme mal mic mil mio mab mae msa mlc mli mna mva mma mch mre mlv mwr msh mth mnv mns mfa mmo ls pc H locs hd hv hP hD hS => by obtain ⟨rfl, rfl, rfl, rfl, rfl, rfl, rfl, rfl, rfl, rfl, rfl, rfl, rfl, rfl, rfl, rfl, rfl, rfl, rfl, rfl, rfl, rfl, rfl, rfl, rfl, rfl, rfl, rfl⟩ := hv; exact hret () _ ls pc H locs hd trivial rfl hP hD hS))
theorem c_Mo_push_1 (l : Launch) (D : va_G) (b : Nat → Nat) (cI cJ cZ : ClassId) (mki : Nat → Int32) (msz : Nat → Int64) (mle : Nat → Int32) (mel : Nat → Int32) (mme : Nat → Int32) (mal : Nat → Int32) (mic : Nat → Int32) (mil : Nat → Int32) (mio : Nat → Int32) (mab : Nat → Int32) (mae : Nat → Int32) (msa : Nat → Int32) (mlc : Nat → Int32) (mli : Nat → Int32) (mna : Nat → Int32) (mva : Nat → Int32) (mma : Nat → Int32) (mch : Nat → Int32) (mre : Nat → Int32) (mlv : Nat → Int32) (mwr : Nat → Int64) (msh : Nat → Int32) (mth : Int32) (mnv : Int32) (mns : Int32) (mfa : Int32) (mmo : Int32) (x : Int32) (y : Int32) (hpre : (mnv ≤ 40 ∧ ∀ j : Nat, j < 40 → ∃ b : Nat, b ≤ 8 ∧ mle j = nI b)) (hv1 : ¬ (sKind mki mnv x 4 && sHas x y) = true) : Wm (S := Unit) l y_Mo_push b_Mo_push 3 (some .int) 2 43 [.ref (b 0), .int x, .int y] D (tyA cI cJ cZ) (wM b cI cJ cZ mki msz mle mel mme mal mic mil mio mab mae msa mlc mli mna mva mma mch mre mlv mwr msh mth mnv mns mfa mmo) (fun _ => True) (fun _ => some (.int 0)) (fun _ => (wM b cI cJ cZ mki msz mle mel mme mal mic mil mio mab mae msa mlc mli mna mva mma mch mre mlv mwr msh 1 mnv mns mfa mmo)) := h_Mo_push l D b cI cJ cZ mki msz mle mel mme mal mic mil mio mab mae msa mlc mli mna mva mma mch mre mlv mwr msh mth mnv mns mfa mmo x y 0 mki msz mle mel mme mal mic mil mio mab mae msa mlc mli mna mva mma mch mre mlv mwr msh 1 mnv mns mfa mmo (by
  unfold V_Mo_push
  repeat' (first | apply br_c | apply br_d | apply pre_and hpre.1 | intro _)
  all_goals (first | (simp_all [add_sub1, bI, upd, sHas, sIn, sKind]; done) | (exfalso; simp_all only [le_nlt, and2, bI_eq, bI_ne, bnot_t, ite_true, ite_false, if_true, if_false, eq_self, sIn_i, sHas_i, sKind_iff, not_and, Classical.not_not, not_true_eq_false, not_false_eq_true, true_and, and_true, false_and, and_false, true_implies, false_implies, implies_true, imp_false, imp_self, or_false, false_or, not_or, or_true, true_or]; done) | skip))
theorem c_Mo_push_2 (l : Launch) (D : va_G) (b : Nat → Nat) (cI cJ cZ : ClassId) (mki : Nat → Int32) (msz : Nat → Int64) (mle : Nat → Int32) (mel : Nat → Int32) (mme : Nat → Int32) (mal : Nat → Int32) (mic : Nat → Int32) (mil : Nat → Int32) (mio : Nat → Int32) (mab : Nat → Int32) (mae : Nat → Int32) (msa : Nat → Int32) (mlc : Nat → Int32) (mli : Nat → Int32) (mna : Nat → Int32) (mva : Nat → Int32) (mma : Nat → Int32) (mch : Nat → Int32) (mre : Nat → Int32) (mlv : Nat → Int32) (mwr : Nat → Int64) (msh : Nat → Int32) (mth : Int32) (mnv : Int32) (mns : Int32) (mfa : Int32) (mmo : Int32) (x : Int32) (y : Int32) (hpre : (mnv ≤ 40 ∧ ∀ j : Nat, j < 40 → ∃ b : Nat, b ≤ 8 ∧ mle j = nI b)) (hv1 : ¬ (¬ (sKind mki mnv x 4 && sHas x y) = true)) (hv2 : mle x.toNatClampNeg = 8) : Wm (S := Unit) l y_Mo_push b_Mo_push 3 (some .int) 2 43 [.ref (b 0), .int x, .int y] D (tyA cI cJ cZ) (wM b cI cJ cZ mki msz mle mel mme mal mic mil mio mab mae msa mlc mli mna mva mma mch mre mlv mwr msh mth mnv mns mfa mmo) (fun _ => True) (fun _ => some (.int 0)) (fun _ => (wM b cI cJ cZ mki msz mle mel mme mal mic mil mio mab mae msa mlc mli mna mva mma mch mre mlv mwr msh 2 mnv mns mfa mmo)) := h_Mo_push l D b cI cJ cZ mki msz mle mel mme mal mic mil mio mab mae msa mlc mli mna mva mma mch mre mlv mwr msh mth mnv mns mfa mmo x y 0 mki msz mle mel mme mal mic mil mio mab mae msa mlc mli mna mva mma mch mre mlv mwr msh 2 mnv mns mfa mmo (by
  unfold V_Mo_push
  have hk := sKind_iff.mp (and2.mp (Classical.not_not.mp hv1)).1
  have hx : vp_in x 40 := vp_lt (Int32.le_iff_toInt_le.mp hpre.1) hk.1.1 hk.1.2
  repeat' (first | apply br_c | apply br_d | apply pre_and hpre.1 | apply pre_and hx | intro _)
  all_goals (first | (simp_all [add_sub1, bI, upd, sHas, sIn, sKind]; done) | (exfalso; simp_all only [le_nlt, and2, bI_eq, bI_ne, bnot_t, ite_true, ite_false, if_true, if_false, eq_self, sIn_i, sHas_i, sKind_iff, not_and, Classical.not_not, not_true_eq_false, not_false_eq_true, true_and, and_true, false_and, and_false, true_implies, false_implies, implies_true, imp_false, imp_self, or_false, false_or, not_or, or_true, true_or]; done) | skip))
theorem c_Mo_push_3 (l : Launch) (D : va_G) (b : Nat → Nat) (cI cJ cZ : ClassId) (mki : Nat → Int32) (msz : Nat → Int64) (mle : Nat → Int32) (mel : Nat → Int32) (mme : Nat → Int32) (mal : Nat → Int32) (mic : Nat → Int32) (mil : Nat → Int32) (mio : Nat → Int32) (mab : Nat → Int32) (mae : Nat → Int32) (msa : Nat → Int32) (mlc : Nat → Int32) (mli : Nat → Int32) (mna : Nat → Int32) (mva : Nat → Int32) (mma : Nat → Int32) (mch : Nat → Int32) (mre : Nat → Int32) (mlv : Nat → Int32) (mwr : Nat → Int64) (msh : Nat → Int32) (mth : Int32) (mnv : Int32) (mns : Int32) (mfa : Int32) (mmo : Int32) (x : Int32) (y : Int32) (hpre : (mnv ≤ 40 ∧ ∀ j : Nat, j < 40 → ∃ b : Nat, b ≤ 8 ∧ mle j = nI b)) (hv1 : ¬ (¬ (sKind mki mnv x 4 && sHas x y) = true)) (hv2 : ¬ (mle x.toNatClampNeg = 8)) : Wm (S := Unit) l y_Mo_push b_Mo_push 3 (some .int) 2 43 [.ref (b 0), .int x, .int y] D (tyA cI cJ cZ) (wM b cI cJ cZ mki msz mle mel mme mal mic mil mio mab mae msa mlc mli mna mva mma mch mre mlv mwr msh mth mnv mns mfa mmo) (fun _ => True) (fun _ => some (.int (mle x.toNatClampNeg + 1))) (fun _ => (wM b cI cJ cZ mki msz (upd mle x.toNatClampNeg (mle x.toNatClampNeg + 1)) (upd mel (8 * x + mle x.toNatClampNeg : Int32).toNatClampNeg y) mme mal mic mil mio mab mae msa mlc mli mna mva mma mch mre mlv mwr msh 0 mnv mns mfa mmo)) := h_Mo_push l D b cI cJ cZ mki msz mle mel mme mal mic mil mio mab mae msa mlc mli mna mva mma mch mre mlv mwr msh mth mnv mns mfa mmo x y (mle x.toNatClampNeg + 1) mki msz (upd mle x.toNatClampNeg (mle x.toNatClampNeg + 1)) (upd mel (8 * x + mle x.toNatClampNeg : Int32).toNatClampNeg y) mme mal mic mil mio mab mae msa mlc mli mna mva mma mch mre mlv mwr msh 0 mnv mns mfa mmo (by
  unfold V_Mo_push
  have hk := sKind_iff.mp (and2.mp (Classical.not_not.mp hv1)).1
  have hx : vp_in x 40 := vp_lt (Int32.le_iff_toInt_le.mp hpre.1) hk.1.1 hk.1.2
  have hy : vp_in (8 * x + mle x.toNatClampNeg) 320 := by
    obtain ⟨n, hn, hxn, hc⟩ := vp_nat hx (by decide)
    obtain ⟨b, hb, hpb⟩ := hpre.2 n hn
    have hb8 : b ≠ 8 := fun e => hv2 (by rw [hc, hpb, e]; rfl)
    rw [hc, hpb, hxn, show (8 : Int32) = nI 8 from rfl, pk_mul, nI_add]
    exact vp_in_nI (by omega) (by decide)
  repeat' (first | apply br_c | apply br_d | apply pre_and hpre.1 | apply pre_and hx | apply pre_and hy | intro _)
  all_goals (first | (simp_all [add_sub1, bI, upd, sHas, sIn, sKind]; done) | (exfalso; simp_all only [le_nlt, and2, bI_eq, bI_ne, bnot_t, ite_true, ite_false, if_true, if_false, eq_self, sIn_i, sHas_i, sKind_iff, not_and, Classical.not_not, not_true_eq_false, not_false_eq_true, true_and, and_true, false_and, and_false, true_implies, false_implies, implies_true, imp_false, imp_self, or_false, false_or, not_or, or_true, true_or]; done) | skip))
theorem hd_Mo_push : y_Mo_push.cls ≠ "java/lang/invoke/MethodHandle" ∧ y_Mo_push.cls ≠ "java/lang/invoke/VarHandle" ∧ (parseMethodDescriptor y_Mo_push.desc).map (fun d => d.parameters.length) = some 2 := ⟨by decide, by decide, by decide +kernel⟩
def V_Mo_put (mki : Nat → Int32) (msz : Nat → Int64) (mle : Nat → Int32) (mel : Nat → Int32) (mme : Nat → Int32) (mal : Nat → Int32) (mic : Nat → Int32) (mil : Nat → Int32) (mio : Nat → Int32) (mab : Nat → Int32) (mae : Nat → Int32) (msa : Nat → Int32) (mlc : Nat → Int32) (mli : Nat → Int32) (mna : Nat → Int32) (mva : Nat → Int32) (mma : Nat → Int32) (mch : Nat → Int32) (mre : Nat → Int32) (mlv : Nat → Int32) (mwr : Nat → Int64) (msh : Nat → Int32) (mth : Int32) (mnv : Int32) (mns : Int32) (mfa : Int32) (mmo : Int32) (x : Int32) (y : Int32) (z : Int32) (post : (Nat → Int32) → (Nat → Int64) → (Nat → Int32) → (Nat → Int32) → (Nat → Int32) → (Nat → Int32) → (Nat → Int32) → (Nat → Int32) → (Nat → Int32) → (Nat → Int32) → (Nat → Int32) → (Nat → Int32) → (Nat → Int32) → (Nat → Int32) → (Nat → Int32) → (Nat → Int32) → (Nat → Int32) → (Nat → Int32) → (Nat → Int32) → (Nat → Int32) → (Nat → Int64) → (Nat → Int32) → Int32 → Int32 → Int32 → Int32 → Int32 → Prop) : Prop :=
  (mnv ≤ 40 ∧ (((bI (sKind mki mnv x 5)) = 0 → post mki msz mle mel mme mal mic mil mio mab mae msa mlc mli mna mva mma mch mre mlv mwr msh 1 mnv mns mfa mmo) ∧ (¬ (bI (sKind mki mnv x 5)) = 0 → ((¬ (bI (!(sIn y 0 11))) = 0 → post mki msz mle mel mme mal mic mil mio mab mae msa mlc mli mna mva mma mch mre mlv mwr msh 1 mnv mns mfa mmo) ∧ ((bI (!(sIn y 0 11))) = 0 → ((z < 0 → post mki msz mle mel mme mal mic mil mio mab mae msa mlc mli mna mva mma mch mre mlv mwr msh 1 mnv mns mfa mmo) ∧ (¬ z < 0 → ((z < x → (vp_in ((12 * x) + y) 480 ∧ post mki msz mle mel (upd mme ((12 * x) + y : Int32).toNatClampNeg z) mal mic mil mio mab mae msa mlc mli mna mva mma mch mre mlv mwr msh 0 mnv mns mfa mmo)) ∧ (¬ z < x → post mki msz mle mel mme mal mic mil mio mab mae msa mlc mli mna mva mma mch mre mlv mwr msh 1 mnv mns mfa mmo)))))))))
set_option maxHeartbeats 4000000 in
set_option maxRecDepth 100000 in
theorem g_Mo_put {p : Program} {l : Launch} {e : Env} {R : Room} {s : State} {m : MethodId} {args : Array Value} {below : List Frame} {meth : Method} {c : Code} {H : Heap} {locs : List Loc} {cells slots : Nat} {Q : State → Prop} {ls : Array Slot} {A : Nat → Prop} (S : CallFix p m c b_Mo_put 4 s args W0 R_Mo) (hRf : 2 ≤ R.frames) (hRl : 43 ≤ R.locals) (hRc : cells ≤ R.cells ∧ slots ≤ R.slots) (D : va_G) (b : Nat → Nat) (cI cJ cZ : ClassId) (mki : Nat → Int32) (msz : Nat → Int64) (mle : Nat → Int32) (mel : Nat → Int32) (mme : Nat → Int32) (mal : Nat → Int32) (mic : Nat → Int32) (mil : Nat → Int32) (mio : Nat → Int32) (mab : Nat → Int32) (mae : Nat → Int32) (msa : Nat → Int32) (mlc : Nat → Int32) (mli : Nat → Int32) (mna : Nat → Int32) (mva : Nat → Int32) (mma : Nat → Int32) (mch : Nat → Int32) (mre : Nat → Int32) (mlv : Nat → Int32) (mwr : Nat → Int64) (msh : Nat → Int32) (mth : Int32) (mnv : Int32) (mns : Int32) (mfa : Int32) (mmo : Int32) (x : Int32) (y : Int32) (z : Int32) (hK : va_K D vwCl (tyA cI cJ cZ) s) (hP : va_P D vwCl (wM b cI cJ cZ mki msz mle mel mme mal mic mil mio mab mae msa mlc mli mna mva mma mch mre mlv mwr msh mth mnv mns mfa mmo) H) (hD : va_D A (wM b cI cJ cZ mki msz mle mel mme mal mic mil mio mab mae msa mlc mli mna mva mma mch mre mlv mwr msh mth mnv mns mfa mmo)) (hA : ∀ q, s.heap.size ≤ q → A q) (hS : va_S A s.heap H locs) (hl : lv_has ls 4 [(0, .ref (b 0)), (1, .int x), (2, .int y), (3, .int z)]) {post : (Nat → Int32) → (Nat → Int64) → (Nat → Int32) → (Nat → Int32) → (Nat → Int32) → (Nat → Int32) → (Nat → Int32) → (Nat → Int32) → (Nat → Int32) → (Nat → Int32) → (Nat → Int32) → (Nat → Int32) → (Nat → Int32) → (Nat → Int32) → (Nat → Int32) → (Nat → Int32) → (Nat → Int32) → (Nat → Int32) → (Nat → Int32) → (Nat → Int32) → (Nat → Int64) → (Nat → Int32) → Int32 → Int32 → Int32 → Int32 → Int32 → Prop} (vc : V_Mo_put mki msz mle mel mme mal mic mil mio mab mae msa mlc mli mna mva mma mch mre mlv mwr msh mth mnv mns mfa mmo x y z post)
    (hret : ∀ (mki : Nat → Int32) (msz : Nat → Int64) (mle : Nat → Int32) (mel : Nat → Int32) (mme : Nat → Int32) (mal : Nat → Int32) (mic : Nat → Int32) (mil : Nat → Int32) (mio : Nat → Int32) (mab : Nat → Int32) (mae : Nat → Int32) (msa : Nat → Int32) (mlc : Nat → Int32) (mli : Nat → Int32) (mna : Nat → Int32) (mva : Nat → Int32) (mma : Nat → Int32) (mch : Nat → Int32) (mre : Nat → Int32) (mlv : Nat → Int32) (mwr : Nat → Int64) (msh : Nat → Int32) (mth : Int32) (mnv : Int32) (mns : Int32) (mfa : Int32) (mmo : Int32) (ls : Array Slot) (pc : Nat) (H : Heap) (locs : List Loc), decode b_Mo_put pc = .ok (.return_, 1) → post mki msz mle mel mme mal mic mil mio mab mae msa mlc mli mna mva mma mch mre mlv mwr msh mth mnv mns mfa mmo → va_P D vwCl (wM b cI cJ cZ mki msz mle mel mme mal mic mil mio mab mae msa mlc mli mna mva mma mch mre mlv mwr msh mth mnv mns mfa mmo) H → va_D A (wM b cI cJ cZ mki msz mle mel mme mal mic mil mio mab mae msa mlc mli mna mva mma mch mre mlv mwr msh mth mnv mns mfa mmo) → va_S A s.heap H locs → W p l e R s m args below meth c H locs cells slots Q (F0 m pc ls [])) : W p l e R s m args below meth c H locs cells slots Q (F0 m 0 ls []) := by
  have hx := S.1
  have hb := S.2.1
  have hown := S.2.2.2.1
  have hts := S.2.2.2.2
  unfold V_Mo_put at vc
  refine lv_aload_n hx hb d_Mo_put_0 rfl (lv_at hl 0 rfl) ?_
  refine lv_aload_n hx hb d_Mo_put_1 rfl (lv_at hl 0 rfl) ?_
  refine lv_iload_n hx hb d_Mo_put_2 rfl (lv_at hl 1 rfl) ?_
  refine lv_iconst (v := 5) hx hb d_Mo_put_3 (by decide) ?_
  obtain ⟨hpre, vc⟩ := vc
  refine pc_V (As := [.int x, .int 5]) (rest := [.ref (b 0)]) S (c_Mo_isKind l D b cI cJ cZ mki msz mle mel mme mal mic mil mio mab mae msa mlc mli mna mva mma mch mre mlv mwr msh mth mnv mns mfa mmo x 5 hpre) wB_blind k_Mo_isKind i_Mo_isKind e_Mo_isKind o_Mo ml_Mo_104 hd_Mo_isKind (Nat.le_trans (by decide) hRf) (Nat.le_trans (by decide) hRl) hRc (va_recv hK hP (q0 := 0) (ci := 6) rfl rfl) (wB_at hP hK) hl.1 rfl (Nat.le_of_ble_eq_true rfl) d_Mo_put_4 ?_
  refine lv_if_eq (tgt := 27) hx hb d_Mo_put_7 (by decide) (fun h => ?_) (fun h => ?_)
  · have vc := vc.1 h
    refine lv_iconst (v := 1) hx hb d_Mo_put_27 (by decide) ?_
    refine lv_goto (tgt := 32) hx hb d_Mo_put_28 (by decide) ?_
    refine va_put (D := D) (ci := 6) (v := .int 1) (ty := .int) (C := R_Mo) (T := F_Mo) (N := 27) hx hb hts in_Mo t_Mo t_Mo_ok n_Mo hown hK hP hD hS 0 rfl rfl 0 (by decide) (hts _ fl_Mo_78) (fun _ h => h) rfl (by decide +kernel) rfl rfl (Nat.le_of_ble_eq_true rfl) d_Mo_put_32 (fun H locs hP hD hS => ?_)
    have hP : va_P D vwCl (wM b cI cJ cZ mki msz mle mel mme mal mic mil mio mab mae msa mlc mli mna mva mma mch mre mlv mwr msh 1 mnv mns mfa mmo) H := hP
    have hD : va_D A (wM b cI cJ cZ mki msz mle mel mme mal mic mil mio mab mae msa mlc mli mna mva mma mch mre mlv mwr msh 1 mnv mns mfa mmo) := hD
    refine lv_aload_n hx hb d_Mo_put_35 rfl (lv_at hl 0 rfl) ?_
    refine va_get (D := D) (ci := 6) (v := .int 1) (C := R_Mo) (T := F_Mo) (N := 27) hx hb hts in_Mo hown hK hP 0 rfl rfl 0 (by decide) (hts _ fl_Mo_78) (fun _ h => h) rfl d_Mo_put_36 ?_
    refine lv_if_ne (tgt := 54) hx hb d_Mo_put_39 (by decide) (fun h => ?_) (fun h => ?_)
    · skip
      exact hret _ _ _ _ _ _ _ _ _ _ _ _ _ _ _ _ _ _ _ _ _ _ _ _ _ _ _ ls _ H locs d_Mo_put_54 vc hP hD hS
    · exact absurd h (by decide)
  · have vc := vc.2 h
    refine lv_aload_n hx hb d_Mo_put_10 rfl (lv_at hl 0 rfl) ?_
    refine lv_iload_n hx hb d_Mo_put_11 rfl (lv_at hl 2 rfl) ?_
    refine pc_V (As := [.int y]) (rest := [.ref (b 0)]) S (c_Mo_noName l D b cI cJ cZ mki msz mle mel mme mal mic mil mio mab mae msa mlc mli mna mva mma mch mre mlv mwr msh mth mnv mns mfa mmo y) wB_blind k_Mo_noName i_Mo_noName e_Mo_noName o_Mo ml_Mo_108 hd_Mo_noName (Nat.le_trans (by decide) hRf) (Nat.le_trans (by decide) hRl) hRc (va_recv hK hP (q0 := 0) (ci := 6) rfl rfl) (wB_at hP hK) hl.1 rfl (Nat.le_of_ble_eq_true rfl) d_Mo_put_12 ?_
    refine lv_if_ne (tgt := 27) hx hb d_Mo_put_15 (by decide) (fun h => ?_) (fun h => ?_)
    · have vc := vc.1 h
      refine lv_iconst (v := 1) hx hb d_Mo_put_27 (by decide) ?_
      refine lv_goto (tgt := 32) hx hb d_Mo_put_28 (by decide) ?_
      refine va_put (D := D) (ci := 6) (v := .int 1) (ty := .int) (C := R_Mo) (T := F_Mo) (N := 27) hx hb hts in_Mo t_Mo t_Mo_ok n_Mo hown hK hP hD hS 0 rfl rfl 0 (by decide) (hts _ fl_Mo_78) (fun _ h => h) rfl (by decide +kernel) rfl rfl (Nat.le_of_ble_eq_true rfl) d_Mo_put_32 (fun H locs hP hD hS => ?_)
      have hP : va_P D vwCl (wM b cI cJ cZ mki msz mle mel mme mal mic mil mio mab mae msa mlc mli mna mva mma mch mre mlv mwr msh 1 mnv mns mfa mmo) H := hP
      have hD : va_D A (wM b cI cJ cZ mki msz mle mel mme mal mic mil mio mab mae msa mlc mli mna mva mma mch mre mlv mwr msh 1 mnv mns mfa mmo) := hD
      refine lv_aload_n hx hb d_Mo_put_35 rfl (lv_at hl 0 rfl) ?_
      refine va_get (D := D) (ci := 6) (v := .int 1) (C := R_Mo) (T := F_Mo) (N := 27) hx hb hts in_Mo hown hK hP 0 rfl rfl 0 (by decide) (hts _ fl_Mo_78) (fun _ h => h) rfl d_Mo_put_36 ?_
      refine lv_if_ne (tgt := 54) hx hb d_Mo_put_39 (by decide) (fun h => ?_) (fun h => ?_)
      · skip
        exact hret _ _ _ _ _ _ _ _ _ _ _ _ _ _ _ _ _ _ _ _ _ _ _ _ _ _ _ ls _ H locs d_Mo_put_54 vc hP hD hS
      · exact absurd h (by decide)
    · have vc := vc.2 h
      refine lv_iload_n hx hb d_Mo_put_18 rfl (lv_at hl 3 rfl) ?_
      refine lv_if_lt (tgt := 27) hx hb d_Mo_put_19 (by decide) (fun h => ?_) (fun h => ?_)
      · have vc := vc.1 h
        refine lv_iconst (v := 1) hx hb d_Mo_put_27 (by decide) ?_
        refine lv_goto (tgt := 32) hx hb d_Mo_put_28 (by decide) ?_
        refine va_put (D := D) (ci := 6) (v := .int 1) (ty := .int) (C := R_Mo) (T := F_Mo) (N := 27) hx hb hts in_Mo t_Mo t_Mo_ok n_Mo hown hK hP hD hS 0 rfl rfl 0 (by decide) (hts _ fl_Mo_78) (fun _ h => h) rfl (by decide +kernel) rfl rfl (Nat.le_of_ble_eq_true rfl) d_Mo_put_32 (fun H locs hP hD hS => ?_)
        have hP : va_P D vwCl (wM b cI cJ cZ mki msz mle mel mme mal mic mil mio mab mae msa mlc mli mna mva mma mch mre mlv mwr msh 1 mnv mns mfa mmo) H := hP
        have hD : va_D A (wM b cI cJ cZ mki msz mle mel mme mal mic mil mio mab mae msa mlc mli mna mva mma mch mre mlv mwr msh 1 mnv mns mfa mmo) := hD
        refine lv_aload_n hx hb d_Mo_put_35 rfl (lv_at hl 0 rfl) ?_
        refine va_get (D := D) (ci := 6) (v := .int 1) (C := R_Mo) (T := F_Mo) (N := 27) hx hb hts in_Mo hown hK hP 0 rfl rfl 0 (by decide) (hts _ fl_Mo_78) (fun _ h => h) rfl d_Mo_put_36 ?_
        refine lv_if_ne (tgt := 54) hx hb d_Mo_put_39 (by decide) (fun h => ?_) (fun h => ?_)
        · skip
          exact hret _ _ _ _ _ _ _ _ _ _ _ _ _ _ _ _ _ _ _ _ _ _ _ _ _ _ _ ls _ H locs d_Mo_put_54 vc hP hD hS
        · exact absurd h (by decide)
      · have vc := vc.2 h
        refine lv_iload_n hx hb d_Mo_put_22 rfl (lv_at hl 3 rfl) ?_
        refine lv_iload_n hx hb d_Mo_put_23 rfl (lv_at hl 1 rfl) ?_
        refine lv_icmp_lt (tgt := 31) hx hb d_Mo_put_24 (by decide) (fun h => ?_) (fun h => ?_)
        · have vc := vc.1 h
          refine lv_iconst (v := 0) hx hb d_Mo_put_31 (by decide) ?_
          refine va_put (D := D) (ci := 6) (v := .int 0) (ty := .int) (C := R_Mo) (T := F_Mo) (N := 27) hx hb hts in_Mo t_Mo t_Mo_ok n_Mo hown hK hP hD hS 0 rfl rfl 0 (by decide) (hts _ fl_Mo_78) (fun _ h => h) rfl (by decide +kernel) rfl rfl (Nat.le_of_ble_eq_true rfl) d_Mo_put_32 (fun H locs hP hD hS => ?_)
          have hP : va_P D vwCl (wM b cI cJ cZ mki msz mle mel mme mal mic mil mio mab mae msa mlc mli mna mva mma mch mre mlv mwr msh 0 mnv mns mfa mmo) H := hP
          have hD : va_D A (wM b cI cJ cZ mki msz mle mel mme mal mic mil mio mab mae msa mlc mli mna mva mma mch mre mlv mwr msh 0 mnv mns mfa mmo) := hD
          refine lv_aload_n hx hb d_Mo_put_35 rfl (lv_at hl 0 rfl) ?_
          refine va_get (D := D) (ci := 6) (v := .int 0) (C := R_Mo) (T := F_Mo) (N := 27) hx hb hts in_Mo hown hK hP 0 rfl rfl 0 (by decide) (hts _ fl_Mo_78) (fun _ h => h) rfl d_Mo_put_36 ?_
          refine lv_if_ne (tgt := 54) hx hb d_Mo_put_39 (by decide) (fun h => ?_) (fun h => ?_)
          · exact absurd h (by decide)
          · skip
            refine lv_aload_n hx hb d_Mo_put_42 rfl (lv_at hl 0 rfl) ?_
            refine va_get (D := D) (ci := 6) (v := .ref (b 5)) (C := R_Mo) (T := F_Mo) (N := 27) hx hb hts in_Mo hown hK hP 0 rfl rfl 6 (by decide) (hts _ fl_Mo_23) (fun _ h => h) rfl d_Mo_put_43 ?_
            refine lv_bipush (v := 12) hx hb d_Mo_put_46 (by decide) ?_
            refine lv_iload_n hx hb d_Mo_put_48 rfl (lv_at hl 1 rfl) ?_
            refine lv_imul hx hb d_Mo_put_49 ?_
            refine lv_iload_n hx hb d_Mo_put_50 rfl (lv_at hl 2 rfl) ?_
            refine lv_iadd hx hb d_Mo_put_51 ?_
            refine lv_iload_n hx hb d_Mo_put_52 rfl (lv_at hl 3 rfl) ?_
            obtain ⟨vcb, vc⟩ := vc
            refine va_iast hx hb hK hP hD hS 5 0 rfl rfl vcb d_Mo_put_53 (fun H locs hP hD hS => ?_)
            have hP : va_P D vwCl (wM b cI cJ cZ mki msz mle mel (upd mme ((12 * x) + y : Int32).toNatClampNeg z) mal mic mil mio mab mae msa mlc mli mna mva mma mch mre mlv mwr msh 0 mnv mns mfa mmo) H := hP
            have hD : va_D A (wM b cI cJ cZ mki msz mle mel (upd mme ((12 * x) + y : Int32).toNatClampNeg z) mal mic mil mio mab mae msa mlc mli mna mva mma mch mre mlv mwr msh 0 mnv mns mfa mmo) := hD
            exact hret _ _ _ _ _ _ _ _ _ _ _ _ _ _ _ _ _ _ _ _ _ _ _ _ _ _ _ ls _ H locs d_Mo_put_54 vc hP hD hS
        · have vc := vc.2 h
          refine lv_iconst (v := 1) hx hb d_Mo_put_27 (by decide) ?_
          refine lv_goto (tgt := 32) hx hb d_Mo_put_28 (by decide) ?_
          refine va_put (D := D) (ci := 6) (v := .int 1) (ty := .int) (C := R_Mo) (T := F_Mo) (N := 27) hx hb hts in_Mo t_Mo t_Mo_ok n_Mo hown hK hP hD hS 0 rfl rfl 0 (by decide) (hts _ fl_Mo_78) (fun _ h => h) rfl (by decide +kernel) rfl rfl (Nat.le_of_ble_eq_true rfl) d_Mo_put_32 (fun H locs hP hD hS => ?_)
          have hP : va_P D vwCl (wM b cI cJ cZ mki msz mle mel mme mal mic mil mio mab mae msa mlc mli mna mva mma mch mre mlv mwr msh 1 mnv mns mfa mmo) H := hP
          have hD : va_D A (wM b cI cJ cZ mki msz mle mel mme mal mic mil mio mab mae msa mlc mli mna mva mma mch mre mlv mwr msh 1 mnv mns mfa mmo) := hD
          refine lv_aload_n hx hb d_Mo_put_35 rfl (lv_at hl 0 rfl) ?_
          refine va_get (D := D) (ci := 6) (v := .int 1) (C := R_Mo) (T := F_Mo) (N := 27) hx hb hts in_Mo hown hK hP 0 rfl rfl 0 (by decide) (hts _ fl_Mo_78) (fun _ h => h) rfl d_Mo_put_36 ?_
          refine lv_if_ne (tgt := 54) hx hb d_Mo_put_39 (by decide) (fun h => ?_) (fun h => ?_)
          · skip
            exact hret _ _ _ _ _ _ _ _ _ _ _ _ _ _ _ _ _ _ _ _ _ _ _ _ _ _ _ ls _ H locs d_Mo_put_54 vc hP hD hS
          · exact absurd h (by decide)
theorem h_Mo_put (l : Launch) (D : va_G) (b : Nat → Nat) (cI cJ cZ : ClassId) (mki : Nat → Int32) (msz : Nat → Int64) (mle : Nat → Int32) (mel : Nat → Int32) (mme : Nat → Int32) (mal : Nat → Int32) (mic : Nat → Int32) (mil : Nat → Int32) (mio : Nat → Int32) (mab : Nat → Int32) (mae : Nat → Int32) (msa : Nat → Int32) (mlc : Nat → Int32) (mli : Nat → Int32) (mna : Nat → Int32) (mva : Nat → Int32) (mma : Nat → Int32) (mch : Nat → Int32) (mre : Nat → Int32) (mlv : Nat → Int32) (mwr : Nat → Int64) (msh : Nat → Int32) (mth : Int32) (mnv : Int32) (mns : Int32) (mfa : Int32) (mmo : Int32) (x : Int32) (y : Int32) (z : Int32) (mki' : Nat → Int32) (msz' : Nat → Int64) (mle' : Nat → Int32) (mel' : Nat → Int32) (mme' : Nat → Int32) (mal' : Nat → Int32) (mic' : Nat → Int32) (mil' : Nat → Int32) (mio' : Nat → Int32) (mab' : Nat → Int32) (mae' : Nat → Int32) (msa' : Nat → Int32) (mlc' : Nat → Int32) (mli' : Nat → Int32) (mna' : Nat → Int32) (mva' : Nat → Int32) (mma' : Nat → Int32) (mch' : Nat → Int32) (mre' : Nat → Int32) (mlv' : Nat → Int32) (mwr' : Nat → Int64) (msh' : Nat → Int32) (mth' : Int32) (mnv' : Int32) (mns' : Int32) (mfa' : Int32) (mmo' : Int32) (vc : V_Mo_put mki msz mle mel mme mal mic mil mio mab mae msa mlc mli mna mva mma mch mre mlv mwr msh mth mnv mns mfa mmo x y z (fun mki msz mle mel mme mal mic mil mio mab mae msa mlc mli mna mva mma mch mre mlv mwr msh mth mnv mns mfa mmo => mki = mki' ∧ msz = msz' ∧ mle = mle' ∧ mel = mel' ∧ mme = mme' ∧ mal = mal' ∧ mic = mic' ∧ mil = mil' ∧ mio = mio' ∧ mab = mab' ∧ mae = mae' ∧ msa = msa' ∧ mlc = mlc' ∧ mli = mli' ∧ mna = mna' ∧ mva = mva' ∧ mma = mma' ∧ mch = mch' ∧ mre = mre' ∧ mlv = mlv' ∧ mwr = mwr' ∧ msh = msh' ∧ mth = mth' ∧ mnv = mnv' ∧ mns = mns' ∧ mfa = mfa' ∧ mmo = mmo')) : Wm (S := Unit) l y_Mo_put b_Mo_put 4 none 2 43 [.ref (b 0), .int x, .int y, .int z] D (tyA cI cJ cZ) (wM b cI cJ cZ mki msz mle mel mme mal mic mil mio mab mae msa mlc mli mna mva mma mch mre mlv mwr msh mth mnv mns mfa mmo) (fun _ => True) (fun _ => none) (fun _ => (wM b cI cJ cZ mki' msz' mle' mel' mme' mal' mic' mil' mio' mab' mae' msa' mlc' mli' mna' mva' mma' mch' mre' mlv' mwr' msh' mth' mnv' mns' mfa' mmo')) :=
  wm_v (by decide) (Nat.le_of_ble_eq_true rfl) (fun p e s m below meth c ls Q A S hK hP hD hA hS hl hret => g_Mo_put S (Nat.le_refl _) (Nat.le_refl _) ⟨Nat.le_refl _, Nat.le_refl _⟩ D b cI cJ cZ mki msz mle mel mme mal mic mil mio mab mae msa mlc mli mna mva mma mch mre mlv mwr msh mth mnv mns mfa mmo x y z hK hP hD hA hS hl vc (fun mki msz mle mel mme mal mic mil mio mab mae msa mlc mli mna mva mma mch mre mlv mwr msh mth mnv mns mfa mmo ls pc H locs hd hv hP hD hS => by obtain ⟨rfl, rfl, rfl, rfl, rfl, rfl, rfl, rfl, rfl, rfl, rfl, rfl, rfl, rfl, rfl, rfl, rfl, rfl, rfl, rfl, rfl, rfl, rfl, rfl, rfl, rfl, rfl⟩ := hv; exact hret () ls pc H locs hd trivial hP hD hS))
theorem c_Mo_put_1 (l : Launch) (D : va_G) (b : Nat → Nat) (cI cJ cZ : ClassId) (mki : Nat → Int32) (msz : Nat → Int64) (mle : Nat → Int32) (mel : Nat → Int32) (mme : Nat → Int32) (mal : Nat → Int32) (mic : Nat → Int32) (mil : Nat → Int32) (mio : Nat → Int32) (mab : Nat → Int32) (mae : Nat → Int32) (msa : Nat → Int32) (mlc : Nat → Int32) (mli : Nat → Int32) (mna : Nat → Int32) (mva : Nat → Int32) (mma : Nat → Int32) (mch : Nat → Int32) (mre : Nat → Int32) (mlv : Nat → Int32) (mwr : Nat → Int64) (msh : Nat → Int32) (mth : Int32) (mnv : Int32) (mns : Int32) (mfa : Int32) (mmo : Int32) (x : Int32) (y : Int32) (z : Int32) (hpre : mnv ≤ 40) (hv1 : ¬ (sKind mki mnv x 5 && (sIn y 0 11 && sHas x z)) = true) : Wm (S := Unit) l y_Mo_put b_Mo_put 4 none 2 43 [.ref (b 0), .int x, .int y, .int z] D (tyA cI cJ cZ) (wM b cI cJ cZ mki msz mle mel mme mal mic mil mio mab mae msa mlc mli mna mva mma mch mre mlv mwr msh mth mnv mns mfa mmo) (fun _ => True) (fun _ => none) (fun _ => (wM b cI cJ cZ mki msz mle mel mme mal mic mil mio mab mae msa mlc mli mna mva mma mch mre mlv mwr msh 1 mnv mns mfa mmo)) := h_Mo_put l D b cI cJ cZ mki msz mle mel mme mal mic mil mio mab mae msa mlc mli mna mva mma mch mre mlv mwr msh mth mnv mns mfa mmo x y z mki msz mle mel mme mal mic mil mio mab mae msa mlc mli mna mva mma mch mre mlv mwr msh 1 mnv mns mfa mmo (by
  unfold V_Mo_put
  repeat' (first | apply br_c | apply br_d | apply pre_and hpre | intro _)
  all_goals (first | (simp_all [add_sub1, bI, upd, sHas, sIn, sKind]; done) | (exfalso; simp_all only [le_nlt, and2, bI_eq, bI_ne, bnot_t, ite_true, ite_false, if_true, if_false, eq_self, sIn_i, sHas_i, sKind_iff, not_and, Classical.not_not, not_true_eq_false, not_false_eq_true, true_and, and_true, false_and, and_false, true_implies, false_implies, implies_true, imp_false, imp_self, or_false, false_or, not_or, or_true, true_or]; done) | skip))
theorem c_Mo_put_2 (l : Launch) (D : va_G) (b : Nat → Nat) (cI cJ cZ : ClassId) (mki : Nat → Int32) (msz : Nat → Int64) (mle : Nat → Int32) (mel : Nat → Int32) (mme : Nat → Int32) (mal : Nat → Int32) (mic : Nat → Int32) (mil : Nat → Int32) (mio : Nat → Int32) (mab : Nat → Int32) (mae : Nat → Int32) (msa : Nat → Int32) (mlc : Nat → Int32) (mli : Nat → Int32) (mna : Nat → Int32) (mva : Nat → Int32) (mma : Nat → Int32) (mch : Nat → Int32) (mre : Nat → Int32) (mlv : Nat → Int32) (mwr : Nat → Int64) (msh : Nat → Int32) (mth : Int32) (mnv : Int32) (mns : Int32) (mfa : Int32) (mmo : Int32) (x : Int32) (y : Int32) (z : Int32) (hpre : mnv ≤ 40) (hv1 : ¬ (¬ (sKind mki mnv x 5 && (sIn y 0 11 && sHas x z)) = true)) : Wm (S := Unit) l y_Mo_put b_Mo_put 4 none 2 43 [.ref (b 0), .int x, .int y, .int z] D (tyA cI cJ cZ) (wM b cI cJ cZ mki msz mle mel mme mal mic mil mio mab mae msa mlc mli mna mva mma mch mre mlv mwr msh mth mnv mns mfa mmo) (fun _ => True) (fun _ => none) (fun _ => (wM b cI cJ cZ mki msz mle mel (upd mme (12 * x + y : Int32).toNatClampNeg z) mal mic mil mio mab mae msa mlc mli mna mva mma mch mre mlv mwr msh 0 mnv mns mfa mmo)) := h_Mo_put l D b cI cJ cZ mki msz mle mel mme mal mic mil mio mab mae msa mlc mli mna mva mma mch mre mlv mwr msh mth mnv mns mfa mmo x y z mki msz mle mel (upd mme (12 * x + y : Int32).toNatClampNeg z) mal mic mil mio mab mae msa mlc mli mna mva mma mch mre mlv mwr msh 0 mnv mns mfa mmo (by
  unfold V_Mo_put
  have hb := Classical.not_not.mp hv1
  have hk := sKind_iff.mp (and2.mp hb).1
  have hy : vp_in (12 * x + y) 480 := by
    obtain ⟨n, hn, hxn, hc⟩ := vp_nat (vp_lt (N := 40) (Int32.le_iff_toInt_le.mp hpre) hk.1.1 hk.1.2) (by decide)
    obtain ⟨k, h1, h2, rfl⟩ := sIn_nat (lo := 0) (hi := 11) (by decide) (by decide) (and2.mp (and2.mp hb).2).1
    rw [hxn, show (12 : Int32) = nI 12 from rfl, pk_mul, nI_add]
    exact vp_in_nI (by omega) (by decide)
  repeat' (first | apply br_c | apply br_d | apply pre_and hpre | apply pre_and hy | intro _)
  all_goals (first | (simp_all [add_sub1, bI, upd, sHas, sIn, sKind]; done) | (exfalso; simp_all only [le_nlt, and2, bI_eq, bI_ne, bnot_t, ite_true, ite_false, if_true, if_false, eq_self, sIn_i, sHas_i, sKind_iff, not_and, Classical.not_not, not_true_eq_false, not_false_eq_true, true_and, and_true, false_and, and_false, true_implies, false_implies, implies_true, imp_false, imp_self, or_false, false_or, not_or, or_true, true_or]; done) | skip))
theorem hd_Mo_put : y_Mo_put.cls ≠ "java/lang/invoke/MethodHandle" ∧ y_Mo_put.cls ≠ "java/lang/invoke/VarHandle" ∧ (parseMethodDescriptor y_Mo_put.desc).map (fun d => d.parameters.length) = some 3 := ⟨by decide, by decide, by decide +kernel⟩
def V_Mo_item (mki : Nat → Int32) (msz : Nat → Int64) (mle : Nat → Int32) (mel : Nat → Int32) (mme : Nat → Int32) (mal : Nat → Int32) (mic : Nat → Int32) (mil : Nat → Int32) (mio : Nat → Int32) (mab : Nat → Int32) (mae : Nat → Int32) (msa : Nat → Int32) (mlc : Nat → Int32) (mli : Nat → Int32) (mna : Nat → Int32) (mva : Nat → Int32) (mma : Nat → Int32) (mch : Nat → Int32) (mre : Nat → Int32) (mlv : Nat → Int32) (mwr : Nat → Int64) (msh : Nat → Int32) (mth : Int32) (mnv : Int32) (mns : Int32) (mfa : Int32) (mmo : Int32) (x : Int32) (y : Int32) (z : Int32) (post : Int32 → (Nat → Int32) → (Nat → Int64) → (Nat → Int32) → (Nat → Int32) → (Nat → Int32) → (Nat → Int32) → (Nat → Int32) → (Nat → Int32) → (Nat → Int32) → (Nat → Int32) → (Nat → Int32) → (Nat → Int32) → (Nat → Int32) → (Nat → Int32) → (Nat → Int32) → (Nat → Int32) → (Nat → Int32) → (Nat → Int32) → (Nat → Int32) → (Nat → Int32) → (Nat → Int64) → (Nat → Int32) → Int32 → Int32 → Int32 → Int32 → Int32 → Prop) : Prop :=
  ((¬ (bI (!(sIn x 0 7))) = 0 → post 0 mki msz mle mel mme mal mic mil mio mab mae msa mlc mli mna mva mma mch mre mlv mwr msh 1 mnv mns mfa mmo) ∧ ((bI (!(sIn x 0 7))) = 0 → ((y < 0 → post 0 mki msz mle mel mme mal mic mil mio mab mae msa mlc mli mna mva mma mch mre mlv mwr msh 1 mnv mns mfa mmo) ∧ (¬ y < 0 → ((15 < y → post 0 mki msz mle mel mme mal mic mil mio mab mae msa mlc mli mna mva mma mch mre mlv mwr msh 1 mnv mns mfa mmo) ∧ (¬ 15 < y → ((z < 0 → post 0 mki msz mle mel mme mal mic mil mio mab mae msa mlc mli mna mva mma mch mre mlv mwr msh 1 mnv mns mfa mmo) ∧ (¬ z < 0 → ((z ≤ 3 → (vp_in x 8 ∧ ((¬ (mic x.toNatClampNeg) = 6 → (vp_in x 8 ∧ (vp_in ((6 * x) + (mic x.toNatClampNeg)) 48 ∧ (vp_in x 8 ∧ (vp_in ((6 * x) + (mic x.toNatClampNeg)) 48 ∧ (vp_in x 8 ∧ (vp_in x 8 ∧ (vp_in x 8 ∧ post ((upd mic x.toNatClampNeg ((mic x.toNatClampNeg) + 1)) x.toNatClampNeg) mki msz mle mel mme mal (upd mic x.toNatClampNeg ((mic x.toNatClampNeg) + 1)) (upd mil ((6 * x) + (mic x.toNatClampNeg) : Int32).toNatClampNeg y) (upd mio ((6 * x) + (mic x.toNatClampNeg) : Int32).toNatClampNeg z) mab mae msa mlc mli mna mva mma mch mre mlv mwr msh 0 mnv mns mfa mmo)))))))) ∧ ((mic x.toNatClampNeg) = 6 → post 0 mki msz mle mel mme mal mic mil mio mab mae msa mlc mli mna mva mma mch mre mlv mwr msh 2 mnv mns mfa mmo)))) ∧ (¬ z ≤ 3 → post 0 mki msz mle mel mme mal mic mil mio mab mae msa mlc mli mna mva mma mch mre mlv mwr msh 1 mnv mns mfa mmo))))))))))
set_option maxHeartbeats 4000000 in
set_option maxRecDepth 100000 in
theorem g_Mo_item {p : Program} {l : Launch} {e : Env} {R : Room} {s : State} {m : MethodId} {args : Array Value} {below : List Frame} {meth : Method} {c : Code} {H : Heap} {locs : List Loc} {cells slots : Nat} {Q : State → Prop} {ls : Array Slot} {A : Nat → Prop} (S : CallFix p m c b_Mo_item 4 s args W0 R_Mo) (hRf : 1 ≤ R.frames) (hRl : 21 ≤ R.locals) (hRc : cells ≤ R.cells ∧ slots ≤ R.slots) (D : va_G) (b : Nat → Nat) (cI cJ cZ : ClassId) (mki : Nat → Int32) (msz : Nat → Int64) (mle : Nat → Int32) (mel : Nat → Int32) (mme : Nat → Int32) (mal : Nat → Int32) (mic : Nat → Int32) (mil : Nat → Int32) (mio : Nat → Int32) (mab : Nat → Int32) (mae : Nat → Int32) (msa : Nat → Int32) (mlc : Nat → Int32) (mli : Nat → Int32) (mna : Nat → Int32) (mva : Nat → Int32) (mma : Nat → Int32) (mch : Nat → Int32) (mre : Nat → Int32) (mlv : Nat → Int32) (mwr : Nat → Int64) (msh : Nat → Int32) (mth : Int32) (mnv : Int32) (mns : Int32) (mfa : Int32) (mmo : Int32) (x : Int32) (y : Int32) (z : Int32) (hK : va_K D vwCl (tyA cI cJ cZ) s) (hP : va_P D vwCl (wM b cI cJ cZ mki msz mle mel mme mal mic mil mio mab mae msa mlc mli mna mva mma mch mre mlv mwr msh mth mnv mns mfa mmo) H) (hD : va_D A (wM b cI cJ cZ mki msz mle mel mme mal mic mil mio mab mae msa mlc mli mna mva mma mch mre mlv mwr msh mth mnv mns mfa mmo)) (hA : ∀ q, s.heap.size ≤ q → A q) (hS : va_S A s.heap H locs) (hl : lv_has ls 4 [(0, .ref (b 0)), (1, .int x), (2, .int y), (3, .int z)]) {post : Int32 → (Nat → Int32) → (Nat → Int64) → (Nat → Int32) → (Nat → Int32) → (Nat → Int32) → (Nat → Int32) → (Nat → Int32) → (Nat → Int32) → (Nat → Int32) → (Nat → Int32) → (Nat → Int32) → (Nat → Int32) → (Nat → Int32) → (Nat → Int32) → (Nat → Int32) → (Nat → Int32) → (Nat → Int32) → (Nat → Int32) → (Nat → Int32) → (Nat → Int32) → (Nat → Int64) → (Nat → Int32) → Int32 → Int32 → Int32 → Int32 → Int32 → Prop} (vc : V_Mo_item mki msz mle mel mme mal mic mil mio mab mae msa mlc mli mna mva mma mch mre mlv mwr msh mth mnv mns mfa mmo x y z post)
    (hret : ∀ (v : Int32) (mki : Nat → Int32) (msz : Nat → Int64) (mle : Nat → Int32) (mel : Nat → Int32) (mme : Nat → Int32) (mal : Nat → Int32) (mic : Nat → Int32) (mil : Nat → Int32) (mio : Nat → Int32) (mab : Nat → Int32) (mae : Nat → Int32) (msa : Nat → Int32) (mlc : Nat → Int32) (mli : Nat → Int32) (mna : Nat → Int32) (mva : Nat → Int32) (mma : Nat → Int32) (mch : Nat → Int32) (mre : Nat → Int32) (mlv : Nat → Int32) (mwr : Nat → Int64) (msh : Nat → Int32) (mth : Int32) (mnv : Int32) (mns : Int32) (mfa : Int32) (mmo : Int32) (ls : Array Slot) (pc : Nat) (H : Heap) (locs : List Loc), decode b_Mo_item pc = .ok (.ireturn, 1) → post v mki msz mle mel mme mal mic mil mio mab mae msa mlc mli mna mva mma mch mre mlv mwr msh mth mnv mns mfa mmo → va_P D vwCl (wM b cI cJ cZ mki msz mle mel mme mal mic mil mio mab mae msa mlc mli mna mva mma mch mre mlv mwr msh mth mnv mns mfa mmo) H → va_D A (wM b cI cJ cZ mki msz mle mel mme mal mic mil mio mab mae msa mlc mli mna mva mma mch mre mlv mwr msh mth mnv mns mfa mmo) → va_S A s.heap H locs → W p l e R s m args below meth c H locs cells slots Q (F0 m pc ls [.int v])) : W p l e R s m args below meth c H locs cells slots Q (F0 m 0 ls []) := by
  have hx := S.1
  have hb := S.2.1
  have hown := S.2.2.2.1
  have hts := S.2.2.2.2
  unfold V_Mo_item at vc
  refine lv_aload_n hx hb d_Mo_item_0 rfl (lv_at hl 0 rfl) ?_
  refine lv_aload_n hx hb d_Mo_item_1 rfl (lv_at hl 0 rfl) ?_
  refine lv_iload_n hx hb d_Mo_item_2 rfl (lv_at hl 1 rfl) ?_
  refine pc_V (As := [.int x]) (rest := [.ref (b 0)]) S (c_Mo_noPattern l D b cI cJ cZ mki msz mle mel mme mal mic mil mio mab mae msa mlc mli mna mva mma mch mre mlv mwr msh mth mnv mns mfa mmo x) wB_blind k_Mo_noPattern i_Mo_noPattern e_Mo_noPattern o_Mo ml_Mo_117 hd_Mo_noPattern (Nat.le_trans (by decide) hRf) (Nat.le_trans (by decide) hRl) hRc (va_recv hK hP (q0 := 0) (ci := 6) rfl rfl) (wB_at hP hK) hl.1 rfl (Nat.le_of_ble_eq_true rfl) d_Mo_item_3 ?_
  refine lv_if_ne (tgt := 28) hx hb d_Mo_item_6 (by decide) (fun h => ?_) (fun h => ?_)
  · have vc := vc.1 h
    refine lv_iconst (v := 1) hx hb d_Mo_item_28 (by decide) ?_
    refine lv_goto (tgt := 48) hx hb d_Mo_item_29 (by decide) ?_
    refine va_put (D := D) (ci := 6) (v := .int 1) (ty := .int) (C := R_Mo) (T := F_Mo) (N := 27) hx hb hts in_Mo t_Mo t_Mo_ok n_Mo hown hK hP hD hS 0 rfl rfl 0 (by decide) (hts _ fl_Mo_78) (fun _ h => h) rfl (by decide +kernel) rfl rfl (Nat.le_of_ble_eq_true rfl) d_Mo_item_48 (fun H locs hP hD hS => ?_)
    have hP : va_P D vwCl (wM b cI cJ cZ mki msz mle mel mme mal mic mil mio mab mae msa mlc mli mna mva mma mch mre mlv mwr msh 1 mnv mns mfa mmo) H := hP
    have hD : va_D A (wM b cI cJ cZ mki msz mle mel mme mal mic mil mio mab mae msa mlc mli mna mva mma mch mre mlv mwr msh 1 mnv mns mfa mmo) := hD
    refine lv_aload_n hx hb d_Mo_item_51 rfl (lv_at hl 0 rfl) ?_
    refine va_get (D := D) (ci := 6) (v := .int 1) (C := R_Mo) (T := F_Mo) (N := 27) hx hb hts in_Mo hown hK hP 0 rfl rfl 0 (by decide) (hts _ fl_Mo_78) (fun _ h => h) rfl d_Mo_item_52 ?_
    refine lv_if_eq (tgt := 60) hx hb d_Mo_item_55 (by decide) (fun h => ?_) (fun h => ?_)
    · exact absurd h (by decide)
    · skip
      refine lv_iconst (v := 0) hx hb d_Mo_item_58 (by decide) ?_
      exact hret _ _ _ _ _ _ _ _ _ _ _ _ _ _ _ _ _ _ _ _ _ _ _ _ _ _ _ _ ls _ H locs d_Mo_item_59 vc hP hD hS
  · have vc := vc.2 h
    refine lv_iload_n hx hb d_Mo_item_9 rfl (lv_at hl 2 rfl) ?_
    refine lv_if_lt (tgt := 28) hx hb d_Mo_item_10 (by decide) (fun h => ?_) (fun h => ?_)
    · have vc := vc.1 h
      refine lv_iconst (v := 1) hx hb d_Mo_item_28 (by decide) ?_
      refine lv_goto (tgt := 48) hx hb d_Mo_item_29 (by decide) ?_
      refine va_put (D := D) (ci := 6) (v := .int 1) (ty := .int) (C := R_Mo) (T := F_Mo) (N := 27) hx hb hts in_Mo t_Mo t_Mo_ok n_Mo hown hK hP hD hS 0 rfl rfl 0 (by decide) (hts _ fl_Mo_78) (fun _ h => h) rfl (by decide +kernel) rfl rfl (Nat.le_of_ble_eq_true rfl) d_Mo_item_48 (fun H locs hP hD hS => ?_)
      have hP : va_P D vwCl (wM b cI cJ cZ mki msz mle mel mme mal mic mil mio mab mae msa mlc mli mna mva mma mch mre mlv mwr msh 1 mnv mns mfa mmo) H := hP
      have hD : va_D A (wM b cI cJ cZ mki msz mle mel mme mal mic mil mio mab mae msa mlc mli mna mva mma mch mre mlv mwr msh 1 mnv mns mfa mmo) := hD
      refine lv_aload_n hx hb d_Mo_item_51 rfl (lv_at hl 0 rfl) ?_
      refine va_get (D := D) (ci := 6) (v := .int 1) (C := R_Mo) (T := F_Mo) (N := 27) hx hb hts in_Mo hown hK hP 0 rfl rfl 0 (by decide) (hts _ fl_Mo_78) (fun _ h => h) rfl d_Mo_item_52 ?_
      refine lv_if_eq (tgt := 60) hx hb d_Mo_item_55 (by decide) (fun h => ?_) (fun h => ?_)
      · exact absurd h (by decide)
      · skip
        refine lv_iconst (v := 0) hx hb d_Mo_item_58 (by decide) ?_
        exact hret _ _ _ _ _ _ _ _ _ _ _ _ _ _ _ _ _ _ _ _ _ _ _ _ _ _ _ _ ls _ H locs d_Mo_item_59 vc hP hD hS
    · have vc := vc.2 h
      refine lv_iload_n hx hb d_Mo_item_13 rfl (lv_at hl 2 rfl) ?_
      refine lv_bipush (v := 15) hx hb d_Mo_item_14 (by decide) ?_
      refine lv_icmp_gt (tgt := 28) hx hb d_Mo_item_16 (by decide) (fun h => ?_) (fun h => ?_)
      · have vc := vc.1 h
        refine lv_iconst (v := 1) hx hb d_Mo_item_28 (by decide) ?_
        refine lv_goto (tgt := 48) hx hb d_Mo_item_29 (by decide) ?_
        refine va_put (D := D) (ci := 6) (v := .int 1) (ty := .int) (C := R_Mo) (T := F_Mo) (N := 27) hx hb hts in_Mo t_Mo t_Mo_ok n_Mo hown hK hP hD hS 0 rfl rfl 0 (by decide) (hts _ fl_Mo_78) (fun _ h => h) rfl (by decide +kernel) rfl rfl (Nat.le_of_ble_eq_true rfl) d_Mo_item_48 (fun H locs hP hD hS => ?_)
        have hP : va_P D vwCl (wM b cI cJ cZ mki msz mle mel mme mal mic mil mio mab mae msa mlc mli mna mva mma mch mre mlv mwr msh 1 mnv mns mfa mmo) H := hP
        have hD : va_D A (wM b cI cJ cZ mki msz mle mel mme mal mic mil mio mab mae msa mlc mli mna mva mma mch mre mlv mwr msh 1 mnv mns mfa mmo) := hD
        refine lv_aload_n hx hb d_Mo_item_51 rfl (lv_at hl 0 rfl) ?_
        refine va_get (D := D) (ci := 6) (v := .int 1) (C := R_Mo) (T := F_Mo) (N := 27) hx hb hts in_Mo hown hK hP 0 rfl rfl 0 (by decide) (hts _ fl_Mo_78) (fun _ h => h) rfl d_Mo_item_52 ?_
        refine lv_if_eq (tgt := 60) hx hb d_Mo_item_55 (by decide) (fun h => ?_) (fun h => ?_)
        · exact absurd h (by decide)
        · skip
          refine lv_iconst (v := 0) hx hb d_Mo_item_58 (by decide) ?_
          exact hret _ _ _ _ _ _ _ _ _ _ _ _ _ _ _ _ _ _ _ _ _ _ _ _ _ _ _ _ ls _ H locs d_Mo_item_59 vc hP hD hS
      · have vc := vc.2 h
        refine lv_iload_n hx hb d_Mo_item_19 rfl (lv_at hl 3 rfl) ?_
        refine lv_if_lt (tgt := 28) hx hb d_Mo_item_20 (by decide) (fun h => ?_) (fun h => ?_)
        · have vc := vc.1 h
          refine lv_iconst (v := 1) hx hb d_Mo_item_28 (by decide) ?_
          refine lv_goto (tgt := 48) hx hb d_Mo_item_29 (by decide) ?_
          refine va_put (D := D) (ci := 6) (v := .int 1) (ty := .int) (C := R_Mo) (T := F_Mo) (N := 27) hx hb hts in_Mo t_Mo t_Mo_ok n_Mo hown hK hP hD hS 0 rfl rfl 0 (by decide) (hts _ fl_Mo_78) (fun _ h => h) rfl (by decide +kernel) rfl rfl (Nat.le_of_ble_eq_true rfl) d_Mo_item_48 (fun H locs hP hD hS => ?_)
          have hP : va_P D vwCl (wM b cI cJ cZ mki msz mle mel mme mal mic mil mio mab mae msa mlc mli mna mva mma mch mre mlv mwr msh 1 mnv mns mfa mmo) H := hP
          have hD : va_D A (wM b cI cJ cZ mki msz mle mel mme mal mic mil mio mab mae msa mlc mli mna mva mma mch mre mlv mwr msh 1 mnv mns mfa mmo) := hD
          refine lv_aload_n hx hb d_Mo_item_51 rfl (lv_at hl 0 rfl) ?_
          refine va_get (D := D) (ci := 6) (v := .int 1) (C := R_Mo) (T := F_Mo) (N := 27) hx hb hts in_Mo hown hK hP 0 rfl rfl 0 (by decide) (hts _ fl_Mo_78) (fun _ h => h) rfl d_Mo_item_52 ?_
          refine lv_if_eq (tgt := 60) hx hb d_Mo_item_55 (by decide) (fun h => ?_) (fun h => ?_)
          · exact absurd h (by decide)
          · skip
            refine lv_iconst (v := 0) hx hb d_Mo_item_58 (by decide) ?_
            exact hret _ _ _ _ _ _ _ _ _ _ _ _ _ _ _ _ _ _ _ _ _ _ _ _ _ _ _ _ ls _ H locs d_Mo_item_59 vc hP hD hS
        · have vc := vc.2 h
          refine lv_iload_n hx hb d_Mo_item_23 rfl (lv_at hl 3 rfl) ?_
          refine lv_iconst (v := 3) hx hb d_Mo_item_24 (by decide) ?_
          refine lv_icmp_le (tgt := 32) hx hb d_Mo_item_25 (by decide) (fun h => ?_) (fun h => ?_)
          · have vc := vc.1 h
            refine lv_aload_n hx hb d_Mo_item_32 rfl (lv_at hl 0 rfl) ?_
            refine va_get (D := D) (ci := 6) (v := .ref (b 7)) (C := R_Mo) (T := F_Mo) (N := 27) hx hb hts in_Mo hown hK hP 0 rfl rfl 8 (by decide) (hts _ fl_Mo_29) (fun _ h => h) rfl d_Mo_item_33 ?_
            refine lv_iload_n hx hb d_Mo_item_36 rfl (lv_at hl 1 rfl) ?_
            obtain ⟨vcb, vc⟩ := vc
            refine va_iald hx hb hK hP 7 0 rfl rfl vcb d_Mo_item_37 ?_
            refine lv_bipush (v := 6) hx hb d_Mo_item_38 (by decide) ?_
            refine lv_icmp_ne (tgt := 47) hx hb d_Mo_item_40 (by decide) (fun h => ?_) (fun h => ?_)
            · have vc := vc.1 h
              refine lv_iconst (v := 0) hx hb d_Mo_item_47 (by decide) ?_
              refine va_put (D := D) (ci := 6) (v := .int 0) (ty := .int) (C := R_Mo) (T := F_Mo) (N := 27) hx hb hts in_Mo t_Mo t_Mo_ok n_Mo hown hK hP hD hS 0 rfl rfl 0 (by decide) (hts _ fl_Mo_78) (fun _ h => h) rfl (by decide +kernel) rfl rfl (Nat.le_of_ble_eq_true rfl) d_Mo_item_48 (fun H locs hP hD hS => ?_)
              have hP : va_P D vwCl (wM b cI cJ cZ mki msz mle mel mme mal mic mil mio mab mae msa mlc mli mna mva mma mch mre mlv mwr msh 0 mnv mns mfa mmo) H := hP
              have hD : va_D A (wM b cI cJ cZ mki msz mle mel mme mal mic mil mio mab mae msa mlc mli mna mva mma mch mre mlv mwr msh 0 mnv mns mfa mmo) := hD
              refine lv_aload_n hx hb d_Mo_item_51 rfl (lv_at hl 0 rfl) ?_
              refine va_get (D := D) (ci := 6) (v := .int 0) (C := R_Mo) (T := F_Mo) (N := 27) hx hb hts in_Mo hown hK hP 0 rfl rfl 0 (by decide) (hts _ fl_Mo_78) (fun _ h => h) rfl d_Mo_item_52 ?_
              refine lv_if_eq (tgt := 60) hx hb d_Mo_item_55 (by decide) (fun h => ?_) (fun h => ?_)
              · skip
                refine lv_aload_n hx hb d_Mo_item_60 rfl (lv_at hl 0 rfl) ?_
                refine va_get (D := D) (ci := 6) (v := .ref (b 8)) (C := R_Mo) (T := F_Mo) (N := 27) hx hb hts in_Mo hown hK hP 0 rfl rfl 9 (by decide) (hts _ fl_Mo_32) (fun _ h => h) rfl d_Mo_item_61 ?_
                refine lv_bipush (v := 6) hx hb d_Mo_item_64 (by decide) ?_
                refine lv_iload_n hx hb d_Mo_item_66 rfl (lv_at hl 1 rfl) ?_
                refine lv_imul hx hb d_Mo_item_67 ?_
                refine lv_aload_n hx hb d_Mo_item_68 rfl (lv_at hl 0 rfl) ?_
                refine va_get (D := D) (ci := 6) (v := .ref (b 7)) (C := R_Mo) (T := F_Mo) (N := 27) hx hb hts in_Mo hown hK hP 0 rfl rfl 8 (by decide) (hts _ fl_Mo_29) (fun _ h => h) rfl d_Mo_item_69 ?_
                refine lv_iload_n hx hb d_Mo_item_72 rfl (lv_at hl 1 rfl) ?_
                obtain ⟨vcb, vc⟩ := vc
                refine va_iald hx hb hK hP 7 0 rfl rfl vcb d_Mo_item_73 ?_
                refine lv_iadd hx hb d_Mo_item_74 ?_
                refine lv_iload_n hx hb d_Mo_item_75 rfl (lv_at hl 2 rfl) ?_
                obtain ⟨vcb, vc⟩ := vc
                refine va_iast hx hb hK hP hD hS 8 0 rfl rfl vcb d_Mo_item_76 (fun H locs hP hD hS => ?_)
                have hP : va_P D vwCl (wM b cI cJ cZ mki msz mle mel mme mal mic (upd mil ((6 * x) + (mic x.toNatClampNeg) : Int32).toNatClampNeg y) mio mab mae msa mlc mli mna mva mma mch mre mlv mwr msh 0 mnv mns mfa mmo) H := hP
                have hD : va_D A (wM b cI cJ cZ mki msz mle mel mme mal mic (upd mil ((6 * x) + (mic x.toNatClampNeg) : Int32).toNatClampNeg y) mio mab mae msa mlc mli mna mva mma mch mre mlv mwr msh 0 mnv mns mfa mmo) := hD
                refine lv_aload_n hx hb d_Mo_item_77 rfl (lv_at hl 0 rfl) ?_
                refine va_get (D := D) (ci := 6) (v := .ref (b 9)) (C := R_Mo) (T := F_Mo) (N := 27) hx hb hts in_Mo hown hK hP 0 rfl rfl 10 (by decide) (hts _ fl_Mo_35) (fun _ h => h) rfl d_Mo_item_78 ?_
                refine lv_bipush (v := 6) hx hb d_Mo_item_81 (by decide) ?_
                refine lv_iload_n hx hb d_Mo_item_83 rfl (lv_at hl 1 rfl) ?_
                refine lv_imul hx hb d_Mo_item_84 ?_
                refine lv_aload_n hx hb d_Mo_item_85 rfl (lv_at hl 0 rfl) ?_
                refine va_get (D := D) (ci := 6) (v := .ref (b 7)) (C := R_Mo) (T := F_Mo) (N := 27) hx hb hts in_Mo hown hK hP 0 rfl rfl 8 (by decide) (hts _ fl_Mo_29) (fun _ h => h) rfl d_Mo_item_86 ?_
                refine lv_iload_n hx hb d_Mo_item_89 rfl (lv_at hl 1 rfl) ?_
                obtain ⟨vcb, vc⟩ := vc
                refine va_iald hx hb hK hP 7 0 rfl rfl vcb d_Mo_item_90 ?_
                refine lv_iadd hx hb d_Mo_item_91 ?_
                refine lv_iload_n hx hb d_Mo_item_92 rfl (lv_at hl 3 rfl) ?_
                obtain ⟨vcb, vc⟩ := vc
                refine va_iast hx hb hK hP hD hS 9 0 rfl rfl vcb d_Mo_item_93 (fun H locs hP hD hS => ?_)
                have hP : va_P D vwCl (wM b cI cJ cZ mki msz mle mel mme mal mic (upd mil ((6 * x) + (mic x.toNatClampNeg) : Int32).toNatClampNeg y) (upd mio ((6 * x) + (mic x.toNatClampNeg) : Int32).toNatClampNeg z) mab mae msa mlc mli mna mva mma mch mre mlv mwr msh 0 mnv mns mfa mmo) H := hP
                have hD : va_D A (wM b cI cJ cZ mki msz mle mel mme mal mic (upd mil ((6 * x) + (mic x.toNatClampNeg) : Int32).toNatClampNeg y) (upd mio ((6 * x) + (mic x.toNatClampNeg) : Int32).toNatClampNeg z) mab mae msa mlc mli mna mva mma mch mre mlv mwr msh 0 mnv mns mfa mmo) := hD
                refine lv_aload_n hx hb d_Mo_item_94 rfl (lv_at hl 0 rfl) ?_
                refine va_get (D := D) (ci := 6) (v := .ref (b 7)) (C := R_Mo) (T := F_Mo) (N := 27) hx hb hts in_Mo hown hK hP 0 rfl rfl 8 (by decide) (hts _ fl_Mo_29) (fun _ h => h) rfl d_Mo_item_95 ?_
                refine lv_iload_n hx hb d_Mo_item_98 rfl (lv_at hl 1 rfl) ?_
                refine lv_dup2_11 hx hb d_Mo_item_99 rfl rfl ?_
                obtain ⟨vcb, vc⟩ := vc
                refine va_iald hx hb hK hP 7 0 rfl rfl vcb d_Mo_item_100 ?_
                refine lv_iconst (v := 1) hx hb d_Mo_item_101 (by decide) ?_
                refine lv_iadd hx hb d_Mo_item_102 ?_
                obtain ⟨vcb, vc⟩ := vc
                refine va_iast hx hb hK hP hD hS 7 0 rfl rfl vcb d_Mo_item_103 (fun H locs hP hD hS => ?_)
                have hP : va_P D vwCl (wM b cI cJ cZ mki msz mle mel mme mal (upd mic x.toNatClampNeg ((mic x.toNatClampNeg) + 1)) (upd mil ((6 * x) + (mic x.toNatClampNeg) : Int32).toNatClampNeg y) (upd mio ((6 * x) + (mic x.toNatClampNeg) : Int32).toNatClampNeg z) mab mae msa mlc mli mna mva mma mch mre mlv mwr msh 0 mnv mns mfa mmo) H := hP
                have hD : va_D A (wM b cI cJ cZ mki msz mle mel mme mal (upd mic x.toNatClampNeg ((mic x.toNatClampNeg) + 1)) (upd mil ((6 * x) + (mic x.toNatClampNeg) : Int32).toNatClampNeg y) (upd mio ((6 * x) + (mic x.toNatClampNeg) : Int32).toNatClampNeg z) mab mae msa mlc mli mna mva mma mch mre mlv mwr msh 0 mnv mns mfa mmo) := hD
                refine lv_aload_n hx hb d_Mo_item_104 rfl (lv_at hl 0 rfl) ?_
                refine va_get (D := D) (ci := 6) (v := .ref (b 7)) (C := R_Mo) (T := F_Mo) (N := 27) hx hb hts in_Mo hown hK hP 0 rfl rfl 8 (by decide) (hts _ fl_Mo_29) (fun _ h => h) rfl d_Mo_item_105 ?_
                refine lv_iload_n hx hb d_Mo_item_108 rfl (lv_at hl 1 rfl) ?_
                obtain ⟨vcb, vc⟩ := vc
                refine va_iald hx hb hK hP 7 0 rfl rfl vcb d_Mo_item_109 ?_
                exact hret _ _ _ _ _ _ _ _ _ _ _ _ _ _ _ _ _ _ _ _ _ _ _ _ _ _ _ _ ls _ H locs d_Mo_item_110 vc hP hD hS
              · exact absurd h (by decide)
            · have vc := vc.2 h
              refine lv_iconst (v := 2) hx hb d_Mo_item_43 (by decide) ?_
              refine lv_goto (tgt := 48) hx hb d_Mo_item_44 (by decide) ?_
              refine va_put (D := D) (ci := 6) (v := .int 2) (ty := .int) (C := R_Mo) (T := F_Mo) (N := 27) hx hb hts in_Mo t_Mo t_Mo_ok n_Mo hown hK hP hD hS 0 rfl rfl 0 (by decide) (hts _ fl_Mo_78) (fun _ h => h) rfl (by decide +kernel) rfl rfl (Nat.le_of_ble_eq_true rfl) d_Mo_item_48 (fun H locs hP hD hS => ?_)
              have hP : va_P D vwCl (wM b cI cJ cZ mki msz mle mel mme mal mic mil mio mab mae msa mlc mli mna mva mma mch mre mlv mwr msh 2 mnv mns mfa mmo) H := hP
              have hD : va_D A (wM b cI cJ cZ mki msz mle mel mme mal mic mil mio mab mae msa mlc mli mna mva mma mch mre mlv mwr msh 2 mnv mns mfa mmo) := hD
              refine lv_aload_n hx hb d_Mo_item_51 rfl (lv_at hl 0 rfl) ?_
              refine va_get (D := D) (ci := 6) (v := .int 2) (C := R_Mo) (T := F_Mo) (N := 27) hx hb hts in_Mo hown hK hP 0 rfl rfl 0 (by decide) (hts _ fl_Mo_78) (fun _ h => h) rfl d_Mo_item_52 ?_
              refine lv_if_eq (tgt := 60) hx hb d_Mo_item_55 (by decide) (fun h => ?_) (fun h => ?_)
              · exact absurd h (by decide)
              · skip
                refine lv_iconst (v := 0) hx hb d_Mo_item_58 (by decide) ?_
                exact hret _ _ _ _ _ _ _ _ _ _ _ _ _ _ _ _ _ _ _ _ _ _ _ _ _ _ _ _ ls _ H locs d_Mo_item_59 vc hP hD hS
          · have vc := vc.2 h
            refine lv_iconst (v := 1) hx hb d_Mo_item_28 (by decide) ?_
            refine lv_goto (tgt := 48) hx hb d_Mo_item_29 (by decide) ?_
            refine va_put (D := D) (ci := 6) (v := .int 1) (ty := .int) (C := R_Mo) (T := F_Mo) (N := 27) hx hb hts in_Mo t_Mo t_Mo_ok n_Mo hown hK hP hD hS 0 rfl rfl 0 (by decide) (hts _ fl_Mo_78) (fun _ h => h) rfl (by decide +kernel) rfl rfl (Nat.le_of_ble_eq_true rfl) d_Mo_item_48 (fun H locs hP hD hS => ?_)
            have hP : va_P D vwCl (wM b cI cJ cZ mki msz mle mel mme mal mic mil mio mab mae msa mlc mli mna mva mma mch mre mlv mwr msh 1 mnv mns mfa mmo) H := hP
            have hD : va_D A (wM b cI cJ cZ mki msz mle mel mme mal mic mil mio mab mae msa mlc mli mna mva mma mch mre mlv mwr msh 1 mnv mns mfa mmo) := hD
            refine lv_aload_n hx hb d_Mo_item_51 rfl (lv_at hl 0 rfl) ?_
            refine va_get (D := D) (ci := 6) (v := .int 1) (C := R_Mo) (T := F_Mo) (N := 27) hx hb hts in_Mo hown hK hP 0 rfl rfl 0 (by decide) (hts _ fl_Mo_78) (fun _ h => h) rfl d_Mo_item_52 ?_
            refine lv_if_eq (tgt := 60) hx hb d_Mo_item_55 (by decide) (fun h => ?_) (fun h => ?_)
            · exact absurd h (by decide)
            · skip
              refine lv_iconst (v := 0) hx hb d_Mo_item_58 (by decide) ?_
              exact hret _ _ _ _ _ _ _ _ _ _ _ _ _ _ _ _ _ _ _ _ _ _ _ _ _ _ _ _ ls _ H locs d_Mo_item_59 vc hP hD hS
theorem h_Mo_item (l : Launch) (D : va_G) (b : Nat → Nat) (cI cJ cZ : ClassId) (mki : Nat → Int32) (msz : Nat → Int64) (mle : Nat → Int32) (mel : Nat → Int32) (mme : Nat → Int32) (mal : Nat → Int32) (mic : Nat → Int32) (mil : Nat → Int32) (mio : Nat → Int32) (mab : Nat → Int32) (mae : Nat → Int32) (msa : Nat → Int32) (mlc : Nat → Int32) (mli : Nat → Int32) (mna : Nat → Int32) (mva : Nat → Int32) (mma : Nat → Int32) (mch : Nat → Int32) (mre : Nat → Int32) (mlv : Nat → Int32) (mwr : Nat → Int64) (msh : Nat → Int32) (mth : Int32) (mnv : Int32) (mns : Int32) (mfa : Int32) (mmo : Int32) (x : Int32) (y : Int32) (z : Int32) (r : Int32) (mki' : Nat → Int32) (msz' : Nat → Int64) (mle' : Nat → Int32) (mel' : Nat → Int32) (mme' : Nat → Int32) (mal' : Nat → Int32) (mic' : Nat → Int32) (mil' : Nat → Int32) (mio' : Nat → Int32) (mab' : Nat → Int32) (mae' : Nat → Int32) (msa' : Nat → Int32) (mlc' : Nat → Int32) (mli' : Nat → Int32) (mna' : Nat → Int32) (mva' : Nat → Int32) (mma' : Nat → Int32) (mch' : Nat → Int32) (mre' : Nat → Int32) (mlv' : Nat → Int32) (mwr' : Nat → Int64) (msh' : Nat → Int32) (mth' : Int32) (mnv' : Int32) (mns' : Int32) (mfa' : Int32) (mmo' : Int32) (vc : V_Mo_item mki msz mle mel mme mal mic mil mio mab mae msa mlc mli mna mva mma mch mre mlv mwr msh mth mnv mns mfa mmo x y z (fun v mki msz mle mel mme mal mic mil mio mab mae msa mlc mli mna mva mma mch mre mlv mwr msh mth mnv mns mfa mmo => v = r ∧ mki = mki' ∧ msz = msz' ∧ mle = mle' ∧ mel = mel' ∧ mme = mme' ∧ mal = mal' ∧ mic = mic' ∧ mil = mil' ∧ mio = mio' ∧ mab = mab' ∧ mae = mae' ∧ msa = msa' ∧ mlc = mlc' ∧ mli = mli' ∧ mna = mna' ∧ mva = mva' ∧ mma = mma' ∧ mch = mch' ∧ mre = mre' ∧ mlv = mlv' ∧ mwr = mwr' ∧ msh = msh' ∧ mth = mth' ∧ mnv = mnv' ∧ mns = mns' ∧ mfa = mfa' ∧ mmo = mmo')) : Wm (S := Unit) l y_Mo_item b_Mo_item 4 (some .int) 1 21 [.ref (b 0), .int x, .int y, .int z] D (tyA cI cJ cZ) (wM b cI cJ cZ mki msz mle mel mme mal mic mil mio mab mae msa mlc mli mna mva mma mch mre mlv mwr msh mth mnv mns mfa mmo) (fun _ => True) (fun _ => some (.int r)) (fun _ => (wM b cI cJ cZ mki' msz' mle' mel' mme' mal' mic' mil' mio' mab' mae' msa' mlc' mli' mna' mva' mma' mch' mre' mlv' mwr' msh' mth' mnv' mns' mfa' mmo')) :=
  wm_i (by decide) (fun _ _ => rfl) (Nat.le_of_ble_eq_true rfl) (fun p e s m below meth c ls Q A S hK hP hD hA hS hl hret => g_Mo_item S (Nat.le_refl _) (Nat.le_refl _) ⟨Nat.le_refl _, Nat.le_refl _⟩ D b cI cJ cZ mki msz mle mel mme mal mic mil mio mab mae msa mlc mli mna mva mma mch mre mlv mwr msh mth mnv mns mfa mmo x y z hK hP hD hA hS hl vc (fun v mki msz mle mel mme mal mic mil mio mab mae msa mlc mli mna mva mma mch mre mlv mwr msh mth mnv mns mfa mmo ls pc H locs hd hv hP hD hS => by obtain ⟨rfl, rfl, rfl, rfl, rfl, rfl, rfl, rfl, rfl, rfl, rfl, rfl, rfl, rfl, rfl, rfl, rfl, rfl, rfl, rfl, rfl, rfl, rfl, rfl, rfl, rfl, rfl, rfl⟩ := hv; exact hret () _ ls pc H locs hd trivial rfl hP hD hS))
theorem c_Mo_item_1 (l : Launch) (D : va_G) (b : Nat → Nat) (cI cJ cZ : ClassId) (mki : Nat → Int32) (msz : Nat → Int64) (mle : Nat → Int32) (mel : Nat → Int32) (mme : Nat → Int32) (mal : Nat → Int32) (mic : Nat → Int32) (mil : Nat → Int32) (mio : Nat → Int32) (mab : Nat → Int32) (mae : Nat → Int32) (msa : Nat → Int32) (mlc : Nat → Int32) (mli : Nat → Int32) (mna : Nat → Int32) (mva : Nat → Int32) (mma : Nat → Int32) (mch : Nat → Int32) (mre : Nat → Int32) (mlv : Nat → Int32) (mwr : Nat → Int64) (msh : Nat → Int32) (mth : Int32) (mnv : Int32) (mns : Int32) (mfa : Int32) (mmo : Int32) (x : Int32) (y : Int32) (z : Int32) (hpre : (∀ j : Nat, j < 8 → ∃ b : Nat, b ≤ 6 ∧ mic j = nI b)) (hv1 : ¬ (sIn x 0 7 && (sIn y 0 15 && sIn z 0 3)) = true) : Wm (S := Unit) l y_Mo_item b_Mo_item 4 (some .int) 1 21 [.ref (b 0), .int x, .int y, .int z] D (tyA cI cJ cZ) (wM b cI cJ cZ mki msz mle mel mme mal mic mil mio mab mae msa mlc mli mna mva mma mch mre mlv mwr msh mth mnv mns mfa mmo) (fun _ => True) (fun _ => some (.int 0)) (fun _ => (wM b cI cJ cZ mki msz mle mel mme mal mic mil mio mab mae msa mlc mli mna mva mma mch mre mlv mwr msh 1 mnv mns mfa mmo)) := h_Mo_item l D b cI cJ cZ mki msz mle mel mme mal mic mil mio mab mae msa mlc mli mna mva mma mch mre mlv mwr msh mth mnv mns mfa mmo x y z 0 mki msz mle mel mme mal mic mil mio mab mae msa mlc mli mna mva mma mch mre mlv mwr msh 1 mnv mns mfa mmo (by
  unfold V_Mo_item
  repeat' (first | apply br_c | apply br_d | intro _)
  all_goals (first | (simp_all [add_sub1, bI, upd, sHas, sIn, sKind]; done) | (exfalso; simp_all only [le_nlt, and2, bI_eq, bI_ne, bnot_t, ite_true, ite_false, if_true, if_false, eq_self, sIn_i, sHas_i, sKind_iff, not_and, Classical.not_not, not_true_eq_false, not_false_eq_true, true_and, and_true, false_and, and_false, true_implies, false_implies, implies_true, imp_false, imp_self, or_false, false_or, not_or, or_true, true_or]; done) | skip))
theorem c_Mo_item_2 (l : Launch) (D : va_G) (b : Nat → Nat) (cI cJ cZ : ClassId) (mki : Nat → Int32) (msz : Nat → Int64) (mle : Nat → Int32) (mel : Nat → Int32) (mme : Nat → Int32) (mal : Nat → Int32) (mic : Nat → Int32) (mil : Nat → Int32) (mio : Nat → Int32) (mab : Nat → Int32) (mae : Nat → Int32) (msa : Nat → Int32) (mlc : Nat → Int32) (mli : Nat → Int32) (mna : Nat → Int32) (mva : Nat → Int32) (mma : Nat → Int32) (mch : Nat → Int32) (mre : Nat → Int32) (mlv : Nat → Int32) (mwr : Nat → Int64) (msh : Nat → Int32) (mth : Int32) (mnv : Int32) (mns : Int32) (mfa : Int32) (mmo : Int32) (x : Int32) (y : Int32) (z : Int32) (hpre : (∀ j : Nat, j < 8 → ∃ b : Nat, b ≤ 6 ∧ mic j = nI b)) (hv1 : ¬ (¬ (sIn x 0 7 && (sIn y 0 15 && sIn z 0 3)) = true)) (hv2 : mic x.toNatClampNeg = 6) : Wm (S := Unit) l y_Mo_item b_Mo_item 4 (some .int) 1 21 [.ref (b 0), .int x, .int y, .int z] D (tyA cI cJ cZ) (wM b cI cJ cZ mki msz mle mel mme mal mic mil mio mab mae msa mlc mli mna mva mma mch mre mlv mwr msh mth mnv mns mfa mmo) (fun _ => True) (fun _ => some (.int 0)) (fun _ => (wM b cI cJ cZ mki msz mle mel mme mal mic mil mio mab mae msa mlc mli mna mva mma mch mre mlv mwr msh 2 mnv mns mfa mmo)) := h_Mo_item l D b cI cJ cZ mki msz mle mel mme mal mic mil mio mab mae msa mlc mli mna mva mma mch mre mlv mwr msh mth mnv mns mfa mmo x y z 0 mki msz mle mel mme mal mic mil mio mab mae msa mlc mli mna mva mma mch mre mlv mwr msh 2 mnv mns mfa mmo (by
  unfold V_Mo_item
  have hx : vp_in x 8 := vp_sIn (N := 8) (and2.mp (Classical.not_not.mp hv1)).1 (by decide)
  repeat' (first | apply br_c | apply br_d | apply pre_and hx | intro _)
  all_goals (first | (simp_all [add_sub1, bI, upd, sHas, sIn, sKind]; done) | (exfalso; simp_all only [le_nlt, and2, bI_eq, bI_ne, bnot_t, ite_true, ite_false, if_true, if_false, eq_self, sIn_i, sHas_i, sKind_iff, not_and, Classical.not_not, not_true_eq_false, not_false_eq_true, true_and, and_true, false_and, and_false, true_implies, false_implies, implies_true, imp_false, imp_self, or_false, false_or, not_or, or_true, true_or]; done) | skip))
theorem c_Mo_item_3 (l : Launch) (D : va_G) (b : Nat → Nat) (cI cJ cZ : ClassId) (mki : Nat → Int32) (msz : Nat → Int64) (mle : Nat → Int32) (mel : Nat → Int32) (mme : Nat → Int32) (mal : Nat → Int32) (mic : Nat → Int32) (mil : Nat → Int32) (mio : Nat → Int32) (mab : Nat → Int32) (mae : Nat → Int32) (msa : Nat → Int32) (mlc : Nat → Int32) (mli : Nat → Int32) (mna : Nat → Int32) (mva : Nat → Int32) (mma : Nat → Int32) (mch : Nat → Int32) (mre : Nat → Int32) (mlv : Nat → Int32) (mwr : Nat → Int64) (msh : Nat → Int32) (mth : Int32) (mnv : Int32) (mns : Int32) (mfa : Int32) (mmo : Int32) (x : Int32) (y : Int32) (z : Int32) (hpre : (∀ j : Nat, j < 8 → ∃ b : Nat, b ≤ 6 ∧ mic j = nI b)) (hv1 : ¬ (¬ (sIn x 0 7 && (sIn y 0 15 && sIn z 0 3)) = true)) (hv2 : ¬ (mic x.toNatClampNeg = 6)) : Wm (S := Unit) l y_Mo_item b_Mo_item 4 (some .int) 1 21 [.ref (b 0), .int x, .int y, .int z] D (tyA cI cJ cZ) (wM b cI cJ cZ mki msz mle mel mme mal mic mil mio mab mae msa mlc mli mna mva mma mch mre mlv mwr msh mth mnv mns mfa mmo) (fun _ => True) (fun _ => some (.int (mic x.toNatClampNeg + 1))) (fun _ => (wM b cI cJ cZ mki msz mle mel mme mal (upd mic x.toNatClampNeg (mic x.toNatClampNeg + 1)) (upd mil (6 * x + mic x.toNatClampNeg : Int32).toNatClampNeg y) (upd mio (6 * x + mic x.toNatClampNeg : Int32).toNatClampNeg z) mab mae msa mlc mli mna mva mma mch mre mlv mwr msh 0 mnv mns mfa mmo)) := h_Mo_item l D b cI cJ cZ mki msz mle mel mme mal mic mil mio mab mae msa mlc mli mna mva mma mch mre mlv mwr msh mth mnv mns mfa mmo x y z (mic x.toNatClampNeg + 1) mki msz mle mel mme mal (upd mic x.toNatClampNeg (mic x.toNatClampNeg + 1)) (upd mil (6 * x + mic x.toNatClampNeg : Int32).toNatClampNeg y) (upd mio (6 * x + mic x.toNatClampNeg : Int32).toNatClampNeg z) mab mae msa mlc mli mna mva mma mch mre mlv mwr msh 0 mnv mns mfa mmo (by
  unfold V_Mo_item
  have hx : vp_in x 8 := vp_sIn (N := 8) (and2.mp (Classical.not_not.mp hv1)).1 (by decide)
  have hy : vp_in (6 * x + mic x.toNatClampNeg) 48 := by
    obtain ⟨n, hn, hxn, hc⟩ := vp_nat hx (by decide)
    obtain ⟨b, hb, hpb⟩ := hpre n hn
    have hb6 : b ≠ 6 := fun e => hv2 (by rw [hc, hpb, e]; rfl)
    rw [hc, hpb, hxn, show (6 : Int32) = nI 6 from rfl, pk_mul, nI_add]
    exact vp_in_nI (by omega) (by decide)
  repeat' (first | apply br_c | apply br_d | apply pre_and hx | apply pre_and hy | intro _)
  all_goals (first | (simp_all [add_sub1, bI, upd, sHas, sIn, sKind]; done) | (exfalso; simp_all only [le_nlt, and2, bI_eq, bI_ne, bnot_t, ite_true, ite_false, if_true, if_false, eq_self, sIn_i, sHas_i, sKind_iff, not_and, Classical.not_not, not_true_eq_false, not_false_eq_true, true_and, and_true, false_and, and_false, true_implies, false_implies, implies_true, imp_false, imp_self, or_false, false_or, not_or, or_true, true_or]; done) | skip))
theorem hd_Mo_item : y_Mo_item.cls ≠ "java/lang/invoke/MethodHandle" ∧ y_Mo_item.cls ≠ "java/lang/invoke/VarHandle" ∧ (parseMethodDescriptor y_Mo_item.desc).map (fun d => d.parameters.length) = some 3 := ⟨by decide, by decide, by decide +kernel⟩
def V_Mo_bind (mki : Nat → Int32) (msz : Nat → Int64) (mle : Nat → Int32) (mel : Nat → Int32) (mme : Nat → Int32) (mal : Nat → Int32) (mic : Nat → Int32) (mil : Nat → Int32) (mio : Nat → Int32) (mab : Nat → Int32) (mae : Nat → Int32) (msa : Nat → Int32) (mlc : Nat → Int32) (mli : Nat → Int32) (mna : Nat → Int32) (mva : Nat → Int32) (mma : Nat → Int32) (mch : Nat → Int32) (mre : Nat → Int32) (mlv : Nat → Int32) (mwr : Nat → Int64) (msh : Nat → Int32) (mth : Int32) (mnv : Int32) (mns : Int32) (mfa : Int32) (mmo : Int32) (x : Int32) (u : Int32) (v : Int32) (post : (Nat → Int32) → (Nat → Int64) → (Nat → Int32) → (Nat → Int32) → (Nat → Int32) → (Nat → Int32) → (Nat → Int32) → (Nat → Int32) → (Nat → Int32) → (Nat → Int32) → (Nat → Int32) → (Nat → Int32) → (Nat → Int32) → (Nat → Int32) → (Nat → Int32) → (Nat → Int32) → (Nat → Int32) → (Nat → Int32) → (Nat → Int32) → (Nat → Int32) → (Nat → Int64) → (Nat → Int32) → Int32 → Int32 → Int32 → Int32 → Int32 → Prop) : Prop :=
  (((bI (!(sIn x 0 7))) = 0 → (vp_in x 8 ∧ (vp_in x 8 ∧ post mki msz mle mel mme mal mic mil mio (upd mab x.toNatClampNeg (vp_nar .boolean u)) (upd mae x.toNatClampNeg (vp_nar .boolean v)) msa mlc mli mna mva mma mch mre mlv mwr msh 0 mnv mns mfa mmo))) ∧ (¬ (bI (!(sIn x 0 7))) = 0 → post mki msz mle mel mme mal mic mil mio mab mae msa mlc mli mna mva mma mch mre mlv mwr msh 1 mnv mns mfa mmo))
set_option maxHeartbeats 4000000 in
set_option maxRecDepth 100000 in
theorem g_Mo_bind {p : Program} {l : Launch} {e : Env} {R : Room} {s : State} {m : MethodId} {args : Array Value} {below : List Frame} {meth : Method} {c : Code} {H : Heap} {locs : List Loc} {cells slots : Nat} {Q : State → Prop} {ls : Array Slot} {A : Nat → Prop} (S : CallFix p m c b_Mo_bind 4 s args W0 R_Mo) (hRf : 1 ≤ R.frames) (hRl : 21 ≤ R.locals) (hRc : cells ≤ R.cells ∧ slots ≤ R.slots) (D : va_G) (b : Nat → Nat) (cI cJ cZ : ClassId) (mki : Nat → Int32) (msz : Nat → Int64) (mle : Nat → Int32) (mel : Nat → Int32) (mme : Nat → Int32) (mal : Nat → Int32) (mic : Nat → Int32) (mil : Nat → Int32) (mio : Nat → Int32) (mab : Nat → Int32) (mae : Nat → Int32) (msa : Nat → Int32) (mlc : Nat → Int32) (mli : Nat → Int32) (mna : Nat → Int32) (mva : Nat → Int32) (mma : Nat → Int32) (mch : Nat → Int32) (mre : Nat → Int32) (mlv : Nat → Int32) (mwr : Nat → Int64) (msh : Nat → Int32) (mth : Int32) (mnv : Int32) (mns : Int32) (mfa : Int32) (mmo : Int32) (x : Int32) (u : Int32) (v : Int32) (hK : va_K D vwCl (tyA cI cJ cZ) s) (hP : va_P D vwCl (wM b cI cJ cZ mki msz mle mel mme mal mic mil mio mab mae msa mlc mli mna mva mma mch mre mlv mwr msh mth mnv mns mfa mmo) H) (hD : va_D A (wM b cI cJ cZ mki msz mle mel mme mal mic mil mio mab mae msa mlc mli mna mva mma mch mre mlv mwr msh mth mnv mns mfa mmo)) (hA : ∀ q, s.heap.size ≤ q → A q) (hS : va_S A s.heap H locs) (hl : lv_has ls 4 [(0, .ref (b 0)), (1, .int x), (2, .int u), (3, .int v)]) {post : (Nat → Int32) → (Nat → Int64) → (Nat → Int32) → (Nat → Int32) → (Nat → Int32) → (Nat → Int32) → (Nat → Int32) → (Nat → Int32) → (Nat → Int32) → (Nat → Int32) → (Nat → Int32) → (Nat → Int32) → (Nat → Int32) → (Nat → Int32) → (Nat → Int32) → (Nat → Int32) → (Nat → Int32) → (Nat → Int32) → (Nat → Int32) → (Nat → Int32) → (Nat → Int64) → (Nat → Int32) → Int32 → Int32 → Int32 → Int32 → Int32 → Prop} (vc : V_Mo_bind mki msz mle mel mme mal mic mil mio mab mae msa mlc mli mna mva mma mch mre mlv mwr msh mth mnv mns mfa mmo x u v post)
    (hret : ∀ (mki : Nat → Int32) (msz : Nat → Int64) (mle : Nat → Int32) (mel : Nat → Int32) (mme : Nat → Int32) (mal : Nat → Int32) (mic : Nat → Int32) (mil : Nat → Int32) (mio : Nat → Int32) (mab : Nat → Int32) (mae : Nat → Int32) (msa : Nat → Int32) (mlc : Nat → Int32) (mli : Nat → Int32) (mna : Nat → Int32) (mva : Nat → Int32) (mma : Nat → Int32) (mch : Nat → Int32) (mre : Nat → Int32) (mlv : Nat → Int32) (mwr : Nat → Int64) (msh : Nat → Int32) (mth : Int32) (mnv : Int32) (mns : Int32) (mfa : Int32) (mmo : Int32) (ls : Array Slot) (pc : Nat) (H : Heap) (locs : List Loc), decode b_Mo_bind pc = .ok (.return_, 1) → post mki msz mle mel mme mal mic mil mio mab mae msa mlc mli mna mva mma mch mre mlv mwr msh mth mnv mns mfa mmo → va_P D vwCl (wM b cI cJ cZ mki msz mle mel mme mal mic mil mio mab mae msa mlc mli mna mva mma mch mre mlv mwr msh mth mnv mns mfa mmo) H → va_D A (wM b cI cJ cZ mki msz mle mel mme mal mic mil mio mab mae msa mlc mli mna mva mma mch mre mlv mwr msh mth mnv mns mfa mmo) → va_S A s.heap H locs → W p l e R s m args below meth c H locs cells slots Q (F0 m pc ls [])) : W p l e R s m args below meth c H locs cells slots Q (F0 m 0 ls []) := by
  have hx := S.1
  have hb := S.2.1
  have hown := S.2.2.2.1
  have hts := S.2.2.2.2
  unfold V_Mo_bind at vc
  refine lv_aload_n hx hb d_Mo_bind_0 rfl (lv_at hl 0 rfl) ?_
  refine lv_aload_n hx hb d_Mo_bind_1 rfl (lv_at hl 0 rfl) ?_
  refine lv_iload_n hx hb d_Mo_bind_2 rfl (lv_at hl 1 rfl) ?_
  refine pc_V (As := [.int x]) (rest := [.ref (b 0)]) S (c_Mo_noPattern l D b cI cJ cZ mki msz mle mel mme mal mic mil mio mab mae msa mlc mli mna mva mma mch mre mlv mwr msh mth mnv mns mfa mmo x) wB_blind k_Mo_noPattern i_Mo_noPattern e_Mo_noPattern o_Mo ml_Mo_117 hd_Mo_noPattern (Nat.le_trans (by decide) hRf) (Nat.le_trans (by decide) hRl) hRc (va_recv hK hP (q0 := 0) (ci := 6) rfl rfl) (wB_at hP hK) hl.1 rfl (Nat.le_of_ble_eq_true rfl) d_Mo_bind_3 ?_
  refine lv_if_eq (tgt := 13) hx hb d_Mo_bind_6 (by decide) (fun h => ?_) (fun h => ?_)
  · have vc := vc.1 h
    refine lv_iconst (v := 0) hx hb d_Mo_bind_13 (by decide) ?_
    refine va_put (D := D) (ci := 6) (v := .int 0) (ty := .int) (C := R_Mo) (T := F_Mo) (N := 27) hx hb hts in_Mo t_Mo t_Mo_ok n_Mo hown hK hP hD hS 0 rfl rfl 0 (by decide) (hts _ fl_Mo_78) (fun _ h => h) rfl (by decide +kernel) rfl rfl (Nat.le_of_ble_eq_true rfl) d_Mo_bind_14 (fun H locs hP hD hS => ?_)
    have hP : va_P D vwCl (wM b cI cJ cZ mki msz mle mel mme mal mic mil mio mab mae msa mlc mli mna mva mma mch mre mlv mwr msh 0 mnv mns mfa mmo) H := hP
    have hD : va_D A (wM b cI cJ cZ mki msz mle mel mme mal mic mil mio mab mae msa mlc mli mna mva mma mch mre mlv mwr msh 0 mnv mns mfa mmo) := hD
    refine lv_aload_n hx hb d_Mo_bind_17 rfl (lv_at hl 0 rfl) ?_
    refine va_get (D := D) (ci := 6) (v := .int 0) (C := R_Mo) (T := F_Mo) (N := 27) hx hb hts in_Mo hown hK hP 0 rfl rfl 0 (by decide) (hts _ fl_Mo_78) (fun _ h => h) rfl d_Mo_bind_18 ?_
    refine lv_if_ne (tgt := 38) hx hb d_Mo_bind_21 (by decide) (fun h => ?_) (fun h => ?_)
    · exact absurd h (by decide)
    · skip
      refine lv_aload_n hx hb d_Mo_bind_24 rfl (lv_at hl 0 rfl) ?_
      refine va_get (D := D) (ci := 6) (v := .ref (b 10)) (C := R_Mo) (T := F_Mo) (N := 27) hx hb hts in_Mo hown hK hP 0 rfl rfl 11 (by decide) (hts _ fl_Mo_38) (fun _ h => h) rfl d_Mo_bind_25 ?_
      refine lv_iload_n hx hb d_Mo_bind_28 rfl (lv_at hl 1 rfl) ?_
      refine lv_iload_n hx hb d_Mo_bind_29 rfl (lv_at hl 2 rfl) ?_
      obtain ⟨vcb, vc⟩ := vc
      refine va_zast hx hb hK hP hD hS 10 2 rfl rfl vcb d_Mo_bind_30 (fun H locs hP hD hS => ?_)
      have hP : va_P D vwCl (wM b cI cJ cZ mki msz mle mel mme mal mic mil mio (upd mab x.toNatClampNeg (vp_nar .boolean u)) mae msa mlc mli mna mva mma mch mre mlv mwr msh 0 mnv mns mfa mmo) H := hP
      have hD : va_D A (wM b cI cJ cZ mki msz mle mel mme mal mic mil mio (upd mab x.toNatClampNeg (vp_nar .boolean u)) mae msa mlc mli mna mva mma mch mre mlv mwr msh 0 mnv mns mfa mmo) := hD
      refine lv_aload_n hx hb d_Mo_bind_31 rfl (lv_at hl 0 rfl) ?_
      refine va_get (D := D) (ci := 6) (v := .ref (b 11)) (C := R_Mo) (T := F_Mo) (N := 27) hx hb hts in_Mo hown hK hP 0 rfl rfl 12 (by decide) (hts _ fl_Mo_42) (fun _ h => h) rfl d_Mo_bind_32 ?_
      refine lv_iload_n hx hb d_Mo_bind_35 rfl (lv_at hl 1 rfl) ?_
      refine lv_iload_n hx hb d_Mo_bind_36 rfl (lv_at hl 3 rfl) ?_
      obtain ⟨vcb, vc⟩ := vc
      refine va_zast hx hb hK hP hD hS 11 2 rfl rfl vcb d_Mo_bind_37 (fun H locs hP hD hS => ?_)
      have hP : va_P D vwCl (wM b cI cJ cZ mki msz mle mel mme mal mic mil mio (upd mab x.toNatClampNeg (vp_nar .boolean u)) (upd mae x.toNatClampNeg (vp_nar .boolean v)) msa mlc mli mna mva mma mch mre mlv mwr msh 0 mnv mns mfa mmo) H := hP
      have hD : va_D A (wM b cI cJ cZ mki msz mle mel mme mal mic mil mio (upd mab x.toNatClampNeg (vp_nar .boolean u)) (upd mae x.toNatClampNeg (vp_nar .boolean v)) msa mlc mli mna mva mma mch mre mlv mwr msh 0 mnv mns mfa mmo) := hD
      exact hret _ _ _ _ _ _ _ _ _ _ _ _ _ _ _ _ _ _ _ _ _ _ _ _ _ _ _ ls _ H locs d_Mo_bind_38 vc hP hD hS
  · have vc := vc.2 h
    refine lv_iconst (v := 1) hx hb d_Mo_bind_9 (by decide) ?_
    refine lv_goto (tgt := 14) hx hb d_Mo_bind_10 (by decide) ?_
    refine va_put (D := D) (ci := 6) (v := .int 1) (ty := .int) (C := R_Mo) (T := F_Mo) (N := 27) hx hb hts in_Mo t_Mo t_Mo_ok n_Mo hown hK hP hD hS 0 rfl rfl 0 (by decide) (hts _ fl_Mo_78) (fun _ h => h) rfl (by decide +kernel) rfl rfl (Nat.le_of_ble_eq_true rfl) d_Mo_bind_14 (fun H locs hP hD hS => ?_)
    have hP : va_P D vwCl (wM b cI cJ cZ mki msz mle mel mme mal mic mil mio mab mae msa mlc mli mna mva mma mch mre mlv mwr msh 1 mnv mns mfa mmo) H := hP
    have hD : va_D A (wM b cI cJ cZ mki msz mle mel mme mal mic mil mio mab mae msa mlc mli mna mva mma mch mre mlv mwr msh 1 mnv mns mfa mmo) := hD
    refine lv_aload_n hx hb d_Mo_bind_17 rfl (lv_at hl 0 rfl) ?_
    refine va_get (D := D) (ci := 6) (v := .int 1) (C := R_Mo) (T := F_Mo) (N := 27) hx hb hts in_Mo hown hK hP 0 rfl rfl 0 (by decide) (hts _ fl_Mo_78) (fun _ h => h) rfl d_Mo_bind_18 ?_
    refine lv_if_ne (tgt := 38) hx hb d_Mo_bind_21 (by decide) (fun h => ?_) (fun h => ?_)
    · skip
      exact hret _ _ _ _ _ _ _ _ _ _ _ _ _ _ _ _ _ _ _ _ _ _ _ _ _ _ _ ls _ H locs d_Mo_bind_38 vc hP hD hS
    · exact absurd h (by decide)
theorem h_Mo_bind (l : Launch) (D : va_G) (b : Nat → Nat) (cI cJ cZ : ClassId) (mki : Nat → Int32) (msz : Nat → Int64) (mle : Nat → Int32) (mel : Nat → Int32) (mme : Nat → Int32) (mal : Nat → Int32) (mic : Nat → Int32) (mil : Nat → Int32) (mio : Nat → Int32) (mab : Nat → Int32) (mae : Nat → Int32) (msa : Nat → Int32) (mlc : Nat → Int32) (mli : Nat → Int32) (mna : Nat → Int32) (mva : Nat → Int32) (mma : Nat → Int32) (mch : Nat → Int32) (mre : Nat → Int32) (mlv : Nat → Int32) (mwr : Nat → Int64) (msh : Nat → Int32) (mth : Int32) (mnv : Int32) (mns : Int32) (mfa : Int32) (mmo : Int32) (x : Int32) (u : Int32) (v : Int32) (mki' : Nat → Int32) (msz' : Nat → Int64) (mle' : Nat → Int32) (mel' : Nat → Int32) (mme' : Nat → Int32) (mal' : Nat → Int32) (mic' : Nat → Int32) (mil' : Nat → Int32) (mio' : Nat → Int32) (mab' : Nat → Int32) (mae' : Nat → Int32) (msa' : Nat → Int32) (mlc' : Nat → Int32) (mli' : Nat → Int32) (mna' : Nat → Int32) (mva' : Nat → Int32) (mma' : Nat → Int32) (mch' : Nat → Int32) (mre' : Nat → Int32) (mlv' : Nat → Int32) (mwr' : Nat → Int64) (msh' : Nat → Int32) (mth' : Int32) (mnv' : Int32) (mns' : Int32) (mfa' : Int32) (mmo' : Int32) (vc : V_Mo_bind mki msz mle mel mme mal mic mil mio mab mae msa mlc mli mna mva mma mch mre mlv mwr msh mth mnv mns mfa mmo x u v (fun mki msz mle mel mme mal mic mil mio mab mae msa mlc mli mna mva mma mch mre mlv mwr msh mth mnv mns mfa mmo => mki = mki' ∧ msz = msz' ∧ mle = mle' ∧ mel = mel' ∧ mme = mme' ∧ mal = mal' ∧ mic = mic' ∧ mil = mil' ∧ mio = mio' ∧ mab = mab' ∧ mae = mae' ∧ msa = msa' ∧ mlc = mlc' ∧ mli = mli' ∧ mna = mna' ∧ mva = mva' ∧ mma = mma' ∧ mch = mch' ∧ mre = mre' ∧ mlv = mlv' ∧ mwr = mwr' ∧ msh = msh' ∧ mth = mth' ∧ mnv = mnv' ∧ mns = mns' ∧ mfa = mfa' ∧ mmo = mmo')) : Wm (S := Unit) l y_Mo_bind b_Mo_bind 4 none 1 21 [.ref (b 0), .int x, .int u, .int v] D (tyA cI cJ cZ) (wM b cI cJ cZ mki msz mle mel mme mal mic mil mio mab mae msa mlc mli mna mva mma mch mre mlv mwr msh mth mnv mns mfa mmo) (fun _ => True) (fun _ => none) (fun _ => (wM b cI cJ cZ mki' msz' mle' mel' mme' mal' mic' mil' mio' mab' mae' msa' mlc' mli' mna' mva' mma' mch' mre' mlv' mwr' msh' mth' mnv' mns' mfa' mmo')) :=
  wm_v (by decide) (Nat.le_of_ble_eq_true rfl) (fun p e s m below meth c ls Q A S hK hP hD hA hS hl hret => g_Mo_bind S (Nat.le_refl _) (Nat.le_refl _) ⟨Nat.le_refl _, Nat.le_refl _⟩ D b cI cJ cZ mki msz mle mel mme mal mic mil mio mab mae msa mlc mli mna mva mma mch mre mlv mwr msh mth mnv mns mfa mmo x u v hK hP hD hA hS hl vc (fun mki msz mle mel mme mal mic mil mio mab mae msa mlc mli mna mva mma mch mre mlv mwr msh mth mnv mns mfa mmo ls pc H locs hd hv hP hD hS => by obtain ⟨rfl, rfl, rfl, rfl, rfl, rfl, rfl, rfl, rfl, rfl, rfl, rfl, rfl, rfl, rfl, rfl, rfl, rfl, rfl, rfl, rfl, rfl, rfl, rfl, rfl, rfl, rfl⟩ := hv; exact hret () ls pc H locs hd trivial hP hD hS))
theorem c_Mo_bind_1 (l : Launch) (D : va_G) (b : Nat → Nat) (cI cJ cZ : ClassId) (mki : Nat → Int32) (msz : Nat → Int64) (mle : Nat → Int32) (mel : Nat → Int32) (mme : Nat → Int32) (mal : Nat → Int32) (mic : Nat → Int32) (mil : Nat → Int32) (mio : Nat → Int32) (mab : Nat → Int32) (mae : Nat → Int32) (msa : Nat → Int32) (mlc : Nat → Int32) (mli : Nat → Int32) (mna : Nat → Int32) (mva : Nat → Int32) (mma : Nat → Int32) (mch : Nat → Int32) (mre : Nat → Int32) (mlv : Nat → Int32) (mwr : Nat → Int64) (msh : Nat → Int32) (mth : Int32) (mnv : Int32) (mns : Int32) (mfa : Int32) (mmo : Int32) (x : Int32) (u : Int32) (v : Int32) (hv1 : ¬ sIn x 0 7 = true) : Wm (S := Unit) l y_Mo_bind b_Mo_bind 4 none 1 21 [.ref (b 0), .int x, .int u, .int v] D (tyA cI cJ cZ) (wM b cI cJ cZ mki msz mle mel mme mal mic mil mio mab mae msa mlc mli mna mva mma mch mre mlv mwr msh mth mnv mns mfa mmo) (fun _ => True) (fun _ => none) (fun _ => (wM b cI cJ cZ mki msz mle mel mme mal mic mil mio mab mae msa mlc mli mna mva mma mch mre mlv mwr msh 1 mnv mns mfa mmo)) := h_Mo_bind l D b cI cJ cZ mki msz mle mel mme mal mic mil mio mab mae msa mlc mli mna mva mma mch mre mlv mwr msh mth mnv mns mfa mmo x u v mki msz mle mel mme mal mic mil mio mab mae msa mlc mli mna mva mma mch mre mlv mwr msh 1 mnv mns mfa mmo (by
  unfold V_Mo_bind
  repeat' (first | apply br_c | apply br_d | intro _)
  all_goals (first | (simp_all [add_sub1, bI, upd, sHas, sIn, sKind]; done) | (exfalso; simp_all only [le_nlt, and2, bI_eq, bI_ne, bnot_t, ite_true, ite_false, if_true, if_false, eq_self, sIn_i, sHas_i, sKind_iff, not_and, Classical.not_not, not_true_eq_false, not_false_eq_true, true_and, and_true, false_and, and_false, true_implies, false_implies, implies_true, imp_false, imp_self, or_false, false_or, not_or, or_true, true_or]; done) | skip))
theorem c_Mo_bind_2 (l : Launch) (D : va_G) (b : Nat → Nat) (cI cJ cZ : ClassId) (mki : Nat → Int32) (msz : Nat → Int64) (mle : Nat → Int32) (mel : Nat → Int32) (mme : Nat → Int32) (mal : Nat → Int32) (mic : Nat → Int32) (mil : Nat → Int32) (mio : Nat → Int32) (mab : Nat → Int32) (mae : Nat → Int32) (msa : Nat → Int32) (mlc : Nat → Int32) (mli : Nat → Int32) (mna : Nat → Int32) (mva : Nat → Int32) (mma : Nat → Int32) (mch : Nat → Int32) (mre : Nat → Int32) (mlv : Nat → Int32) (mwr : Nat → Int64) (msh : Nat → Int32) (mth : Int32) (mnv : Int32) (mns : Int32) (mfa : Int32) (mmo : Int32) (x : Int32) (u : Int32) (v : Int32) (hv1 : ¬ (¬ sIn x 0 7 = true)) : Wm (S := Unit) l y_Mo_bind b_Mo_bind 4 none 1 21 [.ref (b 0), .int x, .int u, .int v] D (tyA cI cJ cZ) (wM b cI cJ cZ mki msz mle mel mme mal mic mil mio mab mae msa mlc mli mna mva mma mch mre mlv mwr msh mth mnv mns mfa mmo) (fun _ => True) (fun _ => none) (fun _ => (wM b cI cJ cZ mki msz mle mel mme mal mic mil mio (upd mab x.toNatClampNeg (vp_nar .boolean u)) (upd mae x.toNatClampNeg (vp_nar .boolean v)) msa mlc mli mna mva mma mch mre mlv mwr msh 0 mnv mns mfa mmo)) := h_Mo_bind l D b cI cJ cZ mki msz mle mel mme mal mic mil mio mab mae msa mlc mli mna mva mma mch mre mlv mwr msh mth mnv mns mfa mmo x u v mki msz mle mel mme mal mic mil mio (upd mab x.toNatClampNeg (vp_nar .boolean u)) (upd mae x.toNatClampNeg (vp_nar .boolean v)) msa mlc mli mna mva mma mch mre mlv mwr msh 0 mnv mns mfa mmo (by
  unfold V_Mo_bind
  repeat' (first | apply br_c | apply br_d | apply pre_and (vp_sIn (N := 8) (Classical.not_not.mp hv1) (by decide)) | intro _)
  all_goals (first | (simp_all [add_sub1, bI, upd, sHas, sIn, sKind]; done) | (exfalso; simp_all only [le_nlt, and2, bI_eq, bI_ne, bnot_t, ite_true, ite_false, if_true, if_false, eq_self, sIn_i, sHas_i, sKind_iff, not_and, Classical.not_not, not_true_eq_false, not_false_eq_true, true_and, and_true, false_and, and_false, true_implies, false_implies, implies_true, imp_false, imp_self, or_false, false_or, not_or, or_true, true_or]; done) | skip))
theorem hd_Mo_bind : y_Mo_bind.cls ≠ "java/lang/invoke/MethodHandle" ∧ y_Mo_bind.cls ≠ "java/lang/invoke/VarHandle" ∧ (parseMethodDescriptor y_Mo_bind.desc).map (fun d => d.parameters.length) = some 3 := ⟨by decide, by decide, by decide +kernel⟩
def V_Mo_schema (mki : Nat → Int32) (msz : Nat → Int64) (mle : Nat → Int32) (mel : Nat → Int32) (mme : Nat → Int32) (mal : Nat → Int32) (mic : Nat → Int32) (mil : Nat → Int32) (mio : Nat → Int32) (mab : Nat → Int32) (mae : Nat → Int32) (msa : Nat → Int32) (mlc : Nat → Int32) (mli : Nat → Int32) (mna : Nat → Int32) (mva : Nat → Int32) (mma : Nat → Int32) (mch : Nat → Int32) (mre : Nat → Int32) (mlv : Nat → Int32) (mwr : Nat → Int64) (msh : Nat → Int32) (mth : Int32) (mnv : Int32) (mns : Int32) (mfa : Int32) (mmo : Int32) (post : Int32 → (Nat → Int32) → (Nat → Int64) → (Nat → Int32) → (Nat → Int32) → (Nat → Int32) → (Nat → Int32) → (Nat → Int32) → (Nat → Int32) → (Nat → Int32) → (Nat → Int32) → (Nat → Int32) → (Nat → Int32) → (Nat → Int32) → (Nat → Int32) → (Nat → Int32) → (Nat → Int32) → (Nat → Int32) → (Nat → Int32) → (Nat → Int32) → (Nat → Int32) → (Nat → Int64) → (Nat → Int32) → Int32 → Int32 → Int32 → Int32 → Int32 → Prop) : Prop :=
  ((¬ mns = 24 → post ((mns + 1) - 1) mki msz mle mel mme mal mic mil mio mab mae msa mlc mli mna mva mma mch mre mlv mwr msh 0 mnv (mns + 1) mfa mmo) ∧ (mns = 24 → post 0 mki msz mle mel mme mal mic mil mio mab mae msa mlc mli mna mva mma mch mre mlv mwr msh 1 mnv mns mfa mmo))
set_option maxHeartbeats 4000000 in
set_option maxRecDepth 100000 in
theorem g_Mo_schema {p : Program} {l : Launch} {e : Env} {R : Room} {s : State} {m : MethodId} {args : Array Value} {below : List Frame} {meth : Method} {c : Code} {H : Heap} {locs : List Loc} {cells slots : Nat} {Q : State → Prop} {ls : Array Slot} {A : Nat → Prop} (S : CallFix p m c b_Mo_schema 1 s args W0 R_Mo) (hRf : 0 ≤ R.frames) (hRl : 0 ≤ R.locals) (hRc : cells ≤ R.cells ∧ slots ≤ R.slots) (D : va_G) (b : Nat → Nat) (cI cJ cZ : ClassId) (mki : Nat → Int32) (msz : Nat → Int64) (mle : Nat → Int32) (mel : Nat → Int32) (mme : Nat → Int32) (mal : Nat → Int32) (mic : Nat → Int32) (mil : Nat → Int32) (mio : Nat → Int32) (mab : Nat → Int32) (mae : Nat → Int32) (msa : Nat → Int32) (mlc : Nat → Int32) (mli : Nat → Int32) (mna : Nat → Int32) (mva : Nat → Int32) (mma : Nat → Int32) (mch : Nat → Int32) (mre : Nat → Int32) (mlv : Nat → Int32) (mwr : Nat → Int64) (msh : Nat → Int32) (mth : Int32) (mnv : Int32) (mns : Int32) (mfa : Int32) (mmo : Int32) (hK : va_K D vwCl (tyA cI cJ cZ) s) (hP : va_P D vwCl (wM b cI cJ cZ mki msz mle mel mme mal mic mil mio mab mae msa mlc mli mna mva mma mch mre mlv mwr msh mth mnv mns mfa mmo) H) (hD : va_D A (wM b cI cJ cZ mki msz mle mel mme mal mic mil mio mab mae msa mlc mli mna mva mma mch mre mlv mwr msh mth mnv mns mfa mmo)) (hA : ∀ q, s.heap.size ≤ q → A q) (hS : va_S A s.heap H locs) (hl : lv_has ls 1 [(0, .ref (b 0))]) {post : Int32 → (Nat → Int32) → (Nat → Int64) → (Nat → Int32) → (Nat → Int32) → (Nat → Int32) → (Nat → Int32) → (Nat → Int32) → (Nat → Int32) → (Nat → Int32) → (Nat → Int32) → (Nat → Int32) → (Nat → Int32) → (Nat → Int32) → (Nat → Int32) → (Nat → Int32) → (Nat → Int32) → (Nat → Int32) → (Nat → Int32) → (Nat → Int32) → (Nat → Int32) → (Nat → Int64) → (Nat → Int32) → Int32 → Int32 → Int32 → Int32 → Int32 → Prop} (vc : V_Mo_schema mki msz mle mel mme mal mic mil mio mab mae msa mlc mli mna mva mma mch mre mlv mwr msh mth mnv mns mfa mmo post)
    (hret : ∀ (v : Int32) (mki : Nat → Int32) (msz : Nat → Int64) (mle : Nat → Int32) (mel : Nat → Int32) (mme : Nat → Int32) (mal : Nat → Int32) (mic : Nat → Int32) (mil : Nat → Int32) (mio : Nat → Int32) (mab : Nat → Int32) (mae : Nat → Int32) (msa : Nat → Int32) (mlc : Nat → Int32) (mli : Nat → Int32) (mna : Nat → Int32) (mva : Nat → Int32) (mma : Nat → Int32) (mch : Nat → Int32) (mre : Nat → Int32) (mlv : Nat → Int32) (mwr : Nat → Int64) (msh : Nat → Int32) (mth : Int32) (mnv : Int32) (mns : Int32) (mfa : Int32) (mmo : Int32) (ls : Array Slot) (pc : Nat) (H : Heap) (locs : List Loc), decode b_Mo_schema pc = .ok (.ireturn, 1) → post v mki msz mle mel mme mal mic mil mio mab mae msa mlc mli mna mva mma mch mre mlv mwr msh mth mnv mns mfa mmo → va_P D vwCl (wM b cI cJ cZ mki msz mle mel mme mal mic mil mio mab mae msa mlc mli mna mva mma mch mre mlv mwr msh mth mnv mns mfa mmo) H → va_D A (wM b cI cJ cZ mki msz mle mel mme mal mic mil mio mab mae msa mlc mli mna mva mma mch mre mlv mwr msh mth mnv mns mfa mmo) → va_S A s.heap H locs → W p l e R s m args below meth c H locs cells slots Q (F0 m pc ls [.int v])) : W p l e R s m args below meth c H locs cells slots Q (F0 m 0 ls []) := by
  have hx := S.1
  have hb := S.2.1
  have hown := S.2.2.2.1
  have hts := S.2.2.2.2
  unfold V_Mo_schema at vc
  refine lv_aload_n hx hb d_Mo_schema_0 rfl (lv_at hl 0 rfl) ?_
  refine lv_aload_n hx hb d_Mo_schema_1 rfl (lv_at hl 0 rfl) ?_
  refine va_get (D := D) (ci := 6) (v := .int mns) (C := R_Mo) (T := F_Mo) (N := 27) hx hb hts in_Mo hown hK hP 0 rfl rfl 13 (by decide) (hts _ fl_Mo_128) (fun _ h => h) rfl d_Mo_schema_2 ?_
  refine lv_bipush (v := 24) hx hb d_Mo_schema_5 (by decide) ?_
  refine lv_icmp_ne (tgt := 14) hx hb d_Mo_schema_7 (by decide) (fun h => ?_) (fun h => ?_)
  · have vc := vc.1 h
    refine lv_iconst (v := 0) hx hb d_Mo_schema_14 (by decide) ?_
    refine va_put (D := D) (ci := 6) (v := .int 0) (ty := .int) (C := R_Mo) (T := F_Mo) (N := 27) hx hb hts in_Mo t_Mo t_Mo_ok n_Mo hown hK hP hD hS 0 rfl rfl 0 (by decide) (hts _ fl_Mo_78) (fun _ h => h) rfl (by decide +kernel) rfl rfl (Nat.le_of_ble_eq_true rfl) d_Mo_schema_15 (fun H locs hP hD hS => ?_)
    have hP : va_P D vwCl (wM b cI cJ cZ mki msz mle mel mme mal mic mil mio mab mae msa mlc mli mna mva mma mch mre mlv mwr msh 0 mnv mns mfa mmo) H := hP
    have hD : va_D A (wM b cI cJ cZ mki msz mle mel mme mal mic mil mio mab mae msa mlc mli mna mva mma mch mre mlv mwr msh 0 mnv mns mfa mmo) := hD
    refine lv_aload_n hx hb d_Mo_schema_18 rfl (lv_at hl 0 rfl) ?_
    refine va_get (D := D) (ci := 6) (v := .int 0) (C := R_Mo) (T := F_Mo) (N := 27) hx hb hts in_Mo hown hK hP 0 rfl rfl 0 (by decide) (hts _ fl_Mo_78) (fun _ h => h) rfl d_Mo_schema_19 ?_
    refine lv_if_eq (tgt := 27) hx hb d_Mo_schema_22 (by decide) (fun h => ?_) (fun h => ?_)
    · skip
      refine lv_aload_n hx hb d_Mo_schema_27 rfl (lv_at hl 0 rfl) ?_
      refine lv_dup hx hb d_Mo_schema_28 rfl ?_
      refine va_get (D := D) (ci := 6) (v := .int mns) (C := R_Mo) (T := F_Mo) (N := 27) hx hb hts in_Mo hown hK hP 0 rfl rfl 13 (by decide) (hts _ fl_Mo_128) (fun _ h => h) rfl d_Mo_schema_29 ?_
      refine lv_iconst (v := 1) hx hb d_Mo_schema_32 (by decide) ?_
      refine lv_iadd hx hb d_Mo_schema_33 ?_
      refine va_put (D := D) (ci := 6) (v := .int (mns + 1)) (ty := .int) (C := R_Mo) (T := F_Mo) (N := 27) hx hb hts in_Mo t_Mo t_Mo_ok n_Mo hown hK hP hD hS 0 rfl rfl 13 (by decide) (hts _ fl_Mo_128) (fun _ h => h) rfl (by decide +kernel) rfl rfl (Nat.le_of_ble_eq_true rfl) d_Mo_schema_34 (fun H locs hP hD hS => ?_)
      have hP : va_P D vwCl (wM b cI cJ cZ mki msz mle mel mme mal mic mil mio mab mae msa mlc mli mna mva mma mch mre mlv mwr msh 0 mnv (mns + 1) mfa mmo) H := hP
      have hD : va_D A (wM b cI cJ cZ mki msz mle mel mme mal mic mil mio mab mae msa mlc mli mna mva mma mch mre mlv mwr msh 0 mnv (mns + 1) mfa mmo) := hD
      refine lv_aload_n hx hb d_Mo_schema_37 rfl (lv_at hl 0 rfl) ?_
      refine va_get (D := D) (ci := 6) (v := .int (mns + 1)) (C := R_Mo) (T := F_Mo) (N := 27) hx hb hts in_Mo hown hK hP 0 rfl rfl 13 (by decide) (hts _ fl_Mo_128) (fun _ h => h) rfl d_Mo_schema_38 ?_
      refine lv_iconst (v := 1) hx hb d_Mo_schema_41 (by decide) ?_
      refine lv_isub hx hb d_Mo_schema_42 ?_
      exact hret _ _ _ _ _ _ _ _ _ _ _ _ _ _ _ _ _ _ _ _ _ _ _ _ _ _ _ _ ls _ H locs d_Mo_schema_43 vc hP hD hS
    · exact absurd h (by decide)
  · have vc := vc.2 h
    refine lv_iconst (v := 1) hx hb d_Mo_schema_10 (by decide) ?_
    refine lv_goto (tgt := 15) hx hb d_Mo_schema_11 (by decide) ?_
    refine va_put (D := D) (ci := 6) (v := .int 1) (ty := .int) (C := R_Mo) (T := F_Mo) (N := 27) hx hb hts in_Mo t_Mo t_Mo_ok n_Mo hown hK hP hD hS 0 rfl rfl 0 (by decide) (hts _ fl_Mo_78) (fun _ h => h) rfl (by decide +kernel) rfl rfl (Nat.le_of_ble_eq_true rfl) d_Mo_schema_15 (fun H locs hP hD hS => ?_)
    have hP : va_P D vwCl (wM b cI cJ cZ mki msz mle mel mme mal mic mil mio mab mae msa mlc mli mna mva mma mch mre mlv mwr msh 1 mnv mns mfa mmo) H := hP
    have hD : va_D A (wM b cI cJ cZ mki msz mle mel mme mal mic mil mio mab mae msa mlc mli mna mva mma mch mre mlv mwr msh 1 mnv mns mfa mmo) := hD
    refine lv_aload_n hx hb d_Mo_schema_18 rfl (lv_at hl 0 rfl) ?_
    refine va_get (D := D) (ci := 6) (v := .int 1) (C := R_Mo) (T := F_Mo) (N := 27) hx hb hts in_Mo hown hK hP 0 rfl rfl 0 (by decide) (hts _ fl_Mo_78) (fun _ h => h) rfl d_Mo_schema_19 ?_
    refine lv_if_eq (tgt := 27) hx hb d_Mo_schema_22 (by decide) (fun h => ?_) (fun h => ?_)
    · exact absurd h (by decide)
    · skip
      refine lv_iconst (v := 0) hx hb d_Mo_schema_25 (by decide) ?_
      exact hret _ _ _ _ _ _ _ _ _ _ _ _ _ _ _ _ _ _ _ _ _ _ _ _ _ _ _ _ ls _ H locs d_Mo_schema_26 vc hP hD hS
theorem h_Mo_schema (l : Launch) (D : va_G) (b : Nat → Nat) (cI cJ cZ : ClassId) (mki : Nat → Int32) (msz : Nat → Int64) (mle : Nat → Int32) (mel : Nat → Int32) (mme : Nat → Int32) (mal : Nat → Int32) (mic : Nat → Int32) (mil : Nat → Int32) (mio : Nat → Int32) (mab : Nat → Int32) (mae : Nat → Int32) (msa : Nat → Int32) (mlc : Nat → Int32) (mli : Nat → Int32) (mna : Nat → Int32) (mva : Nat → Int32) (mma : Nat → Int32) (mch : Nat → Int32) (mre : Nat → Int32) (mlv : Nat → Int32) (mwr : Nat → Int64) (msh : Nat → Int32) (mth : Int32) (mnv : Int32) (mns : Int32) (mfa : Int32) (mmo : Int32) (r : Int32) (mki' : Nat → Int32) (msz' : Nat → Int64) (mle' : Nat → Int32) (mel' : Nat → Int32) (mme' : Nat → Int32) (mal' : Nat → Int32) (mic' : Nat → Int32) (mil' : Nat → Int32) (mio' : Nat → Int32) (mab' : Nat → Int32) (mae' : Nat → Int32) (msa' : Nat → Int32) (mlc' : Nat → Int32) (mli' : Nat → Int32) (mna' : Nat → Int32) (mva' : Nat → Int32) (mma' : Nat → Int32) (mch' : Nat → Int32) (mre' : Nat → Int32) (mlv' : Nat → Int32) (mwr' : Nat → Int64) (msh' : Nat → Int32) (mth' : Int32) (mnv' : Int32) (mns' : Int32) (mfa' : Int32) (mmo' : Int32) (vc : V_Mo_schema mki msz mle mel mme mal mic mil mio mab mae msa mlc mli mna mva mma mch mre mlv mwr msh mth mnv mns mfa mmo (fun v mki msz mle mel mme mal mic mil mio mab mae msa mlc mli mna mva mma mch mre mlv mwr msh mth mnv mns mfa mmo => v = r ∧ mki = mki' ∧ msz = msz' ∧ mle = mle' ∧ mel = mel' ∧ mme = mme' ∧ mal = mal' ∧ mic = mic' ∧ mil = mil' ∧ mio = mio' ∧ mab = mab' ∧ mae = mae' ∧ msa = msa' ∧ mlc = mlc' ∧ mli = mli' ∧ mna = mna' ∧ mva = mva' ∧ mma = mma' ∧ mch = mch' ∧ mre = mre' ∧ mlv = mlv' ∧ mwr = mwr' ∧ msh = msh' ∧ mth = mth' ∧ mnv = mnv' ∧ mns = mns' ∧ mfa = mfa' ∧ mmo = mmo')) : Wm (S := Unit) l y_Mo_schema b_Mo_schema 1 (some .int) 0 0 [.ref (b 0)] D (tyA cI cJ cZ) (wM b cI cJ cZ mki msz mle mel mme mal mic mil mio mab mae msa mlc mli mna mva mma mch mre mlv mwr msh mth mnv mns mfa mmo) (fun _ => True) (fun _ => some (.int r)) (fun _ => (wM b cI cJ cZ mki' msz' mle' mel' mme' mal' mic' mil' mio' mab' mae' msa' mlc' mli' mna' mva' mma' mch' mre' mlv' mwr' msh' mth' mnv' mns' mfa' mmo')) :=
  wm_i (by decide) (fun _ _ => rfl) (Nat.le_of_ble_eq_true rfl) (fun p e s m below meth c ls Q A S hK hP hD hA hS hl hret => g_Mo_schema S (Nat.le_refl _) (Nat.le_refl _) ⟨Nat.le_refl _, Nat.le_refl _⟩ D b cI cJ cZ mki msz mle mel mme mal mic mil mio mab mae msa mlc mli mna mva mma mch mre mlv mwr msh mth mnv mns mfa mmo hK hP hD hA hS hl vc (fun v mki msz mle mel mme mal mic mil mio mab mae msa mlc mli mna mva mma mch mre mlv mwr msh mth mnv mns mfa mmo ls pc H locs hd hv hP hD hS => by obtain ⟨rfl, rfl, rfl, rfl, rfl, rfl, rfl, rfl, rfl, rfl, rfl, rfl, rfl, rfl, rfl, rfl, rfl, rfl, rfl, rfl, rfl, rfl, rfl, rfl, rfl, rfl, rfl, rfl⟩ := hv; exact hret () _ ls pc H locs hd trivial rfl hP hD hS))
theorem c_Mo_schema_1 (l : Launch) (D : va_G) (b : Nat → Nat) (cI cJ cZ : ClassId) (mki : Nat → Int32) (msz : Nat → Int64) (mle : Nat → Int32) (mel : Nat → Int32) (mme : Nat → Int32) (mal : Nat → Int32) (mic : Nat → Int32) (mil : Nat → Int32) (mio : Nat → Int32) (mab : Nat → Int32) (mae : Nat → Int32) (msa : Nat → Int32) (mlc : Nat → Int32) (mli : Nat → Int32) (mna : Nat → Int32) (mva : Nat → Int32) (mma : Nat → Int32) (mch : Nat → Int32) (mre : Nat → Int32) (mlv : Nat → Int32) (mwr : Nat → Int64) (msh : Nat → Int32) (mth : Int32) (mnv : Int32) (mns : Int32) (mfa : Int32) (mmo : Int32) (hv1 : mns = 24) : Wm (S := Unit) l y_Mo_schema b_Mo_schema 1 (some .int) 0 0 [.ref (b 0)] D (tyA cI cJ cZ) (wM b cI cJ cZ mki msz mle mel mme mal mic mil mio mab mae msa mlc mli mna mva mma mch mre mlv mwr msh mth mnv mns mfa mmo) (fun _ => True) (fun _ => some (.int 0)) (fun _ => (wM b cI cJ cZ mki msz mle mel mme mal mic mil mio mab mae msa mlc mli mna mva mma mch mre mlv mwr msh 1 mnv mns mfa mmo)) := h_Mo_schema l D b cI cJ cZ mki msz mle mel mme mal mic mil mio mab mae msa mlc mli mna mva mma mch mre mlv mwr msh mth mnv mns mfa mmo 0 mki msz mle mel mme mal mic mil mio mab mae msa mlc mli mna mva mma mch mre mlv mwr msh 1 mnv mns mfa mmo (by
  unfold V_Mo_schema
  repeat' (first | apply br_c | apply br_d | intro _)
  all_goals (first | (simp_all [add_sub1, bI, upd, sHas, sIn, sKind]; done) | (exfalso; simp_all only [le_nlt, and2, bI_eq, bI_ne, bnot_t, ite_true, ite_false, if_true, if_false, eq_self, sIn_i, sHas_i, sKind_iff, not_and, Classical.not_not, not_true_eq_false, not_false_eq_true, true_and, and_true, false_and, and_false, true_implies, false_implies, implies_true, imp_false, imp_self, or_false, false_or, not_or, or_true, true_or]; done) | skip))
theorem c_Mo_schema_2 (l : Launch) (D : va_G) (b : Nat → Nat) (cI cJ cZ : ClassId) (mki : Nat → Int32) (msz : Nat → Int64) (mle : Nat → Int32) (mel : Nat → Int32) (mme : Nat → Int32) (mal : Nat → Int32) (mic : Nat → Int32) (mil : Nat → Int32) (mio : Nat → Int32) (mab : Nat → Int32) (mae : Nat → Int32) (msa : Nat → Int32) (mlc : Nat → Int32) (mli : Nat → Int32) (mna : Nat → Int32) (mva : Nat → Int32) (mma : Nat → Int32) (mch : Nat → Int32) (mre : Nat → Int32) (mlv : Nat → Int32) (mwr : Nat → Int64) (msh : Nat → Int32) (mth : Int32) (mnv : Int32) (mns : Int32) (mfa : Int32) (mmo : Int32) (hv1 : ¬ (mns = 24)) : Wm (S := Unit) l y_Mo_schema b_Mo_schema 1 (some .int) 0 0 [.ref (b 0)] D (tyA cI cJ cZ) (wM b cI cJ cZ mki msz mle mel mme mal mic mil mio mab mae msa mlc mli mna mva mma mch mre mlv mwr msh mth mnv mns mfa mmo) (fun _ => True) (fun _ => some (.int (mns + 1 - 1))) (fun _ => (wM b cI cJ cZ mki msz mle mel mme mal mic mil mio mab mae msa mlc mli mna mva mma mch mre mlv mwr msh 0 mnv (mns + 1) mfa mmo)) := h_Mo_schema l D b cI cJ cZ mki msz mle mel mme mal mic mil mio mab mae msa mlc mli mna mva mma mch mre mlv mwr msh mth mnv mns mfa mmo (mns + 1 - 1) mki msz mle mel mme mal mic mil mio mab mae msa mlc mli mna mva mma mch mre mlv mwr msh 0 mnv (mns + 1) mfa mmo (by
  unfold V_Mo_schema
  repeat' (first | apply br_c | apply br_d | intro _)
  all_goals (first | (simp_all [add_sub1, bI, upd, sHas, sIn, sKind]; done) | (exfalso; simp_all only [le_nlt, and2, bI_eq, bI_ne, bnot_t, ite_true, ite_false, if_true, if_false, eq_self, sIn_i, sHas_i, sKind_iff, not_and, Classical.not_not, not_true_eq_false, not_false_eq_true, true_and, and_true, false_and, and_false, true_implies, false_implies, implies_true, imp_false, imp_self, or_false, false_or, not_or, or_true, true_or]; done) | skip))
theorem hd_Mo_schema : y_Mo_schema.cls ≠ "java/lang/invoke/MethodHandle" ∧ y_Mo_schema.cls ≠ "java/lang/invoke/VarHandle" ∧ (parseMethodDescriptor y_Mo_schema.desc).map (fun d => d.parameters.length) = some 0 := ⟨by decide, by decide, by decide +kernel⟩
def V_Mo_list (mki : Nat → Int32) (msz : Nat → Int64) (mle : Nat → Int32) (mel : Nat → Int32) (mme : Nat → Int32) (mal : Nat → Int32) (mic : Nat → Int32) (mil : Nat → Int32) (mio : Nat → Int32) (mab : Nat → Int32) (mae : Nat → Int32) (msa : Nat → Int32) (mlc : Nat → Int32) (mli : Nat → Int32) (mna : Nat → Int32) (mva : Nat → Int32) (mma : Nat → Int32) (mch : Nat → Int32) (mre : Nat → Int32) (mlv : Nat → Int32) (mwr : Nat → Int64) (msh : Nat → Int32) (mth : Int32) (mnv : Int32) (mns : Int32) (mfa : Int32) (mmo : Int32) (x : Int32) (y : Int32) (z : Int32) (post : Int32 → (Nat → Int32) → (Nat → Int64) → (Nat → Int32) → (Nat → Int32) → (Nat → Int32) → (Nat → Int32) → (Nat → Int32) → (Nat → Int32) → (Nat → Int32) → (Nat → Int32) → (Nat → Int32) → (Nat → Int32) → (Nat → Int32) → (Nat → Int32) → (Nat → Int32) → (Nat → Int32) → (Nat → Int32) → (Nat → Int32) → (Nat → Int32) → (Nat → Int32) → (Nat → Int64) → (Nat → Int32) → Int32 → Int32 → Int32 → Int32 → Int32 → Prop) : Prop :=
  ((¬ (bI (!(sHas mns x))) = 0 → post 0 mki msz mle mel mme mal mic mil mio mab mae msa mlc mli mna mva mma mch mre mlv mwr msh 1 mnv mns mfa mmo) ∧ ((bI (!(sHas mns x))) = 0 → ((y < 29 → post 0 mki msz mle mel mme mal mic mil mio mab mae msa mlc mli mna mva mma mch mre mlv mwr msh 1 mnv mns mfa mmo) ∧ (¬ y < 29 → ((32 < y → post 0 mki msz mle mel mme mal mic mil mio mab mae msa mlc mli mna mva mma mch mre mlv mwr msh 1 mnv mns mfa mmo) ∧ (¬ 32 < y → (((bI (!(sHas mns z))) = 0 → (vp_in (((4 * x) + y) - 29) 96 ∧ ((¬ (mlc (((4 * x) + y) - 29 : Int32).toNatClampNeg) = 3 → (vp_in (((4 * x) + y) - 29) 96 ∧ (vp_in ((3 * (((4 * x) + y) - 29)) + (mlc (((4 * x) + y) - 29 : Int32).toNatClampNeg)) 288 ∧ (vp_in (((4 * x) + y) - 29) 96 ∧ (vp_in (((4 * x) + y) - 29) 96 ∧ (vp_in (((4 * x) + y) - 29) 96 ∧ post ((upd mlc (((4 * x) + y) - 29 : Int32).toNatClampNeg ((mlc (((4 * x) + y) - 29 : Int32).toNatClampNeg) + 1)) (((4 * x) + y) - 29 : Int32).toNatClampNeg) mki msz mle mel mme mal mic mil mio mab mae msa (upd mlc (((4 * x) + y) - 29 : Int32).toNatClampNeg ((mlc (((4 * x) + y) - 29 : Int32).toNatClampNeg) + 1)) (upd mli ((3 * (((4 * x) + y) - 29)) + (mlc (((4 * x) + y) - 29 : Int32).toNatClampNeg) : Int32).toNatClampNeg z) mna mva mma mch mre mlv mwr msh 0 mnv mns mfa mmo)))))) ∧ ((mlc (((4 * x) + y) - 29 : Int32).toNatClampNeg) = 3 → post 0 mki msz mle mel mme mal mic mil mio mab mae msa mlc mli mna mva mma mch mre mlv mwr msh 2 mnv mns mfa mmo)))) ∧ (¬ (bI (!(sHas mns z))) = 0 → post 0 mki msz mle mel mme mal mic mil mio mab mae msa mlc mli mna mva mma mch mre mlv mwr msh 1 mnv mns mfa mmo))))))))
set_option maxHeartbeats 4000000 in
set_option maxRecDepth 100000 in
theorem g_Mo_list {p : Program} {l : Launch} {e : Env} {R : Room} {s : State} {m : MethodId} {args : Array Value} {below : List Frame} {meth : Method} {c : Code} {H : Heap} {locs : List Loc} {cells slots : Nat} {Q : State → Prop} {ls : Array Slot} {A : Nat → Prop} (S : CallFix p m c b_Mo_list 5 s args W0 R_Mo) (hRf : 1 ≤ R.frames) (hRl : 21 ≤ R.locals) (hRc : cells ≤ R.cells ∧ slots ≤ R.slots) (D : va_G) (b : Nat → Nat) (cI cJ cZ : ClassId) (mki : Nat → Int32) (msz : Nat → Int64) (mle : Nat → Int32) (mel : Nat → Int32) (mme : Nat → Int32) (mal : Nat → Int32) (mic : Nat → Int32) (mil : Nat → Int32) (mio : Nat → Int32) (mab : Nat → Int32) (mae : Nat → Int32) (msa : Nat → Int32) (mlc : Nat → Int32) (mli : Nat → Int32) (mna : Nat → Int32) (mva : Nat → Int32) (mma : Nat → Int32) (mch : Nat → Int32) (mre : Nat → Int32) (mlv : Nat → Int32) (mwr : Nat → Int64) (msh : Nat → Int32) (mth : Int32) (mnv : Int32) (mns : Int32) (mfa : Int32) (mmo : Int32) (x : Int32) (y : Int32) (z : Int32) (hK : va_K D vwCl (tyA cI cJ cZ) s) (hP : va_P D vwCl (wM b cI cJ cZ mki msz mle mel mme mal mic mil mio mab mae msa mlc mli mna mva mma mch mre mlv mwr msh mth mnv mns mfa mmo) H) (hD : va_D A (wM b cI cJ cZ mki msz mle mel mme mal mic mil mio mab mae msa mlc mli mna mva mma mch mre mlv mwr msh mth mnv mns mfa mmo)) (hA : ∀ q, s.heap.size ≤ q → A q) (hS : va_S A s.heap H locs) (hl : lv_has ls 5 [(0, .ref (b 0)), (1, .int x), (2, .int y), (3, .int z)]) {post : Int32 → (Nat → Int32) → (Nat → Int64) → (Nat → Int32) → (Nat → Int32) → (Nat → Int32) → (Nat → Int32) → (Nat → Int32) → (Nat → Int32) → (Nat → Int32) → (Nat → Int32) → (Nat → Int32) → (Nat → Int32) → (Nat → Int32) → (Nat → Int32) → (Nat → Int32) → (Nat → Int32) → (Nat → Int32) → (Nat → Int32) → (Nat → Int32) → (Nat → Int32) → (Nat → Int64) → (Nat → Int32) → Int32 → Int32 → Int32 → Int32 → Int32 → Prop} (vc : V_Mo_list mki msz mle mel mme mal mic mil mio mab mae msa mlc mli mna mva mma mch mre mlv mwr msh mth mnv mns mfa mmo x y z post)
    (hret : ∀ (v : Int32) (mki : Nat → Int32) (msz : Nat → Int64) (mle : Nat → Int32) (mel : Nat → Int32) (mme : Nat → Int32) (mal : Nat → Int32) (mic : Nat → Int32) (mil : Nat → Int32) (mio : Nat → Int32) (mab : Nat → Int32) (mae : Nat → Int32) (msa : Nat → Int32) (mlc : Nat → Int32) (mli : Nat → Int32) (mna : Nat → Int32) (mva : Nat → Int32) (mma : Nat → Int32) (mch : Nat → Int32) (mre : Nat → Int32) (mlv : Nat → Int32) (mwr : Nat → Int64) (msh : Nat → Int32) (mth : Int32) (mnv : Int32) (mns : Int32) (mfa : Int32) (mmo : Int32) (ls : Array Slot) (pc : Nat) (H : Heap) (locs : List Loc), decode b_Mo_list pc = .ok (.ireturn, 1) → post v mki msz mle mel mme mal mic mil mio mab mae msa mlc mli mna mva mma mch mre mlv mwr msh mth mnv mns mfa mmo → va_P D vwCl (wM b cI cJ cZ mki msz mle mel mme mal mic mil mio mab mae msa mlc mli mna mva mma mch mre mlv mwr msh mth mnv mns mfa mmo) H → va_D A (wM b cI cJ cZ mki msz mle mel mme mal mic mil mio mab mae msa mlc mli mna mva mma mch mre mlv mwr msh mth mnv mns mfa mmo) → va_S A s.heap H locs → W p l e R s m args below meth c H locs cells slots Q (F0 m pc ls [.int v])) : W p l e R s m args below meth c H locs cells slots Q (F0 m 0 ls []) := by
  have hx := S.1
  have hb := S.2.1
  have hown := S.2.2.2.1
  have hts := S.2.2.2.2
  unfold V_Mo_list at vc
  refine lv_aload_n hx hb d_Mo_list_0 rfl (lv_at hl 0 rfl) ?_
  refine lv_aload_n hx hb d_Mo_list_1 rfl (lv_at hl 0 rfl) ?_
  refine lv_iload_n hx hb d_Mo_list_2 rfl (lv_at hl 1 rfl) ?_
  refine pc_V (As := [.int x]) (rest := [.ref (b 0)]) S (c_Mo_noSchema l D b cI cJ cZ mki msz mle mel mme mal mic mil mio mab mae msa mlc mli mna mva mma mch mre mlv mwr msh mth mnv mns mfa mmo x) wB_blind k_Mo_noSchema i_Mo_noSchema e_Mo_noSchema o_Mo ml_Mo_131 hd_Mo_noSchema (Nat.le_trans (by decide) hRf) (Nat.le_trans (by decide) hRl) hRc (va_recv hK hP (q0 := 0) (ci := 6) rfl rfl) (wB_at hP hK) hl.1 rfl (Nat.le_of_ble_eq_true rfl) d_Mo_list_3 ?_
  refine lv_if_ne (tgt := 29) hx hb d_Mo_list_6 (by decide) (fun h => ?_) (fun h => ?_)
  · have vc := vc.1 h
    refine lv_iconst (v := 1) hx hb d_Mo_list_29 (by decide) ?_
    refine lv_goto (tgt := 55) hx hb d_Mo_list_30 (by decide) ?_
    refine va_put (D := D) (ci := 6) (v := .int 1) (ty := .int) (C := R_Mo) (T := F_Mo) (N := 27) hx hb hts in_Mo t_Mo t_Mo_ok n_Mo hown hK hP hD hS 0 rfl rfl 0 (by decide) (hts _ fl_Mo_78) (fun _ h => h) rfl (by decide +kernel) rfl rfl (Nat.le_of_ble_eq_true rfl) d_Mo_list_55 (fun H locs hP hD hS => ?_)
    have hP : va_P D vwCl (wM b cI cJ cZ mki msz mle mel mme mal mic mil mio mab mae msa mlc mli mna mva mma mch mre mlv mwr msh 1 mnv mns mfa mmo) H := hP
    have hD : va_D A (wM b cI cJ cZ mki msz mle mel mme mal mic mil mio mab mae msa mlc mli mna mva mma mch mre mlv mwr msh 1 mnv mns mfa mmo) := hD
    refine lv_aload_n hx hb d_Mo_list_58 rfl (lv_at hl 0 rfl) ?_
    refine va_get (D := D) (ci := 6) (v := .int 1) (C := R_Mo) (T := F_Mo) (N := 27) hx hb hts in_Mo hown hK hP 0 rfl rfl 0 (by decide) (hts _ fl_Mo_78) (fun _ h => h) rfl d_Mo_list_59 ?_
    refine lv_if_eq (tgt := 67) hx hb d_Mo_list_62 (by decide) (fun h => ?_) (fun h => ?_)
    · exact absurd h (by decide)
    · skip
      refine lv_iconst (v := 0) hx hb d_Mo_list_65 (by decide) ?_
      exact hret _ _ _ _ _ _ _ _ _ _ _ _ _ _ _ _ _ _ _ _ _ _ _ _ _ _ _ _ ls _ H locs d_Mo_list_66 vc hP hD hS
  · have vc := vc.2 h
    refine lv_iload_n hx hb d_Mo_list_9 rfl (lv_at hl 2 rfl) ?_
    refine lv_bipush (v := 29) hx hb d_Mo_list_10 (by decide) ?_
    refine lv_icmp_lt (tgt := 29) hx hb d_Mo_list_12 (by decide) (fun h => ?_) (fun h => ?_)
    · have vc := vc.1 h
      refine lv_iconst (v := 1) hx hb d_Mo_list_29 (by decide) ?_
      refine lv_goto (tgt := 55) hx hb d_Mo_list_30 (by decide) ?_
      refine va_put (D := D) (ci := 6) (v := .int 1) (ty := .int) (C := R_Mo) (T := F_Mo) (N := 27) hx hb hts in_Mo t_Mo t_Mo_ok n_Mo hown hK hP hD hS 0 rfl rfl 0 (by decide) (hts _ fl_Mo_78) (fun _ h => h) rfl (by decide +kernel) rfl rfl (Nat.le_of_ble_eq_true rfl) d_Mo_list_55 (fun H locs hP hD hS => ?_)
      have hP : va_P D vwCl (wM b cI cJ cZ mki msz mle mel mme mal mic mil mio mab mae msa mlc mli mna mva mma mch mre mlv mwr msh 1 mnv mns mfa mmo) H := hP
      have hD : va_D A (wM b cI cJ cZ mki msz mle mel mme mal mic mil mio mab mae msa mlc mli mna mva mma mch mre mlv mwr msh 1 mnv mns mfa mmo) := hD
      refine lv_aload_n hx hb d_Mo_list_58 rfl (lv_at hl 0 rfl) ?_
      refine va_get (D := D) (ci := 6) (v := .int 1) (C := R_Mo) (T := F_Mo) (N := 27) hx hb hts in_Mo hown hK hP 0 rfl rfl 0 (by decide) (hts _ fl_Mo_78) (fun _ h => h) rfl d_Mo_list_59 ?_
      refine lv_if_eq (tgt := 67) hx hb d_Mo_list_62 (by decide) (fun h => ?_) (fun h => ?_)
      · exact absurd h (by decide)
      · skip
        refine lv_iconst (v := 0) hx hb d_Mo_list_65 (by decide) ?_
        exact hret _ _ _ _ _ _ _ _ _ _ _ _ _ _ _ _ _ _ _ _ _ _ _ _ _ _ _ _ ls _ H locs d_Mo_list_66 vc hP hD hS
    · have vc := vc.2 h
      refine lv_iload_n hx hb d_Mo_list_15 rfl (lv_at hl 2 rfl) ?_
      refine lv_bipush (v := 32) hx hb d_Mo_list_16 (by decide) ?_
      refine lv_icmp_gt (tgt := 29) hx hb d_Mo_list_18 (by decide) (fun h => ?_) (fun h => ?_)
      · have vc := vc.1 h
        refine lv_iconst (v := 1) hx hb d_Mo_list_29 (by decide) ?_
        refine lv_goto (tgt := 55) hx hb d_Mo_list_30 (by decide) ?_
        refine va_put (D := D) (ci := 6) (v := .int 1) (ty := .int) (C := R_Mo) (T := F_Mo) (N := 27) hx hb hts in_Mo t_Mo t_Mo_ok n_Mo hown hK hP hD hS 0 rfl rfl 0 (by decide) (hts _ fl_Mo_78) (fun _ h => h) rfl (by decide +kernel) rfl rfl (Nat.le_of_ble_eq_true rfl) d_Mo_list_55 (fun H locs hP hD hS => ?_)
        have hP : va_P D vwCl (wM b cI cJ cZ mki msz mle mel mme mal mic mil mio mab mae msa mlc mli mna mva mma mch mre mlv mwr msh 1 mnv mns mfa mmo) H := hP
        have hD : va_D A (wM b cI cJ cZ mki msz mle mel mme mal mic mil mio mab mae msa mlc mli mna mva mma mch mre mlv mwr msh 1 mnv mns mfa mmo) := hD
        refine lv_aload_n hx hb d_Mo_list_58 rfl (lv_at hl 0 rfl) ?_
        refine va_get (D := D) (ci := 6) (v := .int 1) (C := R_Mo) (T := F_Mo) (N := 27) hx hb hts in_Mo hown hK hP 0 rfl rfl 0 (by decide) (hts _ fl_Mo_78) (fun _ h => h) rfl d_Mo_list_59 ?_
        refine lv_if_eq (tgt := 67) hx hb d_Mo_list_62 (by decide) (fun h => ?_) (fun h => ?_)
        · exact absurd h (by decide)
        · skip
          refine lv_iconst (v := 0) hx hb d_Mo_list_65 (by decide) ?_
          exact hret _ _ _ _ _ _ _ _ _ _ _ _ _ _ _ _ _ _ _ _ _ _ _ _ _ _ _ _ ls _ H locs d_Mo_list_66 vc hP hD hS
      · have vc := vc.2 h
        refine lv_aload_n hx hb d_Mo_list_21 rfl (lv_at hl 0 rfl) ?_
        refine lv_iload_n hx hb d_Mo_list_22 rfl (lv_at hl 3 rfl) ?_
        refine pc_V (As := [.int z]) (rest := [.ref (b 0)]) S (c_Mo_noSchema l D b cI cJ cZ mki msz mle mel mme mal mic mil mio mab mae msa mlc mli mna mva mma mch mre mlv mwr msh mth mnv mns mfa mmo z) wB_blind k_Mo_noSchema i_Mo_noSchema e_Mo_noSchema o_Mo ml_Mo_131 hd_Mo_noSchema (Nat.le_trans (by decide) hRf) (Nat.le_trans (by decide) hRl) hRc (va_recv hK hP (q0 := 0) (ci := 6) rfl rfl) (wB_at hP hK) hl.1 rfl (Nat.le_of_ble_eq_true rfl) d_Mo_list_23 ?_
        refine lv_if_eq (tgt := 33) hx hb d_Mo_list_26 (by decide) (fun h => ?_) (fun h => ?_)
        · have vc := vc.1 h
          refine lv_aload_n hx hb d_Mo_list_33 rfl (lv_at hl 0 rfl) ?_
          refine va_get (D := D) (ci := 6) (v := .ref (b 13)) (C := R_Mo) (T := F_Mo) (N := 27) hx hb hts in_Mo hown hK hP 0 rfl rfl 15 (by decide) (hts _ fl_Mo_48) (fun _ h => h) rfl d_Mo_list_34 ?_
          refine lv_iconst (v := 4) hx hb d_Mo_list_37 (by decide) ?_
          refine lv_iload_n hx hb d_Mo_list_38 rfl (lv_at hl 1 rfl) ?_
          refine lv_imul hx hb d_Mo_list_39 ?_
          refine lv_iload_n hx hb d_Mo_list_40 rfl (lv_at hl 2 rfl) ?_
          refine lv_iadd hx hb d_Mo_list_41 ?_
          refine lv_bipush (v := 29) hx hb d_Mo_list_42 (by decide) ?_
          refine lv_isub hx hb d_Mo_list_44 ?_
          obtain ⟨vcb, vc⟩ := vc
          refine va_iald hx hb hK hP 13 0 rfl rfl vcb d_Mo_list_45 ?_
          refine lv_iconst (v := 3) hx hb d_Mo_list_46 (by decide) ?_
          refine lv_icmp_ne (tgt := 54) hx hb d_Mo_list_47 (by decide) (fun h => ?_) (fun h => ?_)
          · have vc := vc.1 h
            refine lv_iconst (v := 0) hx hb d_Mo_list_54 (by decide) ?_
            refine va_put (D := D) (ci := 6) (v := .int 0) (ty := .int) (C := R_Mo) (T := F_Mo) (N := 27) hx hb hts in_Mo t_Mo t_Mo_ok n_Mo hown hK hP hD hS 0 rfl rfl 0 (by decide) (hts _ fl_Mo_78) (fun _ h => h) rfl (by decide +kernel) rfl rfl (Nat.le_of_ble_eq_true rfl) d_Mo_list_55 (fun H locs hP hD hS => ?_)
            have hP : va_P D vwCl (wM b cI cJ cZ mki msz mle mel mme mal mic mil mio mab mae msa mlc mli mna mva mma mch mre mlv mwr msh 0 mnv mns mfa mmo) H := hP
            have hD : va_D A (wM b cI cJ cZ mki msz mle mel mme mal mic mil mio mab mae msa mlc mli mna mva mma mch mre mlv mwr msh 0 mnv mns mfa mmo) := hD
            refine lv_aload_n hx hb d_Mo_list_58 rfl (lv_at hl 0 rfl) ?_
            refine va_get (D := D) (ci := 6) (v := .int 0) (C := R_Mo) (T := F_Mo) (N := 27) hx hb hts in_Mo hown hK hP 0 rfl rfl 0 (by decide) (hts _ fl_Mo_78) (fun _ h => h) rfl d_Mo_list_59 ?_
            refine lv_if_eq (tgt := 67) hx hb d_Mo_list_62 (by decide) (fun h => ?_) (fun h => ?_)
            · skip
              refine lv_iconst (v := 4) hx hb d_Mo_list_67 (by decide) ?_
              refine lv_iload_n hx hb d_Mo_list_68 rfl (lv_at hl 1 rfl) ?_
              refine lv_imul hx hb d_Mo_list_69 ?_
              refine lv_iload_n hx hb d_Mo_list_70 rfl (lv_at hl 2 rfl) ?_
              refine lv_iadd hx hb d_Mo_list_71 ?_
              refine lv_bipush (v := 29) hx hb d_Mo_list_72 (by decide) ?_
              refine lv_isub hx hb d_Mo_list_74 ?_
              refine lv_istore hx hb d_Mo_list_75 hl (by decide) (lv' := [(4, .int (((4 * x) + y) - 29)), (0, .ref (b 0)), (1, .int x), (2, .int y), (3, .int z)]) rfl (fun ls hl => ?_)
              refine lv_aload_n hx hb d_Mo_list_77 rfl (lv_at hl 1 rfl) ?_
              refine va_get (D := D) (ci := 6) (v := .ref (b 14)) (C := R_Mo) (T := F_Mo) (N := 27) hx hb hts in_Mo hown hK hP 0 rfl rfl 16 (by decide) (hts _ fl_Mo_51) (fun _ h => h) rfl d_Mo_list_78 ?_
              refine lv_iconst (v := 3) hx hb d_Mo_list_81 (by decide) ?_
              refine lv_iload hx hb d_Mo_list_82 (lv_at hl 0 rfl) ?_
              refine lv_imul hx hb d_Mo_list_84 ?_
              refine lv_aload_n hx hb d_Mo_list_85 rfl (lv_at hl 1 rfl) ?_
              refine va_get (D := D) (ci := 6) (v := .ref (b 13)) (C := R_Mo) (T := F_Mo) (N := 27) hx hb hts in_Mo hown hK hP 0 rfl rfl 15 (by decide) (hts _ fl_Mo_48) (fun _ h => h) rfl d_Mo_list_86 ?_
              refine lv_iload hx hb d_Mo_list_89 (lv_at hl 0 rfl) ?_
              obtain ⟨vcb, vc⟩ := vc
              refine va_iald hx hb hK hP 13 0 rfl rfl vcb d_Mo_list_91 ?_
              refine lv_iadd hx hb d_Mo_list_92 ?_
              refine lv_iload_n hx hb d_Mo_list_93 rfl (lv_at hl 4 rfl) ?_
              obtain ⟨vcb, vc⟩ := vc
              refine va_iast hx hb hK hP hD hS 14 0 rfl rfl vcb d_Mo_list_94 (fun H locs hP hD hS => ?_)
              have hP : va_P D vwCl (wM b cI cJ cZ mki msz mle mel mme mal mic mil mio mab mae msa mlc (upd mli ((3 * (((4 * x) + y) - 29)) + (mlc (((4 * x) + y) - 29 : Int32).toNatClampNeg) : Int32).toNatClampNeg z) mna mva mma mch mre mlv mwr msh 0 mnv mns mfa mmo) H := hP
              have hD : va_D A (wM b cI cJ cZ mki msz mle mel mme mal mic mil mio mab mae msa mlc (upd mli ((3 * (((4 * x) + y) - 29)) + (mlc (((4 * x) + y) - 29 : Int32).toNatClampNeg) : Int32).toNatClampNeg z) mna mva mma mch mre mlv mwr msh 0 mnv mns mfa mmo) := hD
              refine lv_aload_n hx hb d_Mo_list_95 rfl (lv_at hl 1 rfl) ?_
              refine va_get (D := D) (ci := 6) (v := .ref (b 13)) (C := R_Mo) (T := F_Mo) (N := 27) hx hb hts in_Mo hown hK hP 0 rfl rfl 15 (by decide) (hts _ fl_Mo_48) (fun _ h => h) rfl d_Mo_list_96 ?_
              refine lv_iload hx hb d_Mo_list_99 (lv_at hl 0 rfl) ?_
              refine lv_dup2_11 hx hb d_Mo_list_101 rfl rfl ?_
              obtain ⟨vcb, vc⟩ := vc
              refine va_iald hx hb hK hP 13 0 rfl rfl vcb d_Mo_list_102 ?_
              refine lv_iconst (v := 1) hx hb d_Mo_list_103 (by decide) ?_
              refine lv_iadd hx hb d_Mo_list_104 ?_
              obtain ⟨vcb, vc⟩ := vc
              refine va_iast hx hb hK hP hD hS 13 0 rfl rfl vcb d_Mo_list_105 (fun H locs hP hD hS => ?_)
              have hP : va_P D vwCl (wM b cI cJ cZ mki msz mle mel mme mal mic mil mio mab mae msa (upd mlc (((4 * x) + y) - 29 : Int32).toNatClampNeg ((mlc (((4 * x) + y) - 29 : Int32).toNatClampNeg) + 1)) (upd mli ((3 * (((4 * x) + y) - 29)) + (mlc (((4 * x) + y) - 29 : Int32).toNatClampNeg) : Int32).toNatClampNeg z) mna mva mma mch mre mlv mwr msh 0 mnv mns mfa mmo) H := hP
              have hD : va_D A (wM b cI cJ cZ mki msz mle mel mme mal mic mil mio mab mae msa (upd mlc (((4 * x) + y) - 29 : Int32).toNatClampNeg ((mlc (((4 * x) + y) - 29 : Int32).toNatClampNeg) + 1)) (upd mli ((3 * (((4 * x) + y) - 29)) + (mlc (((4 * x) + y) - 29 : Int32).toNatClampNeg) : Int32).toNatClampNeg z) mna mva mma mch mre mlv mwr msh 0 mnv mns mfa mmo) := hD
              refine lv_aload_n hx hb d_Mo_list_106 rfl (lv_at hl 1 rfl) ?_
              refine va_get (D := D) (ci := 6) (v := .ref (b 13)) (C := R_Mo) (T := F_Mo) (N := 27) hx hb hts in_Mo hown hK hP 0 rfl rfl 15 (by decide) (hts _ fl_Mo_48) (fun _ h => h) rfl d_Mo_list_107 ?_
              refine lv_iload hx hb d_Mo_list_110 (lv_at hl 0 rfl) ?_
              obtain ⟨vcb, vc⟩ := vc
              refine va_iald hx hb hK hP 13 0 rfl rfl vcb d_Mo_list_112 ?_
              exact hret _ _ _ _ _ _ _ _ _ _ _ _ _ _ _ _ _ _ _ _ _ _ _ _ _ _ _ _ ls _ H locs d_Mo_list_113 vc hP hD hS
            · exact absurd h (by decide)
          · have vc := vc.2 h
            refine lv_iconst (v := 2) hx hb d_Mo_list_50 (by decide) ?_
            refine lv_goto (tgt := 55) hx hb d_Mo_list_51 (by decide) ?_
            refine va_put (D := D) (ci := 6) (v := .int 2) (ty := .int) (C := R_Mo) (T := F_Mo) (N := 27) hx hb hts in_Mo t_Mo t_Mo_ok n_Mo hown hK hP hD hS 0 rfl rfl 0 (by decide) (hts _ fl_Mo_78) (fun _ h => h) rfl (by decide +kernel) rfl rfl (Nat.le_of_ble_eq_true rfl) d_Mo_list_55 (fun H locs hP hD hS => ?_)
            have hP : va_P D vwCl (wM b cI cJ cZ mki msz mle mel mme mal mic mil mio mab mae msa mlc mli mna mva mma mch mre mlv mwr msh 2 mnv mns mfa mmo) H := hP
            have hD : va_D A (wM b cI cJ cZ mki msz mle mel mme mal mic mil mio mab mae msa mlc mli mna mva mma mch mre mlv mwr msh 2 mnv mns mfa mmo) := hD
            refine lv_aload_n hx hb d_Mo_list_58 rfl (lv_at hl 0 rfl) ?_
            refine va_get (D := D) (ci := 6) (v := .int 2) (C := R_Mo) (T := F_Mo) (N := 27) hx hb hts in_Mo hown hK hP 0 rfl rfl 0 (by decide) (hts _ fl_Mo_78) (fun _ h => h) rfl d_Mo_list_59 ?_
            refine lv_if_eq (tgt := 67) hx hb d_Mo_list_62 (by decide) (fun h => ?_) (fun h => ?_)
            · exact absurd h (by decide)
            · skip
              refine lv_iconst (v := 0) hx hb d_Mo_list_65 (by decide) ?_
              exact hret _ _ _ _ _ _ _ _ _ _ _ _ _ _ _ _ _ _ _ _ _ _ _ _ _ _ _ _ ls _ H locs d_Mo_list_66 vc hP hD hS
        · have vc := vc.2 h
          refine lv_iconst (v := 1) hx hb d_Mo_list_29 (by decide) ?_
          refine lv_goto (tgt := 55) hx hb d_Mo_list_30 (by decide) ?_
          refine va_put (D := D) (ci := 6) (v := .int 1) (ty := .int) (C := R_Mo) (T := F_Mo) (N := 27) hx hb hts in_Mo t_Mo t_Mo_ok n_Mo hown hK hP hD hS 0 rfl rfl 0 (by decide) (hts _ fl_Mo_78) (fun _ h => h) rfl (by decide +kernel) rfl rfl (Nat.le_of_ble_eq_true rfl) d_Mo_list_55 (fun H locs hP hD hS => ?_)
          have hP : va_P D vwCl (wM b cI cJ cZ mki msz mle mel mme mal mic mil mio mab mae msa mlc mli mna mva mma mch mre mlv mwr msh 1 mnv mns mfa mmo) H := hP
          have hD : va_D A (wM b cI cJ cZ mki msz mle mel mme mal mic mil mio mab mae msa mlc mli mna mva mma mch mre mlv mwr msh 1 mnv mns mfa mmo) := hD
          refine lv_aload_n hx hb d_Mo_list_58 rfl (lv_at hl 0 rfl) ?_
          refine va_get (D := D) (ci := 6) (v := .int 1) (C := R_Mo) (T := F_Mo) (N := 27) hx hb hts in_Mo hown hK hP 0 rfl rfl 0 (by decide) (hts _ fl_Mo_78) (fun _ h => h) rfl d_Mo_list_59 ?_
          refine lv_if_eq (tgt := 67) hx hb d_Mo_list_62 (by decide) (fun h => ?_) (fun h => ?_)
          · exact absurd h (by decide)
          · skip
            refine lv_iconst (v := 0) hx hb d_Mo_list_65 (by decide) ?_
            exact hret _ _ _ _ _ _ _ _ _ _ _ _ _ _ _ _ _ _ _ _ _ _ _ _ _ _ _ _ ls _ H locs d_Mo_list_66 vc hP hD hS
theorem h_Mo_list (l : Launch) (D : va_G) (b : Nat → Nat) (cI cJ cZ : ClassId) (mki : Nat → Int32) (msz : Nat → Int64) (mle : Nat → Int32) (mel : Nat → Int32) (mme : Nat → Int32) (mal : Nat → Int32) (mic : Nat → Int32) (mil : Nat → Int32) (mio : Nat → Int32) (mab : Nat → Int32) (mae : Nat → Int32) (msa : Nat → Int32) (mlc : Nat → Int32) (mli : Nat → Int32) (mna : Nat → Int32) (mva : Nat → Int32) (mma : Nat → Int32) (mch : Nat → Int32) (mre : Nat → Int32) (mlv : Nat → Int32) (mwr : Nat → Int64) (msh : Nat → Int32) (mth : Int32) (mnv : Int32) (mns : Int32) (mfa : Int32) (mmo : Int32) (x : Int32) (y : Int32) (z : Int32) (r : Int32) (mki' : Nat → Int32) (msz' : Nat → Int64) (mle' : Nat → Int32) (mel' : Nat → Int32) (mme' : Nat → Int32) (mal' : Nat → Int32) (mic' : Nat → Int32) (mil' : Nat → Int32) (mio' : Nat → Int32) (mab' : Nat → Int32) (mae' : Nat → Int32) (msa' : Nat → Int32) (mlc' : Nat → Int32) (mli' : Nat → Int32) (mna' : Nat → Int32) (mva' : Nat → Int32) (mma' : Nat → Int32) (mch' : Nat → Int32) (mre' : Nat → Int32) (mlv' : Nat → Int32) (mwr' : Nat → Int64) (msh' : Nat → Int32) (mth' : Int32) (mnv' : Int32) (mns' : Int32) (mfa' : Int32) (mmo' : Int32) (vc : V_Mo_list mki msz mle mel mme mal mic mil mio mab mae msa mlc mli mna mva mma mch mre mlv mwr msh mth mnv mns mfa mmo x y z (fun v mki msz mle mel mme mal mic mil mio mab mae msa mlc mli mna mva mma mch mre mlv mwr msh mth mnv mns mfa mmo => v = r ∧ mki = mki' ∧ msz = msz' ∧ mle = mle' ∧ mel = mel' ∧ mme = mme' ∧ mal = mal' ∧ mic = mic' ∧ mil = mil' ∧ mio = mio' ∧ mab = mab' ∧ mae = mae' ∧ msa = msa' ∧ mlc = mlc' ∧ mli = mli' ∧ mna = mna' ∧ mva = mva' ∧ mma = mma' ∧ mch = mch' ∧ mre = mre' ∧ mlv = mlv' ∧ mwr = mwr' ∧ msh = msh' ∧ mth = mth' ∧ mnv = mnv' ∧ mns = mns' ∧ mfa = mfa' ∧ mmo = mmo')) : Wm (S := Unit) l y_Mo_list b_Mo_list 5 (some .int) 1 21 [.ref (b 0), .int x, .int y, .int z] D (tyA cI cJ cZ) (wM b cI cJ cZ mki msz mle mel mme mal mic mil mio mab mae msa mlc mli mna mva mma mch mre mlv mwr msh mth mnv mns mfa mmo) (fun _ => True) (fun _ => some (.int r)) (fun _ => (wM b cI cJ cZ mki' msz' mle' mel' mme' mal' mic' mil' mio' mab' mae' msa' mlc' mli' mna' mva' mma' mch' mre' mlv' mwr' msh' mth' mnv' mns' mfa' mmo')) :=
  wm_i (by decide) (fun _ _ => rfl) (Nat.le_of_ble_eq_true rfl) (fun p e s m below meth c ls Q A S hK hP hD hA hS hl hret => g_Mo_list S (Nat.le_refl _) (Nat.le_refl _) ⟨Nat.le_refl _, Nat.le_refl _⟩ D b cI cJ cZ mki msz mle mel mme mal mic mil mio mab mae msa mlc mli mna mva mma mch mre mlv mwr msh mth mnv mns mfa mmo x y z hK hP hD hA hS hl vc (fun v mki msz mle mel mme mal mic mil mio mab mae msa mlc mli mna mva mma mch mre mlv mwr msh mth mnv mns mfa mmo ls pc H locs hd hv hP hD hS => by obtain ⟨rfl, rfl, rfl, rfl, rfl, rfl, rfl, rfl, rfl, rfl, rfl, rfl, rfl, rfl, rfl, rfl, rfl, rfl, rfl, rfl, rfl, rfl, rfl, rfl, rfl, rfl, rfl, rfl⟩ := hv; exact hret () _ ls pc H locs hd trivial rfl hP hD hS))
theorem c_Mo_list_1 (l : Launch) (D : va_G) (b : Nat → Nat) (cI cJ cZ : ClassId) (mki : Nat → Int32) (msz : Nat → Int64) (mle : Nat → Int32) (mel : Nat → Int32) (mme : Nat → Int32) (mal : Nat → Int32) (mic : Nat → Int32) (mil : Nat → Int32) (mio : Nat → Int32) (mab : Nat → Int32) (mae : Nat → Int32) (msa : Nat → Int32) (mlc : Nat → Int32) (mli : Nat → Int32) (mna : Nat → Int32) (mva : Nat → Int32) (mma : Nat → Int32) (mch : Nat → Int32) (mre : Nat → Int32) (mlv : Nat → Int32) (mwr : Nat → Int64) (msh : Nat → Int32) (mth : Int32) (mnv : Int32) (mns : Int32) (mfa : Int32) (mmo : Int32) (x : Int32) (y : Int32) (z : Int32) (hpre : (mns ≤ 24 ∧ ∀ j : Nat, j < 96 → ∃ b : Nat, b ≤ 3 ∧ mlc j = nI b)) (hv1 : ¬ (sHas mns x && (sIn y 29 32 && sHas mns z)) = true) : Wm (S := Unit) l y_Mo_list b_Mo_list 5 (some .int) 1 21 [.ref (b 0), .int x, .int y, .int z] D (tyA cI cJ cZ) (wM b cI cJ cZ mki msz mle mel mme mal mic mil mio mab mae msa mlc mli mna mva mma mch mre mlv mwr msh mth mnv mns mfa mmo) (fun _ => True) (fun _ => some (.int 0)) (fun _ => (wM b cI cJ cZ mki msz mle mel mme mal mic mil mio mab mae msa mlc mli mna mva mma mch mre mlv mwr msh 1 mnv mns mfa mmo)) := h_Mo_list l D b cI cJ cZ mki msz mle mel mme mal mic mil mio mab mae msa mlc mli mna mva mma mch mre mlv mwr msh mth mnv mns mfa mmo x y z 0 mki msz mle mel mme mal mic mil mio mab mae msa mlc mli mna mva mma mch mre mlv mwr msh 1 mnv mns mfa mmo (by
  unfold V_Mo_list
  repeat' (first | apply br_c | apply br_d | intro _)
  all_goals (first | (simp_all [add_sub1, bI, upd, sHas, sIn, sKind]; done) | (exfalso; simp_all only [le_nlt, and2, bI_eq, bI_ne, bnot_t, ite_true, ite_false, if_true, if_false, eq_self, sIn_i, sHas_i, sKind_iff, not_and, Classical.not_not, not_true_eq_false, not_false_eq_true, true_and, and_true, false_and, and_false, true_implies, false_implies, implies_true, imp_false, imp_self, or_false, false_or, not_or, or_true, true_or]; done) | skip))
theorem c_Mo_list_2 (l : Launch) (D : va_G) (b : Nat → Nat) (cI cJ cZ : ClassId) (mki : Nat → Int32) (msz : Nat → Int64) (mle : Nat → Int32) (mel : Nat → Int32) (mme : Nat → Int32) (mal : Nat → Int32) (mic : Nat → Int32) (mil : Nat → Int32) (mio : Nat → Int32) (mab : Nat → Int32) (mae : Nat → Int32) (msa : Nat → Int32) (mlc : Nat → Int32) (mli : Nat → Int32) (mna : Nat → Int32) (mva : Nat → Int32) (mma : Nat → Int32) (mch : Nat → Int32) (mre : Nat → Int32) (mlv : Nat → Int32) (mwr : Nat → Int64) (msh : Nat → Int32) (mth : Int32) (mnv : Int32) (mns : Int32) (mfa : Int32) (mmo : Int32) (x : Int32) (y : Int32) (z : Int32) (hpre : (mns ≤ 24 ∧ ∀ j : Nat, j < 96 → ∃ b : Nat, b ≤ 3 ∧ mlc j = nI b)) (hv1 : ¬ (¬ (sHas mns x && (sIn y 29 32 && sHas mns z)) = true)) (hv2 : mlc (4 * x + y - 29 : Int32).toNatClampNeg = 3) : Wm (S := Unit) l y_Mo_list b_Mo_list 5 (some .int) 1 21 [.ref (b 0), .int x, .int y, .int z] D (tyA cI cJ cZ) (wM b cI cJ cZ mki msz mle mel mme mal mic mil mio mab mae msa mlc mli mna mva mma mch mre mlv mwr msh mth mnv mns mfa mmo) (fun _ => True) (fun _ => some (.int 0)) (fun _ => (wM b cI cJ cZ mki msz mle mel mme mal mic mil mio mab mae msa mlc mli mna mva mma mch mre mlv mwr msh 2 mnv mns mfa mmo)) := h_Mo_list l D b cI cJ cZ mki msz mle mel mme mal mic mil mio mab mae msa mlc mli mna mva mma mch mre mlv mwr msh mth mnv mns mfa mmo x y z 0 mki msz mle mel mme mal mic mil mio mab mae msa mlc mli mna mva mma mch mre mlv mwr msh 2 mnv mns mfa mmo (by
  unfold V_Mo_list
  have hb := Classical.not_not.mp hv1
  obtain ⟨r, k, hr, hk, rfl, rfl, -⟩ := idx_l (vp_sHas (N := 24) (Int32.le_iff_toInt_le.mp hpre.1) (and2.mp hb).1) (and2.mp (and2.mp hb).2).1
  have e : 4 * nI r + nI (29 + k) - 29 = nI (4 * r + k) := by
    rw [show (4 : Int32) = nI 4 from rfl, show (29 : Int32) = nI 29 from rfl, pk_mul, nI_add, pk_sub (by omega)]
    congr 1; omega
  have hx : vp_in (4 * nI r + nI (29 + k) - 29) 96 := by rw [e]; exact vp_in_nI (by omega) (by decide)
  repeat' (first | apply br_c | apply br_d | apply pre_and hx | intro _)
  all_goals (first | (simp_all [add_sub1, bI, upd, sHas, sIn, sKind]; done) | (exfalso; simp_all only [le_nlt, and2, bI_eq, bI_ne, bnot_t, ite_true, ite_false, if_true, if_false, eq_self, sIn_i, sHas_i, sKind_iff, not_and, Classical.not_not, not_true_eq_false, not_false_eq_true, true_and, and_true, false_and, and_false, true_implies, false_implies, implies_true, imp_false, imp_self, or_false, false_or, not_or, or_true, true_or]; done) | skip))
theorem c_Mo_list_3 (l : Launch) (D : va_G) (b : Nat → Nat) (cI cJ cZ : ClassId) (mki : Nat → Int32) (msz : Nat → Int64) (mle : Nat → Int32) (mel : Nat → Int32) (mme : Nat → Int32) (mal : Nat → Int32) (mic : Nat → Int32) (mil : Nat → Int32) (mio : Nat → Int32) (mab : Nat → Int32) (mae : Nat → Int32) (msa : Nat → Int32) (mlc : Nat → Int32) (mli : Nat → Int32) (mna : Nat → Int32) (mva : Nat → Int32) (mma : Nat → Int32) (mch : Nat → Int32) (mre : Nat → Int32) (mlv : Nat → Int32) (mwr : Nat → Int64) (msh : Nat → Int32) (mth : Int32) (mnv : Int32) (mns : Int32) (mfa : Int32) (mmo : Int32) (x : Int32) (y : Int32) (z : Int32) (hpre : (mns ≤ 24 ∧ ∀ j : Nat, j < 96 → ∃ b : Nat, b ≤ 3 ∧ mlc j = nI b)) (hv1 : ¬ (¬ (sHas mns x && (sIn y 29 32 && sHas mns z)) = true)) (hv2 : ¬ (mlc (4 * x + y - 29 : Int32).toNatClampNeg = 3)) : Wm (S := Unit) l y_Mo_list b_Mo_list 5 (some .int) 1 21 [.ref (b 0), .int x, .int y, .int z] D (tyA cI cJ cZ) (wM b cI cJ cZ mki msz mle mel mme mal mic mil mio mab mae msa mlc mli mna mva mma mch mre mlv mwr msh mth mnv mns mfa mmo) (fun _ => True) (fun _ => some (.int (mlc (4 * x + y - 29 : Int32).toNatClampNeg + 1))) (fun _ => (wM b cI cJ cZ mki msz mle mel mme mal mic mil mio mab mae msa (upd mlc (4 * x + y - 29 : Int32).toNatClampNeg (mlc (4 * x + y - 29 : Int32).toNatClampNeg + 1)) (upd mli (3 * (4 * x + y - 29) + mlc (4 * x + y - 29 : Int32).toNatClampNeg : Int32).toNatClampNeg z) mna mva mma mch mre mlv mwr msh 0 mnv mns mfa mmo)) := h_Mo_list l D b cI cJ cZ mki msz mle mel mme mal mic mil mio mab mae msa mlc mli mna mva mma mch mre mlv mwr msh mth mnv mns mfa mmo x y z (mlc (4 * x + y - 29 : Int32).toNatClampNeg + 1) mki msz mle mel mme mal mic mil mio mab mae msa (upd mlc (4 * x + y - 29 : Int32).toNatClampNeg (mlc (4 * x + y - 29 : Int32).toNatClampNeg + 1)) (upd mli (3 * (4 * x + y - 29) + mlc (4 * x + y - 29 : Int32).toNatClampNeg : Int32).toNatClampNeg z) mna mva mma mch mre mlv mwr msh 0 mnv mns mfa mmo (by
  unfold V_Mo_list
  have hb := Classical.not_not.mp hv1
  obtain ⟨r, k, hr, hk, rfl, rfl, -⟩ := idx_l (vp_sHas (N := 24) (Int32.le_iff_toInt_le.mp hpre.1) (and2.mp hb).1) (and2.mp (and2.mp hb).2).1
  have e : 4 * nI r + nI (29 + k) - 29 = nI (4 * r + k) := by
    rw [show (4 : Int32) = nI 4 from rfl, show (29 : Int32) = nI 29 from rfl, pk_mul, nI_add, pk_sub (by omega)]
    congr 1; omega
  have hx : vp_in (4 * nI r + nI (29 + k) - 29) 96 := by rw [e]; exact vp_in_nI (by omega) (by decide)
  have hy : vp_in (3 * (4 * nI r + nI (29 + k) - 29) + mlc (4 * nI r + nI (29 + k) - 29 : Int32).toNatClampNeg) 288 := by
    have hc : (nI (4 * r + k)).toNatClampNeg = 4 * r + k := nI_clamp (by omega)
    obtain ⟨b, hb3, hpb⟩ := hpre.2 (4 * r + k) (by omega)
    have hb8 : b ≠ 3 := fun e2 => hv2 (by rw [e, hc, hpb, e2]; rfl)
    rw [e, hc, hpb, show (3 : Int32) = nI 3 from rfl, pk_mul, nI_add]
    exact vp_in_nI (by omega) (by decide)
  repeat' (first | apply br_c | apply br_d | apply pre_and hx | apply pre_and hy | intro _)
  all_goals (first | (simp_all [add_sub1, bI, upd, sHas, sIn, sKind]; done) | (exfalso; simp_all only [le_nlt, and2, bI_eq, bI_ne, bnot_t, ite_true, ite_false, if_true, if_false, eq_self, sIn_i, sHas_i, sKind_iff, not_and, Classical.not_not, not_true_eq_false, not_false_eq_true, true_and, and_true, false_and, and_false, true_implies, false_implies, implies_true, imp_false, imp_self, or_false, false_or, not_or, or_true, true_or]; done) | skip))
theorem hd_Mo_list : y_Mo_list.cls ≠ "java/lang/invoke/MethodHandle" ∧ y_Mo_list.cls ≠ "java/lang/invoke/VarHandle" ∧ (parseMethodDescriptor y_Mo_list.desc).map (fun d => d.parameters.length) = some 3 := ⟨by decide, by decide, by decide +kernel⟩
def V_Mo_named (mki : Nat → Int32) (msz : Nat → Int64) (mle : Nat → Int32) (mel : Nat → Int32) (mme : Nat → Int32) (mal : Nat → Int32) (mic : Nat → Int32) (mil : Nat → Int32) (mio : Nat → Int32) (mab : Nat → Int32) (mae : Nat → Int32) (msa : Nat → Int32) (mlc : Nat → Int32) (mli : Nat → Int32) (mna : Nat → Int32) (mva : Nat → Int32) (mma : Nat → Int32) (mch : Nat → Int32) (mre : Nat → Int32) (mlv : Nat → Int32) (mwr : Nat → Int64) (msh : Nat → Int32) (mth : Int32) (mnv : Int32) (mns : Int32) (mfa : Int32) (mmo : Int32) (x : Int32) (y : Int32) (z : Int32) (u : Int32) (post : (Nat → Int32) → (Nat → Int64) → (Nat → Int32) → (Nat → Int32) → (Nat → Int32) → (Nat → Int32) → (Nat → Int32) → (Nat → Int32) → (Nat → Int32) → (Nat → Int32) → (Nat → Int32) → (Nat → Int32) → (Nat → Int32) → (Nat → Int32) → (Nat → Int32) → (Nat → Int32) → (Nat → Int32) → (Nat → Int32) → (Nat → Int32) → (Nat → Int32) → (Nat → Int64) → (Nat → Int32) → Int32 → Int32 → Int32 → Int32 → Int32 → Prop) : Prop :=
  ((¬ (bI (!(sHas mns x))) = 0 → post mki msz mle mel mme mal mic mil mio mab mae msa mlc mli mna mva mma mch mre mlv mwr msh 1 mnv mns mfa mmo) ∧ ((bI (!(sHas mns x))) = 0 → ((y < 33 → post mki msz mle mel mme mal mic mil mio mab mae msa mlc mli mna mva mma mch mre mlv mwr msh 1 mnv mns mfa mmo) ∧ (¬ y < 33 → ((35 < y → post mki msz mle mel mme mal mic mil mio mab mae msa mlc mli mna mva mma mch mre mlv mwr msh 1 mnv mns mfa mmo) ∧ (¬ 35 < y → ((¬ (bI (!(sIn z 0 11))) = 0 → post mki msz mle mel mme mal mic mil mio mab mae msa mlc mli mna mva mma mch mre mlv mwr msh 1 mnv mns mfa mmo) ∧ ((bI (!(sIn z 0 11))) = 0 → ((u = (-1) → (vp_in (((36 * x) + (12 * (y - 33))) + z) 864 ∧ post mki msz mle mel mme mal mic mil mio mab mae msa mlc mli (upd mna (((36 * x) + (12 * (y - 33))) + z : Int32).toNatClampNeg u) mva mma mch mre mlv mwr msh 0 mnv mns mfa mmo)) ∧ (¬ u = (-1) → ((¬ y = 35 → (((bI (!(sHas mns u))) = 0 → (vp_in (((36 * x) + (12 * (y - 33))) + z) 864 ∧ post mki msz mle mel mme mal mic mil mio mab mae msa mlc mli (upd mna (((36 * x) + (12 * (y - 33))) + z : Int32).toNatClampNeg u) mva mma mch mre mlv mwr msh 0 mnv mns mfa mmo)) ∧ (¬ (bI (!(sHas mns u))) = 0 → post mki msz mle mel mme mal mic mil mio mab mae msa mlc mli mna mva mma mch mre mlv mwr msh 1 mnv mns mfa mmo))) ∧ (y = 35 → ((u < 0 → post mki msz mle mel mme mal mic mil mio mab mae msa mlc mli mna mva mma mch mre mlv mwr msh 1 mnv mns mfa mmo) ∧ (¬ u < 0 → ((u ≤ 4095 → (vp_in (((36 * x) + (12 * (y - 33))) + z) 864 ∧ post mki msz mle mel mme mal mic mil mio mab mae msa mlc mli (upd mna (((36 * x) + (12 * (y - 33))) + z : Int32).toNatClampNeg u) mva mma mch mre mlv mwr msh 0 mnv mns mfa mmo)) ∧ (¬ u ≤ 4095 → post mki msz mle mel mme mal mic mil mio mab mae msa mlc mli mna mva mma mch mre mlv mwr msh 1 mnv mns mfa mmo))))))))))))))))
set_option maxHeartbeats 4000000 in
set_option maxRecDepth 100000 in
theorem g_Mo_named {p : Program} {l : Launch} {e : Env} {R : Room} {s : State} {m : MethodId} {args : Array Value} {below : List Frame} {meth : Method} {c : Code} {H : Heap} {locs : List Loc} {cells slots : Nat} {Q : State → Prop} {ls : Array Slot} {A : Nat → Prop} (S : CallFix p m c b_Mo_named 6 s args W0 R_Mo) (hRf : 1 ≤ R.frames) (hRl : 21 ≤ R.locals) (hRc : cells ≤ R.cells ∧ slots ≤ R.slots) (D : va_G) (b : Nat → Nat) (cI cJ cZ : ClassId) (mki : Nat → Int32) (msz : Nat → Int64) (mle : Nat → Int32) (mel : Nat → Int32) (mme : Nat → Int32) (mal : Nat → Int32) (mic : Nat → Int32) (mil : Nat → Int32) (mio : Nat → Int32) (mab : Nat → Int32) (mae : Nat → Int32) (msa : Nat → Int32) (mlc : Nat → Int32) (mli : Nat → Int32) (mna : Nat → Int32) (mva : Nat → Int32) (mma : Nat → Int32) (mch : Nat → Int32) (mre : Nat → Int32) (mlv : Nat → Int32) (mwr : Nat → Int64) (msh : Nat → Int32) (mth : Int32) (mnv : Int32) (mns : Int32) (mfa : Int32) (mmo : Int32) (x : Int32) (y : Int32) (z : Int32) (u : Int32) (hK : va_K D vwCl (tyA cI cJ cZ) s) (hP : va_P D vwCl (wM b cI cJ cZ mki msz mle mel mme mal mic mil mio mab mae msa mlc mli mna mva mma mch mre mlv mwr msh mth mnv mns mfa mmo) H) (hD : va_D A (wM b cI cJ cZ mki msz mle mel mme mal mic mil mio mab mae msa mlc mli mna mva mma mch mre mlv mwr msh mth mnv mns mfa mmo)) (hA : ∀ q, s.heap.size ≤ q → A q) (hS : va_S A s.heap H locs) (hl : lv_has ls 6 [(0, .ref (b 0)), (1, .int x), (2, .int y), (3, .int z), (4, .int u)]) {post : (Nat → Int32) → (Nat → Int64) → (Nat → Int32) → (Nat → Int32) → (Nat → Int32) → (Nat → Int32) → (Nat → Int32) → (Nat → Int32) → (Nat → Int32) → (Nat → Int32) → (Nat → Int32) → (Nat → Int32) → (Nat → Int32) → (Nat → Int32) → (Nat → Int32) → (Nat → Int32) → (Nat → Int32) → (Nat → Int32) → (Nat → Int32) → (Nat → Int32) → (Nat → Int64) → (Nat → Int32) → Int32 → Int32 → Int32 → Int32 → Int32 → Prop} (vc : V_Mo_named mki msz mle mel mme mal mic mil mio mab mae msa mlc mli mna mva mma mch mre mlv mwr msh mth mnv mns mfa mmo x y z u post)
    (hret : ∀ (mki : Nat → Int32) (msz : Nat → Int64) (mle : Nat → Int32) (mel : Nat → Int32) (mme : Nat → Int32) (mal : Nat → Int32) (mic : Nat → Int32) (mil : Nat → Int32) (mio : Nat → Int32) (mab : Nat → Int32) (mae : Nat → Int32) (msa : Nat → Int32) (mlc : Nat → Int32) (mli : Nat → Int32) (mna : Nat → Int32) (mva : Nat → Int32) (mma : Nat → Int32) (mch : Nat → Int32) (mre : Nat → Int32) (mlv : Nat → Int32) (mwr : Nat → Int64) (msh : Nat → Int32) (mth : Int32) (mnv : Int32) (mns : Int32) (mfa : Int32) (mmo : Int32) (ls : Array Slot) (pc : Nat) (H : Heap) (locs : List Loc), decode b_Mo_named pc = .ok (.return_, 1) → post mki msz mle mel mme mal mic mil mio mab mae msa mlc mli mna mva mma mch mre mlv mwr msh mth mnv mns mfa mmo → va_P D vwCl (wM b cI cJ cZ mki msz mle mel mme mal mic mil mio mab mae msa mlc mli mna mva mma mch mre mlv mwr msh mth mnv mns mfa mmo) H → va_D A (wM b cI cJ cZ mki msz mle mel mme mal mic mil mio mab mae msa mlc mli mna mva mma mch mre mlv mwr msh mth mnv mns mfa mmo) → va_S A s.heap H locs → W p l e R s m args below meth c H locs cells slots Q (F0 m pc ls [])) : W p l e R s m args below meth c H locs cells slots Q (F0 m 0 ls []) := by
  have hx := S.1
  have hb := S.2.1
  have hown := S.2.2.2.1
  have hts := S.2.2.2.2
  unfold V_Mo_named at vc
  refine lv_aload_n hx hb d_Mo_named_0 rfl (lv_at hl 0 rfl) ?_
  refine lv_iload_n hx hb d_Mo_named_1 rfl (lv_at hl 1 rfl) ?_
  refine pc_V (As := [.int x]) (rest := []) S (c_Mo_noSchema l D b cI cJ cZ mki msz mle mel mme mal mic mil mio mab mae msa mlc mli mna mva mma mch mre mlv mwr msh mth mnv mns mfa mmo x) wB_blind k_Mo_noSchema i_Mo_noSchema e_Mo_noSchema o_Mo ml_Mo_131 hd_Mo_noSchema (Nat.le_trans (by decide) hRf) (Nat.le_trans (by decide) hRl) hRc (va_recv hK hP (q0 := 0) (ci := 6) rfl rfl) (wB_at hP hK) hl.1 rfl (Nat.le_of_ble_eq_true rfl) d_Mo_named_2 ?_
  refine lv_if_ne (tgt := 65) hx hb d_Mo_named_5 (by decide) (fun h => ?_) (fun h => ?_)
  · have vc := vc.1 h
    refine lv_iconst (v := 1) hx hb d_Mo_named_65 (by decide) ?_
    refine lv_goto (tgt := 70) hx hb d_Mo_named_66 (by decide) ?_
    refine lv_istore hx hb d_Mo_named_70 hl (by decide) (lv' := [(5, .int 1), (0, .ref (b 0)), (1, .int x), (2, .int y), (3, .int z), (4, .int u)]) rfl (fun ls hl => ?_)
    refine lv_aload_n hx hb d_Mo_named_72 rfl (lv_at hl 1 rfl) ?_
    refine lv_iload hx hb d_Mo_named_73 (lv_at hl 0 rfl) ?_
    refine lv_if_eq (tgt := 82) hx hb d_Mo_named_75 (by decide) (fun h => ?_) (fun h => ?_)
    · exact absurd h (by decide)
    · skip
      refine lv_iconst (v := 1) hx hb d_Mo_named_78 (by decide) ?_
      refine lv_goto (tgt := 83) hx hb d_Mo_named_79 (by decide) ?_
      refine va_put (D := D) (ci := 6) (v := .int 1) (ty := .int) (C := R_Mo) (T := F_Mo) (N := 27) hx hb hts in_Mo t_Mo t_Mo_ok n_Mo hown hK hP hD hS 0 rfl rfl 0 (by decide) (hts _ fl_Mo_78) (fun _ h => h) rfl (by decide +kernel) rfl rfl (Nat.le_of_ble_eq_true rfl) d_Mo_named_83 (fun H locs hP hD hS => ?_)
      have hP : va_P D vwCl (wM b cI cJ cZ mki msz mle mel mme mal mic mil mio mab mae msa mlc mli mna mva mma mch mre mlv mwr msh 1 mnv mns mfa mmo) H := hP
      have hD : va_D A (wM b cI cJ cZ mki msz mle mel mme mal mic mil mio mab mae msa mlc mli mna mva mma mch mre mlv mwr msh 1 mnv mns mfa mmo) := hD
      refine lv_iload hx hb d_Mo_named_86 (lv_at hl 0 rfl) ?_
      refine lv_if_ne (tgt := 112) hx hb d_Mo_named_88 (by decide) (fun h => ?_) (fun h => ?_)
      · skip
        exact hret _ _ _ _ _ _ _ _ _ _ _ _ _ _ _ _ _ _ _ _ _ _ _ _ _ _ _ ls _ H locs d_Mo_named_112 vc hP hD hS
      · exact absurd h (by decide)
  · have vc := vc.2 h
    refine lv_iload_n hx hb d_Mo_named_8 rfl (lv_at hl 2 rfl) ?_
    refine lv_bipush (v := 33) hx hb d_Mo_named_9 (by decide) ?_
    refine lv_icmp_lt (tgt := 65) hx hb d_Mo_named_11 (by decide) (fun h => ?_) (fun h => ?_)
    · have vc := vc.1 h
      refine lv_iconst (v := 1) hx hb d_Mo_named_65 (by decide) ?_
      refine lv_goto (tgt := 70) hx hb d_Mo_named_66 (by decide) ?_
      refine lv_istore hx hb d_Mo_named_70 hl (by decide) (lv' := [(5, .int 1), (0, .ref (b 0)), (1, .int x), (2, .int y), (3, .int z), (4, .int u)]) rfl (fun ls hl => ?_)
      refine lv_aload_n hx hb d_Mo_named_72 rfl (lv_at hl 1 rfl) ?_
      refine lv_iload hx hb d_Mo_named_73 (lv_at hl 0 rfl) ?_
      refine lv_if_eq (tgt := 82) hx hb d_Mo_named_75 (by decide) (fun h => ?_) (fun h => ?_)
      · exact absurd h (by decide)
      · skip
        refine lv_iconst (v := 1) hx hb d_Mo_named_78 (by decide) ?_
        refine lv_goto (tgt := 83) hx hb d_Mo_named_79 (by decide) ?_
        refine va_put (D := D) (ci := 6) (v := .int 1) (ty := .int) (C := R_Mo) (T := F_Mo) (N := 27) hx hb hts in_Mo t_Mo t_Mo_ok n_Mo hown hK hP hD hS 0 rfl rfl 0 (by decide) (hts _ fl_Mo_78) (fun _ h => h) rfl (by decide +kernel) rfl rfl (Nat.le_of_ble_eq_true rfl) d_Mo_named_83 (fun H locs hP hD hS => ?_)
        have hP : va_P D vwCl (wM b cI cJ cZ mki msz mle mel mme mal mic mil mio mab mae msa mlc mli mna mva mma mch mre mlv mwr msh 1 mnv mns mfa mmo) H := hP
        have hD : va_D A (wM b cI cJ cZ mki msz mle mel mme mal mic mil mio mab mae msa mlc mli mna mva mma mch mre mlv mwr msh 1 mnv mns mfa mmo) := hD
        refine lv_iload hx hb d_Mo_named_86 (lv_at hl 0 rfl) ?_
        refine lv_if_ne (tgt := 112) hx hb d_Mo_named_88 (by decide) (fun h => ?_) (fun h => ?_)
        · skip
          exact hret _ _ _ _ _ _ _ _ _ _ _ _ _ _ _ _ _ _ _ _ _ _ _ _ _ _ _ ls _ H locs d_Mo_named_112 vc hP hD hS
        · exact absurd h (by decide)
    · have vc := vc.2 h
      refine lv_iload_n hx hb d_Mo_named_14 rfl (lv_at hl 2 rfl) ?_
      refine lv_bipush (v := 35) hx hb d_Mo_named_15 (by decide) ?_
      refine lv_icmp_gt (tgt := 65) hx hb d_Mo_named_17 (by decide) (fun h => ?_) (fun h => ?_)
      · have vc := vc.1 h
        refine lv_iconst (v := 1) hx hb d_Mo_named_65 (by decide) ?_
        refine lv_goto (tgt := 70) hx hb d_Mo_named_66 (by decide) ?_
        refine lv_istore hx hb d_Mo_named_70 hl (by decide) (lv' := [(5, .int 1), (0, .ref (b 0)), (1, .int x), (2, .int y), (3, .int z), (4, .int u)]) rfl (fun ls hl => ?_)
        refine lv_aload_n hx hb d_Mo_named_72 rfl (lv_at hl 1 rfl) ?_
        refine lv_iload hx hb d_Mo_named_73 (lv_at hl 0 rfl) ?_
        refine lv_if_eq (tgt := 82) hx hb d_Mo_named_75 (by decide) (fun h => ?_) (fun h => ?_)
        · exact absurd h (by decide)
        · skip
          refine lv_iconst (v := 1) hx hb d_Mo_named_78 (by decide) ?_
          refine lv_goto (tgt := 83) hx hb d_Mo_named_79 (by decide) ?_
          refine va_put (D := D) (ci := 6) (v := .int 1) (ty := .int) (C := R_Mo) (T := F_Mo) (N := 27) hx hb hts in_Mo t_Mo t_Mo_ok n_Mo hown hK hP hD hS 0 rfl rfl 0 (by decide) (hts _ fl_Mo_78) (fun _ h => h) rfl (by decide +kernel) rfl rfl (Nat.le_of_ble_eq_true rfl) d_Mo_named_83 (fun H locs hP hD hS => ?_)
          have hP : va_P D vwCl (wM b cI cJ cZ mki msz mle mel mme mal mic mil mio mab mae msa mlc mli mna mva mma mch mre mlv mwr msh 1 mnv mns mfa mmo) H := hP
          have hD : va_D A (wM b cI cJ cZ mki msz mle mel mme mal mic mil mio mab mae msa mlc mli mna mva mma mch mre mlv mwr msh 1 mnv mns mfa mmo) := hD
          refine lv_iload hx hb d_Mo_named_86 (lv_at hl 0 rfl) ?_
          refine lv_if_ne (tgt := 112) hx hb d_Mo_named_88 (by decide) (fun h => ?_) (fun h => ?_)
          · skip
            exact hret _ _ _ _ _ _ _ _ _ _ _ _ _ _ _ _ _ _ _ _ _ _ _ _ _ _ _ ls _ H locs d_Mo_named_112 vc hP hD hS
          · exact absurd h (by decide)
      · have vc := vc.2 h
        refine lv_aload_n hx hb d_Mo_named_20 rfl (lv_at hl 0 rfl) ?_
        refine lv_iload_n hx hb d_Mo_named_21 rfl (lv_at hl 3 rfl) ?_
        refine pc_V (As := [.int z]) (rest := []) S (c_Mo_noName l D b cI cJ cZ mki msz mle mel mme mal mic mil mio mab mae msa mlc mli mna mva mma mch mre mlv mwr msh mth mnv mns mfa mmo z) wB_blind k_Mo_noName i_Mo_noName e_Mo_noName o_Mo ml_Mo_108 hd_Mo_noName (Nat.le_trans (by decide) hRf) (Nat.le_trans (by decide) hRl) hRc (va_recv hK hP (q0 := 0) (ci := 6) rfl rfl) (wB_at hP hK) hl.1 rfl (Nat.le_of_ble_eq_true rfl) d_Mo_named_22 ?_
        refine lv_if_ne (tgt := 65) hx hb d_Mo_named_25 (by decide) (fun h => ?_) (fun h => ?_)
        · have vc := vc.1 h
          refine lv_iconst (v := 1) hx hb d_Mo_named_65 (by decide) ?_
          refine lv_goto (tgt := 70) hx hb d_Mo_named_66 (by decide) ?_
          refine lv_istore hx hb d_Mo_named_70 hl (by decide) (lv' := [(5, .int 1), (0, .ref (b 0)), (1, .int x), (2, .int y), (3, .int z), (4, .int u)]) rfl (fun ls hl => ?_)
          refine lv_aload_n hx hb d_Mo_named_72 rfl (lv_at hl 1 rfl) ?_
          refine lv_iload hx hb d_Mo_named_73 (lv_at hl 0 rfl) ?_
          refine lv_if_eq (tgt := 82) hx hb d_Mo_named_75 (by decide) (fun h => ?_) (fun h => ?_)
          · exact absurd h (by decide)
          · skip
            refine lv_iconst (v := 1) hx hb d_Mo_named_78 (by decide) ?_
            refine lv_goto (tgt := 83) hx hb d_Mo_named_79 (by decide) ?_
            refine va_put (D := D) (ci := 6) (v := .int 1) (ty := .int) (C := R_Mo) (T := F_Mo) (N := 27) hx hb hts in_Mo t_Mo t_Mo_ok n_Mo hown hK hP hD hS 0 rfl rfl 0 (by decide) (hts _ fl_Mo_78) (fun _ h => h) rfl (by decide +kernel) rfl rfl (Nat.le_of_ble_eq_true rfl) d_Mo_named_83 (fun H locs hP hD hS => ?_)
            have hP : va_P D vwCl (wM b cI cJ cZ mki msz mle mel mme mal mic mil mio mab mae msa mlc mli mna mva mma mch mre mlv mwr msh 1 mnv mns mfa mmo) H := hP
            have hD : va_D A (wM b cI cJ cZ mki msz mle mel mme mal mic mil mio mab mae msa mlc mli mna mva mma mch mre mlv mwr msh 1 mnv mns mfa mmo) := hD
            refine lv_iload hx hb d_Mo_named_86 (lv_at hl 0 rfl) ?_
            refine lv_if_ne (tgt := 112) hx hb d_Mo_named_88 (by decide) (fun h => ?_) (fun h => ?_)
            · skip
              exact hret _ _ _ _ _ _ _ _ _ _ _ _ _ _ _ _ _ _ _ _ _ _ _ _ _ _ _ ls _ H locs d_Mo_named_112 vc hP hD hS
            · exact absurd h (by decide)
        · have vc := vc.2 h
          refine lv_iload hx hb d_Mo_named_28 (lv_at hl 4 rfl) ?_
          refine lv_iconst (v := (-1)) hx hb d_Mo_named_30 (by decide) ?_
          refine lv_icmp_eq (tgt := 69) hx hb d_Mo_named_31 (by decide) (fun h => ?_) (fun h => ?_)
          · have vc := vc.1 h
            refine lv_iconst (v := 0) hx hb d_Mo_named_69 (by decide) ?_
            refine lv_istore hx hb d_Mo_named_70 hl (by decide) (lv' := [(5, .int 0), (0, .ref (b 0)), (1, .int x), (2, .int y), (3, .int z), (4, .int u)]) rfl (fun ls hl => ?_)
            refine lv_aload_n hx hb d_Mo_named_72 rfl (lv_at hl 1 rfl) ?_
            refine lv_iload hx hb d_Mo_named_73 (lv_at hl 0 rfl) ?_
            refine lv_if_eq (tgt := 82) hx hb d_Mo_named_75 (by decide) (fun h => ?_) (fun h => ?_)
            · skip
              refine lv_iconst (v := 0) hx hb d_Mo_named_82 (by decide) ?_
              refine va_put (D := D) (ci := 6) (v := .int 0) (ty := .int) (C := R_Mo) (T := F_Mo) (N := 27) hx hb hts in_Mo t_Mo t_Mo_ok n_Mo hown hK hP hD hS 0 rfl rfl 0 (by decide) (hts _ fl_Mo_78) (fun _ h => h) rfl (by decide +kernel) rfl rfl (Nat.le_of_ble_eq_true rfl) d_Mo_named_83 (fun H locs hP hD hS => ?_)
              have hP : va_P D vwCl (wM b cI cJ cZ mki msz mle mel mme mal mic mil mio mab mae msa mlc mli mna mva mma mch mre mlv mwr msh 0 mnv mns mfa mmo) H := hP
              have hD : va_D A (wM b cI cJ cZ mki msz mle mel mme mal mic mil mio mab mae msa mlc mli mna mva mma mch mre mlv mwr msh 0 mnv mns mfa mmo) := hD
              refine lv_iload hx hb d_Mo_named_86 (lv_at hl 0 rfl) ?_
              refine lv_if_ne (tgt := 112) hx hb d_Mo_named_88 (by decide) (fun h => ?_) (fun h => ?_)
              · exact absurd h (by decide)
              · skip
                refine lv_aload_n hx hb d_Mo_named_91 rfl (lv_at hl 1 rfl) ?_
                refine va_get (D := D) (ci := 6) (v := .ref (b 15)) (C := R_Mo) (T := F_Mo) (N := 27) hx hb hts in_Mo hown hK hP 0 rfl rfl 17 (by decide) (hts _ fl_Mo_54) (fun _ h => h) rfl d_Mo_named_92 ?_
                refine lv_bipush (v := 36) hx hb d_Mo_named_95 (by decide) ?_
                refine lv_iload_n hx hb d_Mo_named_97 rfl (lv_at hl 2 rfl) ?_
                refine lv_imul hx hb d_Mo_named_98 ?_
                refine lv_bipush (v := 12) hx hb d_Mo_named_99 (by decide) ?_
                refine lv_iload_n hx hb d_Mo_named_101 rfl (lv_at hl 3 rfl) ?_
                refine lv_bipush (v := 33) hx hb d_Mo_named_102 (by decide) ?_
                refine lv_isub hx hb d_Mo_named_104 ?_
                refine lv_imul hx hb d_Mo_named_105 ?_
                refine lv_iadd hx hb d_Mo_named_106 ?_
                refine lv_iload_n hx hb d_Mo_named_107 rfl (lv_at hl 4 rfl) ?_
                refine lv_iadd hx hb d_Mo_named_108 ?_
                refine lv_iload hx hb d_Mo_named_109 (lv_at hl 5 rfl) ?_
                obtain ⟨vcb, vc⟩ := vc
                refine va_iast hx hb hK hP hD hS 15 0 rfl rfl vcb d_Mo_named_111 (fun H locs hP hD hS => ?_)
                have hP : va_P D vwCl (wM b cI cJ cZ mki msz mle mel mme mal mic mil mio mab mae msa mlc mli (upd mna (((36 * x) + (12 * (y - 33))) + z : Int32).toNatClampNeg u) mva mma mch mre mlv mwr msh 0 mnv mns mfa mmo) H := hP
                have hD : va_D A (wM b cI cJ cZ mki msz mle mel mme mal mic mil mio mab mae msa mlc mli (upd mna (((36 * x) + (12 * (y - 33))) + z : Int32).toNatClampNeg u) mva mma mch mre mlv mwr msh 0 mnv mns mfa mmo) := hD
                exact hret _ _ _ _ _ _ _ _ _ _ _ _ _ _ _ _ _ _ _ _ _ _ _ _ _ _ _ ls _ H locs d_Mo_named_112 vc hP hD hS
            · exact absurd h (by decide)
          · have vc := vc.2 h
            refine lv_iload_n hx hb d_Mo_named_34 rfl (lv_at hl 2 rfl) ?_
            refine lv_bipush (v := 35) hx hb d_Mo_named_35 (by decide) ?_
            refine lv_icmp_ne (tgt := 56) hx hb d_Mo_named_37 (by decide) (fun h => ?_) (fun h => ?_)
            · have vc := vc.1 h
              refine lv_aload_n hx hb d_Mo_named_56 rfl (lv_at hl 0 rfl) ?_
              refine lv_iload hx hb d_Mo_named_57 (lv_at hl 4 rfl) ?_
              refine pc_V (As := [.int u]) (rest := []) S (c_Mo_noSchema l D b cI cJ cZ mki msz mle mel mme mal mic mil mio mab mae msa mlc mli mna mva mma mch mre mlv mwr msh mth mnv mns mfa mmo u) wB_blind k_Mo_noSchema i_Mo_noSchema e_Mo_noSchema o_Mo ml_Mo_131 hd_Mo_noSchema (Nat.le_trans (by decide) hRf) (Nat.le_trans (by decide) hRl) hRc (va_recv hK hP (q0 := 0) (ci := 6) rfl rfl) (wB_at hP hK) hl.1 rfl (Nat.le_of_ble_eq_true rfl) d_Mo_named_59 ?_
              refine lv_if_eq (tgt := 69) hx hb d_Mo_named_62 (by decide) (fun h => ?_) (fun h => ?_)
              · have vc := vc.1 h
                refine lv_iconst (v := 0) hx hb d_Mo_named_69 (by decide) ?_
                refine lv_istore hx hb d_Mo_named_70 hl (by decide) (lv' := [(5, .int 0), (0, .ref (b 0)), (1, .int x), (2, .int y), (3, .int z), (4, .int u)]) rfl (fun ls hl => ?_)
                refine lv_aload_n hx hb d_Mo_named_72 rfl (lv_at hl 1 rfl) ?_
                refine lv_iload hx hb d_Mo_named_73 (lv_at hl 0 rfl) ?_
                refine lv_if_eq (tgt := 82) hx hb d_Mo_named_75 (by decide) (fun h => ?_) (fun h => ?_)
                · skip
                  refine lv_iconst (v := 0) hx hb d_Mo_named_82 (by decide) ?_
                  refine va_put (D := D) (ci := 6) (v := .int 0) (ty := .int) (C := R_Mo) (T := F_Mo) (N := 27) hx hb hts in_Mo t_Mo t_Mo_ok n_Mo hown hK hP hD hS 0 rfl rfl 0 (by decide) (hts _ fl_Mo_78) (fun _ h => h) rfl (by decide +kernel) rfl rfl (Nat.le_of_ble_eq_true rfl) d_Mo_named_83 (fun H locs hP hD hS => ?_)
                  have hP : va_P D vwCl (wM b cI cJ cZ mki msz mle mel mme mal mic mil mio mab mae msa mlc mli mna mva mma mch mre mlv mwr msh 0 mnv mns mfa mmo) H := hP
                  have hD : va_D A (wM b cI cJ cZ mki msz mle mel mme mal mic mil mio mab mae msa mlc mli mna mva mma mch mre mlv mwr msh 0 mnv mns mfa mmo) := hD
                  refine lv_iload hx hb d_Mo_named_86 (lv_at hl 0 rfl) ?_
                  refine lv_if_ne (tgt := 112) hx hb d_Mo_named_88 (by decide) (fun h => ?_) (fun h => ?_)
                  · exact absurd h (by decide)
                  · skip
                    refine lv_aload_n hx hb d_Mo_named_91 rfl (lv_at hl 1 rfl) ?_
                    refine va_get (D := D) (ci := 6) (v := .ref (b 15)) (C := R_Mo) (T := F_Mo) (N := 27) hx hb hts in_Mo hown hK hP 0 rfl rfl 17 (by decide) (hts _ fl_Mo_54) (fun _ h => h) rfl d_Mo_named_92 ?_
                    refine lv_bipush (v := 36) hx hb d_Mo_named_95 (by decide) ?_
                    refine lv_iload_n hx hb d_Mo_named_97 rfl (lv_at hl 2 rfl) ?_
                    refine lv_imul hx hb d_Mo_named_98 ?_
                    refine lv_bipush (v := 12) hx hb d_Mo_named_99 (by decide) ?_
                    refine lv_iload_n hx hb d_Mo_named_101 rfl (lv_at hl 3 rfl) ?_
                    refine lv_bipush (v := 33) hx hb d_Mo_named_102 (by decide) ?_
                    refine lv_isub hx hb d_Mo_named_104 ?_
                    refine lv_imul hx hb d_Mo_named_105 ?_
                    refine lv_iadd hx hb d_Mo_named_106 ?_
                    refine lv_iload_n hx hb d_Mo_named_107 rfl (lv_at hl 4 rfl) ?_
                    refine lv_iadd hx hb d_Mo_named_108 ?_
                    refine lv_iload hx hb d_Mo_named_109 (lv_at hl 5 rfl) ?_
                    obtain ⟨vcb, vc⟩ := vc
                    refine va_iast hx hb hK hP hD hS 15 0 rfl rfl vcb d_Mo_named_111 (fun H locs hP hD hS => ?_)
                    have hP : va_P D vwCl (wM b cI cJ cZ mki msz mle mel mme mal mic mil mio mab mae msa mlc mli (upd mna (((36 * x) + (12 * (y - 33))) + z : Int32).toNatClampNeg u) mva mma mch mre mlv mwr msh 0 mnv mns mfa mmo) H := hP
                    have hD : va_D A (wM b cI cJ cZ mki msz mle mel mme mal mic mil mio mab mae msa mlc mli (upd mna (((36 * x) + (12 * (y - 33))) + z : Int32).toNatClampNeg u) mva mma mch mre mlv mwr msh 0 mnv mns mfa mmo) := hD
                    exact hret _ _ _ _ _ _ _ _ _ _ _ _ _ _ _ _ _ _ _ _ _ _ _ _ _ _ _ ls _ H locs d_Mo_named_112 vc hP hD hS
                · exact absurd h (by decide)
              · have vc := vc.2 h
                refine lv_iconst (v := 1) hx hb d_Mo_named_65 (by decide) ?_
                refine lv_goto (tgt := 70) hx hb d_Mo_named_66 (by decide) ?_
                refine lv_istore hx hb d_Mo_named_70 hl (by decide) (lv' := [(5, .int 1), (0, .ref (b 0)), (1, .int x), (2, .int y), (3, .int z), (4, .int u)]) rfl (fun ls hl => ?_)
                refine lv_aload_n hx hb d_Mo_named_72 rfl (lv_at hl 1 rfl) ?_
                refine lv_iload hx hb d_Mo_named_73 (lv_at hl 0 rfl) ?_
                refine lv_if_eq (tgt := 82) hx hb d_Mo_named_75 (by decide) (fun h => ?_) (fun h => ?_)
                · exact absurd h (by decide)
                · skip
                  refine lv_iconst (v := 1) hx hb d_Mo_named_78 (by decide) ?_
                  refine lv_goto (tgt := 83) hx hb d_Mo_named_79 (by decide) ?_
                  refine va_put (D := D) (ci := 6) (v := .int 1) (ty := .int) (C := R_Mo) (T := F_Mo) (N := 27) hx hb hts in_Mo t_Mo t_Mo_ok n_Mo hown hK hP hD hS 0 rfl rfl 0 (by decide) (hts _ fl_Mo_78) (fun _ h => h) rfl (by decide +kernel) rfl rfl (Nat.le_of_ble_eq_true rfl) d_Mo_named_83 (fun H locs hP hD hS => ?_)
                  have hP : va_P D vwCl (wM b cI cJ cZ mki msz mle mel mme mal mic mil mio mab mae msa mlc mli mna mva mma mch mre mlv mwr msh 1 mnv mns mfa mmo) H := hP
                  have hD : va_D A (wM b cI cJ cZ mki msz mle mel mme mal mic mil mio mab mae msa mlc mli mna mva mma mch mre mlv mwr msh 1 mnv mns mfa mmo) := hD
                  refine lv_iload hx hb d_Mo_named_86 (lv_at hl 0 rfl) ?_
                  refine lv_if_ne (tgt := 112) hx hb d_Mo_named_88 (by decide) (fun h => ?_) (fun h => ?_)
                  · skip
                    exact hret _ _ _ _ _ _ _ _ _ _ _ _ _ _ _ _ _ _ _ _ _ _ _ _ _ _ _ ls _ H locs d_Mo_named_112 vc hP hD hS
                  · exact absurd h (by decide)
            · have vc := vc.2 h
              refine lv_iload hx hb d_Mo_named_40 (lv_at hl 4 rfl) ?_
              refine lv_if_lt (tgt := 65) hx hb d_Mo_named_42 (by decide) (fun h => ?_) (fun h => ?_)
              · have vc := vc.1 h
                refine lv_iconst (v := 1) hx hb d_Mo_named_65 (by decide) ?_
                refine lv_goto (tgt := 70) hx hb d_Mo_named_66 (by decide) ?_
                refine lv_istore hx hb d_Mo_named_70 hl (by decide) (lv' := [(5, .int 1), (0, .ref (b 0)), (1, .int x), (2, .int y), (3, .int z), (4, .int u)]) rfl (fun ls hl => ?_)
                refine lv_aload_n hx hb d_Mo_named_72 rfl (lv_at hl 1 rfl) ?_
                refine lv_iload hx hb d_Mo_named_73 (lv_at hl 0 rfl) ?_
                refine lv_if_eq (tgt := 82) hx hb d_Mo_named_75 (by decide) (fun h => ?_) (fun h => ?_)
                · exact absurd h (by decide)
                · skip
                  refine lv_iconst (v := 1) hx hb d_Mo_named_78 (by decide) ?_
                  refine lv_goto (tgt := 83) hx hb d_Mo_named_79 (by decide) ?_
                  refine va_put (D := D) (ci := 6) (v := .int 1) (ty := .int) (C := R_Mo) (T := F_Mo) (N := 27) hx hb hts in_Mo t_Mo t_Mo_ok n_Mo hown hK hP hD hS 0 rfl rfl 0 (by decide) (hts _ fl_Mo_78) (fun _ h => h) rfl (by decide +kernel) rfl rfl (Nat.le_of_ble_eq_true rfl) d_Mo_named_83 (fun H locs hP hD hS => ?_)
                  have hP : va_P D vwCl (wM b cI cJ cZ mki msz mle mel mme mal mic mil mio mab mae msa mlc mli mna mva mma mch mre mlv mwr msh 1 mnv mns mfa mmo) H := hP
                  have hD : va_D A (wM b cI cJ cZ mki msz mle mel mme mal mic mil mio mab mae msa mlc mli mna mva mma mch mre mlv mwr msh 1 mnv mns mfa mmo) := hD
                  refine lv_iload hx hb d_Mo_named_86 (lv_at hl 0 rfl) ?_
                  refine lv_if_ne (tgt := 112) hx hb d_Mo_named_88 (by decide) (fun h => ?_) (fun h => ?_)
                  · skip
                    exact hret _ _ _ _ _ _ _ _ _ _ _ _ _ _ _ _ _ _ _ _ _ _ _ _ _ _ _ ls _ H locs d_Mo_named_112 vc hP hD hS
                  · exact absurd h (by decide)
              · have vc := vc.2 h
                refine lv_iload hx hb d_Mo_named_45 (lv_at hl 4 rfl) ?_
                refine lv_sipush (v := 4095) hx hb d_Mo_named_47 (by decide) ?_
                refine lv_icmp_le (tgt := 69) hx hb d_Mo_named_50 (by decide) (fun h => ?_) (fun h => ?_)
                · have vc := vc.1 h
                  refine lv_iconst (v := 0) hx hb d_Mo_named_69 (by decide) ?_
                  refine lv_istore hx hb d_Mo_named_70 hl (by decide) (lv' := [(5, .int 0), (0, .ref (b 0)), (1, .int x), (2, .int y), (3, .int z), (4, .int u)]) rfl (fun ls hl => ?_)
                  refine lv_aload_n hx hb d_Mo_named_72 rfl (lv_at hl 1 rfl) ?_
                  refine lv_iload hx hb d_Mo_named_73 (lv_at hl 0 rfl) ?_
                  refine lv_if_eq (tgt := 82) hx hb d_Mo_named_75 (by decide) (fun h => ?_) (fun h => ?_)
                  · skip
                    refine lv_iconst (v := 0) hx hb d_Mo_named_82 (by decide) ?_
                    refine va_put (D := D) (ci := 6) (v := .int 0) (ty := .int) (C := R_Mo) (T := F_Mo) (N := 27) hx hb hts in_Mo t_Mo t_Mo_ok n_Mo hown hK hP hD hS 0 rfl rfl 0 (by decide) (hts _ fl_Mo_78) (fun _ h => h) rfl (by decide +kernel) rfl rfl (Nat.le_of_ble_eq_true rfl) d_Mo_named_83 (fun H locs hP hD hS => ?_)
                    have hP : va_P D vwCl (wM b cI cJ cZ mki msz mle mel mme mal mic mil mio mab mae msa mlc mli mna mva mma mch mre mlv mwr msh 0 mnv mns mfa mmo) H := hP
                    have hD : va_D A (wM b cI cJ cZ mki msz mle mel mme mal mic mil mio mab mae msa mlc mli mna mva mma mch mre mlv mwr msh 0 mnv mns mfa mmo) := hD
                    refine lv_iload hx hb d_Mo_named_86 (lv_at hl 0 rfl) ?_
                    refine lv_if_ne (tgt := 112) hx hb d_Mo_named_88 (by decide) (fun h => ?_) (fun h => ?_)
                    · exact absurd h (by decide)
                    · skip
                      refine lv_aload_n hx hb d_Mo_named_91 rfl (lv_at hl 1 rfl) ?_
                      refine va_get (D := D) (ci := 6) (v := .ref (b 15)) (C := R_Mo) (T := F_Mo) (N := 27) hx hb hts in_Mo hown hK hP 0 rfl rfl 17 (by decide) (hts _ fl_Mo_54) (fun _ h => h) rfl d_Mo_named_92 ?_
                      refine lv_bipush (v := 36) hx hb d_Mo_named_95 (by decide) ?_
                      refine lv_iload_n hx hb d_Mo_named_97 rfl (lv_at hl 2 rfl) ?_
                      refine lv_imul hx hb d_Mo_named_98 ?_
                      refine lv_bipush (v := 12) hx hb d_Mo_named_99 (by decide) ?_
                      refine lv_iload_n hx hb d_Mo_named_101 rfl (lv_at hl 3 rfl) ?_
                      refine lv_bipush (v := 33) hx hb d_Mo_named_102 (by decide) ?_
                      refine lv_isub hx hb d_Mo_named_104 ?_
                      refine lv_imul hx hb d_Mo_named_105 ?_
                      refine lv_iadd hx hb d_Mo_named_106 ?_
                      refine lv_iload_n hx hb d_Mo_named_107 rfl (lv_at hl 4 rfl) ?_
                      refine lv_iadd hx hb d_Mo_named_108 ?_
                      refine lv_iload hx hb d_Mo_named_109 (lv_at hl 5 rfl) ?_
                      obtain ⟨vcb, vc⟩ := vc
                      refine va_iast hx hb hK hP hD hS 15 0 rfl rfl vcb d_Mo_named_111 (fun H locs hP hD hS => ?_)
                      have hP : va_P D vwCl (wM b cI cJ cZ mki msz mle mel mme mal mic mil mio mab mae msa mlc mli (upd mna (((36 * x) + (12 * (y - 33))) + z : Int32).toNatClampNeg u) mva mma mch mre mlv mwr msh 0 mnv mns mfa mmo) H := hP
                      have hD : va_D A (wM b cI cJ cZ mki msz mle mel mme mal mic mil mio mab mae msa mlc mli (upd mna (((36 * x) + (12 * (y - 33))) + z : Int32).toNatClampNeg u) mva mma mch mre mlv mwr msh 0 mnv mns mfa mmo) := hD
                      exact hret _ _ _ _ _ _ _ _ _ _ _ _ _ _ _ _ _ _ _ _ _ _ _ _ _ _ _ ls _ H locs d_Mo_named_112 vc hP hD hS
                  · exact absurd h (by decide)
                · have vc := vc.2 h
                  refine lv_goto (tgt := 65) hx hb d_Mo_named_53 (by decide) ?_
                  refine lv_iconst (v := 1) hx hb d_Mo_named_65 (by decide) ?_
                  refine lv_goto (tgt := 70) hx hb d_Mo_named_66 (by decide) ?_
                  refine lv_istore hx hb d_Mo_named_70 hl (by decide) (lv' := [(5, .int 1), (0, .ref (b 0)), (1, .int x), (2, .int y), (3, .int z), (4, .int u)]) rfl (fun ls hl => ?_)
                  refine lv_aload_n hx hb d_Mo_named_72 rfl (lv_at hl 1 rfl) ?_
                  refine lv_iload hx hb d_Mo_named_73 (lv_at hl 0 rfl) ?_
                  refine lv_if_eq (tgt := 82) hx hb d_Mo_named_75 (by decide) (fun h => ?_) (fun h => ?_)
                  · exact absurd h (by decide)
                  · skip
                    refine lv_iconst (v := 1) hx hb d_Mo_named_78 (by decide) ?_
                    refine lv_goto (tgt := 83) hx hb d_Mo_named_79 (by decide) ?_
                    refine va_put (D := D) (ci := 6) (v := .int 1) (ty := .int) (C := R_Mo) (T := F_Mo) (N := 27) hx hb hts in_Mo t_Mo t_Mo_ok n_Mo hown hK hP hD hS 0 rfl rfl 0 (by decide) (hts _ fl_Mo_78) (fun _ h => h) rfl (by decide +kernel) rfl rfl (Nat.le_of_ble_eq_true rfl) d_Mo_named_83 (fun H locs hP hD hS => ?_)
                    have hP : va_P D vwCl (wM b cI cJ cZ mki msz mle mel mme mal mic mil mio mab mae msa mlc mli mna mva mma mch mre mlv mwr msh 1 mnv mns mfa mmo) H := hP
                    have hD : va_D A (wM b cI cJ cZ mki msz mle mel mme mal mic mil mio mab mae msa mlc mli mna mva mma mch mre mlv mwr msh 1 mnv mns mfa mmo) := hD
                    refine lv_iload hx hb d_Mo_named_86 (lv_at hl 0 rfl) ?_
                    refine lv_if_ne (tgt := 112) hx hb d_Mo_named_88 (by decide) (fun h => ?_) (fun h => ?_)
                    · skip
                      exact hret _ _ _ _ _ _ _ _ _ _ _ _ _ _ _ _ _ _ _ _ _ _ _ _ _ _ _ ls _ H locs d_Mo_named_112 vc hP hD hS
                    · exact absurd h (by decide)
theorem h_Mo_named (l : Launch) (D : va_G) (b : Nat → Nat) (cI cJ cZ : ClassId) (mki : Nat → Int32) (msz : Nat → Int64) (mle : Nat → Int32) (mel : Nat → Int32) (mme : Nat → Int32) (mal : Nat → Int32) (mic : Nat → Int32) (mil : Nat → Int32) (mio : Nat → Int32) (mab : Nat → Int32) (mae : Nat → Int32) (msa : Nat → Int32) (mlc : Nat → Int32) (mli : Nat → Int32) (mna : Nat → Int32) (mva : Nat → Int32) (mma : Nat → Int32) (mch : Nat → Int32) (mre : Nat → Int32) (mlv : Nat → Int32) (mwr : Nat → Int64) (msh : Nat → Int32) (mth : Int32) (mnv : Int32) (mns : Int32) (mfa : Int32) (mmo : Int32) (x : Int32) (y : Int32) (z : Int32) (u : Int32) (mki' : Nat → Int32) (msz' : Nat → Int64) (mle' : Nat → Int32) (mel' : Nat → Int32) (mme' : Nat → Int32) (mal' : Nat → Int32) (mic' : Nat → Int32) (mil' : Nat → Int32) (mio' : Nat → Int32) (mab' : Nat → Int32) (mae' : Nat → Int32) (msa' : Nat → Int32) (mlc' : Nat → Int32) (mli' : Nat → Int32) (mna' : Nat → Int32) (mva' : Nat → Int32) (mma' : Nat → Int32) (mch' : Nat → Int32) (mre' : Nat → Int32) (mlv' : Nat → Int32) (mwr' : Nat → Int64) (msh' : Nat → Int32) (mth' : Int32) (mnv' : Int32) (mns' : Int32) (mfa' : Int32) (mmo' : Int32) (vc : V_Mo_named mki msz mle mel mme mal mic mil mio mab mae msa mlc mli mna mva mma mch mre mlv mwr msh mth mnv mns mfa mmo x y z u (fun mki msz mle mel mme mal mic mil mio mab mae msa mlc mli mna mva mma mch mre mlv mwr msh mth mnv mns mfa mmo => mki = mki' ∧ msz = msz' ∧ mle = mle' ∧ mel = mel' ∧ mme = mme' ∧ mal = mal' ∧ mic = mic' ∧ mil = mil' ∧ mio = mio' ∧ mab = mab' ∧ mae = mae' ∧ msa = msa' ∧ mlc = mlc' ∧ mli = mli' ∧ mna = mna' ∧ mva = mva' ∧ mma = mma' ∧ mch = mch' ∧ mre = mre' ∧ mlv = mlv' ∧ mwr = mwr' ∧ msh = msh' ∧ mth = mth' ∧ mnv = mnv' ∧ mns = mns' ∧ mfa = mfa' ∧ mmo = mmo')) : Wm (S := Unit) l y_Mo_named b_Mo_named 6 none 1 21 [.ref (b 0), .int x, .int y, .int z, .int u] D (tyA cI cJ cZ) (wM b cI cJ cZ mki msz mle mel mme mal mic mil mio mab mae msa mlc mli mna mva mma mch mre mlv mwr msh mth mnv mns mfa mmo) (fun _ => True) (fun _ => none) (fun _ => (wM b cI cJ cZ mki' msz' mle' mel' mme' mal' mic' mil' mio' mab' mae' msa' mlc' mli' mna' mva' mma' mch' mre' mlv' mwr' msh' mth' mnv' mns' mfa' mmo')) :=
  wm_v (by decide) (Nat.le_of_ble_eq_true rfl) (fun p e s m below meth c ls Q A S hK hP hD hA hS hl hret => g_Mo_named S (Nat.le_refl _) (Nat.le_refl _) ⟨Nat.le_refl _, Nat.le_refl _⟩ D b cI cJ cZ mki msz mle mel mme mal mic mil mio mab mae msa mlc mli mna mva mma mch mre mlv mwr msh mth mnv mns mfa mmo x y z u hK hP hD hA hS hl vc (fun mki msz mle mel mme mal mic mil mio mab mae msa mlc mli mna mva mma mch mre mlv mwr msh mth mnv mns mfa mmo ls pc H locs hd hv hP hD hS => by obtain ⟨rfl, rfl, rfl, rfl, rfl, rfl, rfl, rfl, rfl, rfl, rfl, rfl, rfl, rfl, rfl, rfl, rfl, rfl, rfl, rfl, rfl, rfl, rfl, rfl, rfl, rfl, rfl⟩ := hv; exact hret () ls pc H locs hd trivial hP hD hS))
theorem c_Mo_named_1 (l : Launch) (D : va_G) (b : Nat → Nat) (cI cJ cZ : ClassId) (mki : Nat → Int32) (msz : Nat → Int64) (mle : Nat → Int32) (mel : Nat → Int32) (mme : Nat → Int32) (mal : Nat → Int32) (mic : Nat → Int32) (mil : Nat → Int32) (mio : Nat → Int32) (mab : Nat → Int32) (mae : Nat → Int32) (msa : Nat → Int32) (mlc : Nat → Int32) (mli : Nat → Int32) (mna : Nat → Int32) (mva : Nat → Int32) (mma : Nat → Int32) (mch : Nat → Int32) (mre : Nat → Int32) (mlv : Nat → Int32) (mwr : Nat → Int64) (msh : Nat → Int32) (mth : Int32) (mnv : Int32) (mns : Int32) (mfa : Int32) (mmo : Int32) (x : Int32) (y : Int32) (z : Int32) (u : Int32) (hpre : mns ≤ 24) (hv1 : ¬ ((sHas mns x && (sIn y 33 35 && sIn z 0 11)) = true ∧ (u = -1 ∨ (if y = 35 then sIn u 0 4095 else sHas mns u) = true))) : Wm (S := Unit) l y_Mo_named b_Mo_named 6 none 1 21 [.ref (b 0), .int x, .int y, .int z, .int u] D (tyA cI cJ cZ) (wM b cI cJ cZ mki msz mle mel mme mal mic mil mio mab mae msa mlc mli mna mva mma mch mre mlv mwr msh mth mnv mns mfa mmo) (fun _ => True) (fun _ => none) (fun _ => (wM b cI cJ cZ mki msz mle mel mme mal mic mil mio mab mae msa mlc mli mna mva mma mch mre mlv mwr msh 1 mnv mns mfa mmo)) := h_Mo_named l D b cI cJ cZ mki msz mle mel mme mal mic mil mio mab mae msa mlc mli mna mva mma mch mre mlv mwr msh mth mnv mns mfa mmo x y z u mki msz mle mel mme mal mic mil mio mab mae msa mlc mli mna mva mma mch mre mlv mwr msh 1 mnv mns mfa mmo (by
  unfold V_Mo_named
  repeat' (first | apply br_c | apply br_d | intro _)
  all_goals (first | (simp_all [add_sub1, bI, upd, sHas, sIn, sKind]; done) | (exfalso; simp_all only [le_nlt, and2, bI_eq, bI_ne, bnot_t, ite_true, ite_false, if_true, if_false, eq_self, sIn_i, sHas_i, sKind_iff, not_and, Classical.not_not, not_true_eq_false, not_false_eq_true, true_and, and_true, false_and, and_false, true_implies, false_implies, implies_true, imp_false, imp_self, or_false, false_or, not_or, or_true, true_or]; done) | skip))
theorem c_Mo_named_2 (l : Launch) (D : va_G) (b : Nat → Nat) (cI cJ cZ : ClassId) (mki : Nat → Int32) (msz : Nat → Int64) (mle : Nat → Int32) (mel : Nat → Int32) (mme : Nat → Int32) (mal : Nat → Int32) (mic : Nat → Int32) (mil : Nat → Int32) (mio : Nat → Int32) (mab : Nat → Int32) (mae : Nat → Int32) (msa : Nat → Int32) (mlc : Nat → Int32) (mli : Nat → Int32) (mna : Nat → Int32) (mva : Nat → Int32) (mma : Nat → Int32) (mch : Nat → Int32) (mre : Nat → Int32) (mlv : Nat → Int32) (mwr : Nat → Int64) (msh : Nat → Int32) (mth : Int32) (mnv : Int32) (mns : Int32) (mfa : Int32) (mmo : Int32) (x : Int32) (y : Int32) (z : Int32) (u : Int32) (hpre : mns ≤ 24) (hv1 : ¬ (¬ ((sHas mns x && (sIn y 33 35 && sIn z 0 11)) = true ∧ (u = -1 ∨ (if y = 35 then sIn u 0 4095 else sHas mns u) = true)))) : Wm (S := Unit) l y_Mo_named b_Mo_named 6 none 1 21 [.ref (b 0), .int x, .int y, .int z, .int u] D (tyA cI cJ cZ) (wM b cI cJ cZ mki msz mle mel mme mal mic mil mio mab mae msa mlc mli mna mva mma mch mre mlv mwr msh mth mnv mns mfa mmo) (fun _ => True) (fun _ => none) (fun _ => (wM b cI cJ cZ mki msz mle mel mme mal mic mil mio mab mae msa mlc mli (upd mna (36 * x + 12 * (y - 33) + z : Int32).toNatClampNeg u) mva mma mch mre mlv mwr msh 0 mnv mns mfa mmo)) := h_Mo_named l D b cI cJ cZ mki msz mle mel mme mal mic mil mio mab mae msa mlc mli mna mva mma mch mre mlv mwr msh mth mnv mns mfa mmo x y z u mki msz mle mel mme mal mic mil mio mab mae msa mlc mli (upd mna (36 * x + 12 * (y - 33) + z : Int32).toNatClampNeg u) mva mma mch mre mlv mwr msh 0 mnv mns mfa mmo (by
  unfold V_Mo_named
  have hb := Classical.not_not.mp hv1
  have hx : vp_in (36 * x + 12 * (y - 33) + z) 864 := by
    obtain ⟨r, hr, rfl, -⟩ := vp_nat (vp_sHas (N := 24) (Int32.le_iff_toInt_le.mp hpre) (and2.mp hb.1).1) (by decide)
    obtain ⟨k, h1, h2, rfl⟩ := sIn_nat (lo := 33) (hi := 35) (by decide) (by decide) (and2.mp (and2.mp hb.1).2).1
    obtain ⟨j, h3, h4, rfl⟩ := sIn_nat (lo := 0) (hi := 11) (by decide) (by decide) (and2.mp (and2.mp hb.1).2).2
    rw [show (36 : Int32) = nI 36 from rfl, show (33 : Int32) = nI 33 from rfl, show (12 : Int32) = nI 12 from rfl, pk_sub (by omega), pk_mul, pk_mul, nI_add, nI_add]
    exact vp_in_nI (by omega) (by decide)
  repeat' (first | apply br_c | apply br_d | apply pre_and hx | intro _)
  all_goals (first | (simp_all [add_sub1, bI, upd, sHas, sIn, sKind]; done) | (exfalso; simp_all only [le_nlt, and2, bI_eq, bI_ne, bnot_t, ite_true, ite_false, if_true, if_false, eq_self, sIn_i, sHas_i, sKind_iff, not_and, Classical.not_not, not_true_eq_false, not_false_eq_true, true_and, and_true, false_and, and_false, true_implies, false_implies, implies_true, imp_false, imp_self, or_false, false_or, not_or, or_true, true_or]; done) | skip))
theorem hd_Mo_named : y_Mo_named.cls ≠ "java/lang/invoke/MethodHandle" ∧ y_Mo_named.cls ≠ "java/lang/invoke/VarHandle" ∧ (parseMethodDescriptor y_Mo_named.desc).map (fun d => d.parameters.length) = some 4 := ⟨by decide, by decide, by decide +kernel⟩
