def V_Mo_decide (mki : Nat → Int32) (msz : Nat → Int64) (mle : Nat → Int32) (mel : Nat → Int32) (mme : Nat → Int32) (mal : Nat → Int32) (mic : Nat → Int32) (mil : Nat → Int32) (mio : Nat → Int32) (mab : Nat → Int32) (mae : Nat → Int32) (msa : Nat → Int32) (mlc : Nat → Int32) (mli : Nat → Int32) (mna : Nat → Int32) (mva : Nat → Int32) (mma : Nat → Int32) (mch : Nat → Int32) (mre : Nat → Int32) (mlv : Nat → Int32) (mwr : Nat → Int64) (msh : Nat → Int32) (mth : Int32) (mnv : Int32) (mns : Int32) (mfa : Int32) (mmo : Int32) (x : Int32) (y : Int32) (post : (Nat → Int32) → (Nat → Int64) → (Nat → Int32) → (Nat → Int32) → (Nat → Int32) → (Nat → Int32) → (Nat → Int32) → (Nat → Int32) → (Nat → Int32) → (Nat → Int32) → (Nat → Int32) → (Nat → Int32) → (Nat → Int32) → (Nat → Int32) → (Nat → Int32) → (Nat → Int32) → (Nat → Int32) → (Nat → Int32) → (Nat → Int32) → (Nat → Int32) → (Nat → Int64) → (Nat → Int32) → Int32 → Int32 → Int32 → Int32 → Int32 → Prop) : Prop :=
  (∃ (I5 : Int32 → Int32 → Prop) (mI5 : Int32 → Int32 → Nat), I5 1 0 ∧ (∀ (x3 : Int32) (x4 : Int32), I5 x3 x4 → ((36 ≤ x4 → ((∃ n0 m0 s0 v0 : Nat, mnv = nI n0 ∧ mns = nI m0 ∧ MSOK mki msz mle mel mme mic mio msa mlc mli mna mva n0 m0 ∧ s0 < m0 ∧ v0 < n0 ∧ x = nI s0 ∧ y = nI v0) ∧ (∀ (x6 : Int32), ((∀ G : Sp, G = gM mki msz mle mel mme mal mic mil mio mab mae msa mlc mli mna mva mma mnv.toNatClampNeg → ∀ i, i < 32 → (bt x6 i = true ↔ Mrk0 G x.toNatClampNeg y.toNatClampNeg i))) → (vp_in (29 * x + 27) 696 ∧ (∃ J7 : Int32 → Prop, (((msa (29 * x + 27 : Int32).toNatClampNeg) < 0 → (vp_in (29 * x + 28) 696 ∧ (∃ J8 : Prop, (((msa (29 * x + 28 : Int32).toNatClampNeg) < 0 → J8) ∧ (¬ (msa (29 * x + 28 : Int32).toNatClampNeg) < 0 → (vp_in y 40 ∧ ((¬ (mki y.toNatClampNeg) = 4 → J8) ∧ ((mki y.toNatClampNeg) = 4 → (vp_in y 40 ∧ J7 ((1 <<< ((mle y.toNatClampNeg) &&& 31)) - 1))))))) ∧ (J8 → J7 x6)))) ∧ (¬ (msa (29 * x + 27 : Int32).toNatClampNeg) < 0 → (vp_in y 40 ∧ ((¬ (mki y.toNatClampNeg) = 5 → (vp_in (29 * x + 28) 696 ∧ (∃ J11 : Prop, (((msa (29 * x + 28 : Int32).toNatClampNeg) < 0 → J11) ∧ (¬ (msa (29 * x + 28 : Int32).toNatClampNeg) < 0 → (vp_in y 40 ∧ ((¬ (mki y.toNatClampNeg) = 4 → J11) ∧ ((mki y.toNatClampNeg) = 4 → (vp_in y 40 ∧ J7 ((1 <<< ((mle y.toNatClampNeg) &&& 31)) - 1))))))) ∧ (J11 → J7 x6)))) ∧ ((mki y.toNatClampNeg) = 5 → (vp_in y 40 ∧ (∀ (x13 : Int32), ((∀ i, i < 32 → (bt x13 i = true ↔ i < 12 ∧ mki y.toNatClampNeg = 5 ∧ ¬ mme (12 * y.toNatClampNeg + i) < 0))) → J7 x13))))))) ∧ (∀ (x14 : Int32), J7 x14 → (vp_in ((40 * x) + y) 960 ∧ (∃ J15 : Int32 → Prop, ((x3 = 0 → J15 0) ∧ (¬ x3 = 0 → J15 x14)) ∧ (∀ (x16 : Int32), J15 x16 → (vp_in ((40 * x) + y) 960 ∧ post mki msz mle mel mme mal mic mil mio mab mae msa mlc mli mna (upd mva ((40 * x) + y : Int32).toNatClampNeg (vp_nar .boolean x3)) (upd mma ((40 * x) + y : Int32).toNatClampNeg x16) mch mre mlv mwr msh mth mnv mns mfa mmo)))))))))) ∧ (¬ 36 ≤ x4 → ((x3 = 0 → (I5 0 (x4 + 1) ∧ mI5 0 (x4 + 1) < mI5 x3 x4)) ∧ (¬ x3 = 0 → ((∃ n0 m0 s0 v0 : Nat, mnv = nI n0 ∧ mns = nI m0 ∧ MSOK mki msz mle mel mme mic mio msa mlc mli mna mva n0 m0 ∧ (s0 < m0 ∧ v0 < n0 ∧ x = nI s0 ∧ y = nI v0) ∧ ∃ k0 : Nat, k0 < 36 ∧ x4 = nI k0) ∧ (∀ (t17 : Bool), ((∀ G : Sp, G = gM mki msz mle mel mme mal mic mil mio mab mae msa mlc mli mna mva mma mnv.toNatClampNeg → (t17 = true ↔ ¬ Bad G x.toNatClampNeg y.toNatClampNeg x4.toNatClampNeg))) → (((bI t17) = 0 → (I5 0 (x4 + 1) ∧ mI5 0 (x4 + 1) < mI5 x3 x4)) ∧ (¬ (bI t17) = 0 → (I5 1 (x4 + 1) ∧ mI5 1 (x4 + 1) < mI5 x3 x4)))))))))))
set_option maxHeartbeats 4000000 in
set_option maxRecDepth 100000 in
theorem g_Mo_decide {p : Program} {l : Launch} {e : Env} {R : Room} {s : State} {m : MethodId} {args : Array Value} {below : List Frame} {meth : Method} {c : Code} {H : Heap} {locs : List Loc} {cells slots : Nat} {Q : State → Prop} {ls : Array Slot} {A : Nat → Prop} (S : CallFix p m c b_Mo_decide 5 s args W0 R_Mo) (hRf : 6 ≤ R.frames) (hRl : 143 ≤ R.locals) (hRc : cells ≤ R.cells ∧ slots ≤ R.slots) (D : va_G) (b : Nat → Nat) (cI cJ cZ : ClassId) (mki : Nat → Int32) (msz : Nat → Int64) (mle : Nat → Int32) (mel : Nat → Int32) (mme : Nat → Int32) (mal : Nat → Int32) (mic : Nat → Int32) (mil : Nat → Int32) (mio : Nat → Int32) (mab : Nat → Int32) (mae : Nat → Int32) (msa : Nat → Int32) (mlc : Nat → Int32) (mli : Nat → Int32) (mna : Nat → Int32) (mva : Nat → Int32) (mma : Nat → Int32) (mch : Nat → Int32) (mre : Nat → Int32) (mlv : Nat → Int32) (mwr : Nat → Int64) (msh : Nat → Int32) (mth : Int32) (mnv : Int32) (mns : Int32) (mfa : Int32) (mmo : Int32) (x : Int32) (y : Int32) (hK : va_K D vwCl (tyA cI cJ cZ) s) (hP : va_P D vwCl (wM b cI cJ cZ mki msz mle mel mme mal mic mil mio mab mae msa mlc mli mna mva mma mch mre mlv mwr msh mth mnv mns mfa mmo) H) (hD : va_D A (wM b cI cJ cZ mki msz mle mel mme mal mic mil mio mab mae msa mlc mli mna mva mma mch mre mlv mwr msh mth mnv mns mfa mmo)) (hA : ∀ q, s.heap.size ≤ q → A q) (hS : va_S A s.heap H locs) (hl : lv_has ls 5 [(0, .ref (b 0)), (1, .int x), (2, .int y)]) {post : (Nat → Int32) → (Nat → Int64) → (Nat → Int32) → (Nat → Int32) → (Nat → Int32) → (Nat → Int32) → (Nat → Int32) → (Nat → Int32) → (Nat → Int32) → (Nat → Int32) → (Nat → Int32) → (Nat → Int32) → (Nat → Int32) → (Nat → Int32) → (Nat → Int32) → (Nat → Int32) → (Nat → Int32) → (Nat → Int32) → (Nat → Int32) → (Nat → Int32) → (Nat → Int64) → (Nat → Int32) → Int32 → Int32 → Int32 → Int32 → Int32 → Prop} (vc : V_Mo_decide mki msz mle mel mme mal mic mil mio mab mae msa mlc mli mna mva mma mch mre mlv mwr msh mth mnv mns mfa mmo x y post)
    (hret : ∀ (mki : Nat → Int32) (msz : Nat → Int64) (mle : Nat → Int32) (mel : Nat → Int32) (mme : Nat → Int32) (mal : Nat → Int32) (mic : Nat → Int32) (mil : Nat → Int32) (mio : Nat → Int32) (mab : Nat → Int32) (mae : Nat → Int32) (msa : Nat → Int32) (mlc : Nat → Int32) (mli : Nat → Int32) (mna : Nat → Int32) (mva : Nat → Int32) (mma : Nat → Int32) (mch : Nat → Int32) (mre : Nat → Int32) (mlv : Nat → Int32) (mwr : Nat → Int64) (msh : Nat → Int32) (mth : Int32) (mnv : Int32) (mns : Int32) (mfa : Int32) (mmo : Int32) (ls : Array Slot) (pc : Nat) (H : Heap) (locs : List Loc), decode b_Mo_decide pc = .ok (.return_, 1) → post mki msz mle mel mme mal mic mil mio mab mae msa mlc mli mna mva mma mch mre mlv mwr msh mth mnv mns mfa mmo → va_P D vwCl (wM b cI cJ cZ mki msz mle mel mme mal mic mil mio mab mae msa mlc mli mna mva mma mch mre mlv mwr msh mth mnv mns mfa mmo) H → va_D A (wM b cI cJ cZ mki msz mle mel mme mal mic mil mio mab mae msa mlc mli mna mva mma mch mre mlv mwr msh mth mnv mns mfa mmo) → va_S A s.heap H locs → W p l e R s m args below meth c H locs cells slots Q (F0 m pc ls [])) : W p l e R s m args below meth c H locs cells slots Q (F0 m 0 ls []) := by
  have hx := S.1
  have hb := S.2.1
  have hown := S.2.2.2.1
  have hts := S.2.2.2.2
  unfold V_Mo_decide at vc
  refine lv_iconst (v := 1) hx hb d_Mo_decide_0 (by decide) ?_
  refine lv_istore_n hx hb d_Mo_decide_1 rfl hl (by decide) (lv' := [(3, .int 1), (0, .ref (b 0)), (1, .int x), (2, .int y)]) rfl (fun ls hl => ?_)
  refine lv_iconst (v := 0) hx hb d_Mo_decide_2 (by decide) ?_
  refine lv_istore hx hb d_Mo_decide_3 hl (by decide) (lv' := [(4, .int 0), (3, .int 1), (0, .ref (b 0)), (1, .int x), (2, .int y)]) rfl (fun ls hl => ?_)
  obtain ⟨I5, mI5, vc0, vcs⟩ := vc
  have lI5 : ∀ n : Nat, ∀ (x3 : Int32) (x4 : Int32) (ls : Array Slot) (H : Heap) (locs : List Loc), I5 x3 x4 → mI5 x3 x4 < n → lv_has ls 5 [(0, .ref (b 0)), (1, .int x), (2, .int y), (3, .int x3), (4, .int x4)] → va_P D vwCl (wM b cI cJ cZ mki msz mle mel mme mal mic mil mio mab mae msa mlc mli mna mva mma mch mre mlv mwr msh mth mnv mns mfa mmo) H → va_D A (wM b cI cJ cZ mki msz mle mel mme mal mic mil mio mab mae msa mlc mli mna mva mma mch mre mlv mwr msh mth mnv mns mfa mmo) → va_S A s.heap H locs → W p l e R s m args below meth c H locs cells slots Q (F0 m 5 ls []) := by
    intro n
    induction n with
    | zero => intro x3 x4 ls H locs _ h; exact absurd h (Nat.not_lt_zero _)
    | succ n ihI5 =>
      intro x3 x4 ls H locs vc hmI5 hl hP hD hS
      have vc := vcs x3 x4 vc
      refine lv_iload hx hb d_Mo_decide_5 (lv_at hl 4 rfl) ?_
      refine lv_bipush (v := 36) hx hb d_Mo_decide_7 (by decide) ?_
      refine lv_icmp_ge (tgt := 39) hx hb d_Mo_decide_9 (by decide) (fun h => ?_) (fun h => ?_)
      · have vc := vc.1 h
        refine lv_aload_n hx hb d_Mo_decide_39 rfl (lv_at hl 0 rfl) ?_
        refine lv_iload_n hx hb d_Mo_decide_40 rfl (lv_at hl 1 rfl) ?_
        refine lv_iload_n hx hb d_Mo_decide_41 rfl (lv_at hl 2 rfl) ?_
        obtain ⟨hpre, vc⟩ := vc
        refine wc_V (As := [.int x, .int y]) (rest := []) (wr := ([] : va_W)) S (c_Mo_marksOf l D b cI cJ cZ mki msz mle mel mme mal mic mil mio mab mae msa mlc mli mna mva mma mch mre mlv mwr msh mth mnv mns mfa mmo x y hpre) k_Mo_marksOf i_Mo_marksOf e_Mo_marksOf o_Mo ml_Mo_215 hd_Mo_marksOf (Nat.le_trans (by decide) hRf) (Nat.le_trans (by decide) hRl) hRc (va_recv hK hP (q0 := 0) (ci := 6) rfl rfl) hK hP hD hS hA [0, 1, 2, 3, 4, 5, 6, 7, 8, 9, 10, 11, 12, 13, 14, 15, 16, 17, 18, 19, 20, 21, 22] [] rfl rfl rfl (by decide) (by decide) (by decide) hl.1 rfl (Nat.le_of_ble_eq_true rfl) d_Mo_decide_42 (fun x6 H locs hu hP hD hS => ?_)
        have vc := vc x6 hu
        clear hu
        have hP : va_P D vwCl (wM b cI cJ cZ mki msz mle mel mme mal mic mil mio mab mae msa mlc mli mna mva mma mch mre mlv mwr msh mth mnv mns mfa mmo) H := hP
        have hD : va_D A (wM b cI cJ cZ mki msz mle mel mme mal mic mil mio mab mae msa mlc mli mna mva mma mch mre mlv mwr msh mth mnv mns mfa mmo) := hD
        refine lv_istore hx hb d_Mo_decide_45 hl (by decide) (lv' := [(4, .int x6), (0, .ref (b 0)), (1, .int x), (2, .int y), (3, .int x3)]) rfl (fun ls hl => ?_)
        refine lv_aload_n hx hb d_Mo_decide_47 rfl (lv_at hl 1 rfl) ?_
        refine lv_iload_n hx hb d_Mo_decide_48 rfl (lv_at hl 2 rfl) ?_
        refine lv_bipush (v := 27) hx hb d_Mo_decide_49 (by decide) ?_
        obtain ⟨hpre, vc⟩ := vc
        refine pc_V (As := [.int x, .int 27]) (rest := []) S (c_Mo_said l D b cI cJ cZ mki msz mle mel mme mal mic mil mio mab mae msa mlc mli mna mva mma mch mre mlv mwr msh mth mnv mns mfa mmo x 27 hpre) wB_blind k_Mo_said i_Mo_said e_Mo_said o_Mo ml_Mo_141 hd_Mo_said (Nat.le_trans (by decide) hRf) (Nat.le_trans (by decide) hRl) hRc (va_recv hK hP (q0 := 0) (ci := 6) rfl rfl) (wB_at hP hK) hl.1 rfl (Nat.le_of_ble_eq_true rfl) d_Mo_decide_51 ?_
        obtain ⟨J7, vc, vc2⟩ := vc
        have jJ7 : ∀ (x14 : Int32) (ls : Array Slot) (H : Heap) (locs : List Loc), J7 x14 → lv_has ls 5 [(0, .ref (b 0)), (1, .int x), (2, .int y), (3, .int x3), (4, .int x6)] → va_P D vwCl (wM b cI cJ cZ mki msz mle mel mme mal mic mil mio mab mae msa mlc mli mna mva mma mch mre mlv mwr msh mth mnv mns mfa mmo) H → va_D A (wM b cI cJ cZ mki msz mle mel mme mal mic mil mio mab mae msa mlc mli mna mva mma mch mre mlv mwr msh mth mnv mns mfa mmo) → va_S A s.heap H locs → W p l e R s m args below meth c H locs cells slots Q (F0 m 110 ls [.int x14]) := by
          intro x14 ls H locs vc hl hP hD hS
          have vc := vc2 x14 vc
          refine lv_istore hx hb d_Mo_decide_110 hl (by decide) (lv' := [(4, .int x14), (0, .ref (b 0)), (1, .int x), (2, .int y), (3, .int x3)]) rfl (fun ls hl => ?_)
          refine lv_aload_n hx hb d_Mo_decide_112 rfl (lv_at hl 1 rfl) ?_
          refine va_get (D := D) (ci := 6) (v := .ref (b 16)) (C := R_Mo) (T := F_Mo) (N := 27) hx hb hts in_Mo hown hK hP 0 rfl rfl 18 (by decide) (hts _ fl_Mo_57) (fun _ h => h) rfl d_Mo_decide_113 ?_
          refine lv_bipush (v := 40) hx hb d_Mo_decide_116 (by decide) ?_
          refine lv_iload_n hx hb d_Mo_decide_118 rfl (lv_at hl 2 rfl) ?_
          refine lv_imul hx hb d_Mo_decide_119 ?_
          refine lv_iload_n hx hb d_Mo_decide_120 rfl (lv_at hl 3 rfl) ?_
          refine lv_iadd hx hb d_Mo_decide_121 ?_
          refine lv_iload_n hx hb d_Mo_decide_122 rfl (lv_at hl 4 rfl) ?_
          obtain ⟨vcb, vc⟩ := vc
          refine va_zast hx hb hK hP hD hS 16 2 rfl rfl vcb d_Mo_decide_123 (fun H locs hP hD hS => ?_)
          have hP : va_P D vwCl (wM b cI cJ cZ mki msz mle mel mme mal mic mil mio mab mae msa mlc mli mna (upd mva ((40 * x) + y : Int32).toNatClampNeg (vp_nar .boolean x3)) mma mch mre mlv mwr msh mth mnv mns mfa mmo) H := hP
          have hD : va_D A (wM b cI cJ cZ mki msz mle mel mme mal mic mil mio mab mae msa mlc mli mna (upd mva ((40 * x) + y : Int32).toNatClampNeg (vp_nar .boolean x3)) mma mch mre mlv mwr msh mth mnv mns mfa mmo) := hD
          refine lv_aload_n hx hb d_Mo_decide_124 rfl (lv_at hl 1 rfl) ?_
          refine va_get (D := D) (ci := 6) (v := .ref (b 17)) (C := R_Mo) (T := F_Mo) (N := 27) hx hb hts in_Mo hown hK hP 0 rfl rfl 19 (by decide) (hts _ fl_Mo_60) (fun _ h => h) rfl d_Mo_decide_125 ?_
          refine lv_bipush (v := 40) hx hb d_Mo_decide_128 (by decide) ?_
          refine lv_iload_n hx hb d_Mo_decide_130 rfl (lv_at hl 2 rfl) ?_
          refine lv_imul hx hb d_Mo_decide_131 ?_
          refine lv_iload_n hx hb d_Mo_decide_132 rfl (lv_at hl 3 rfl) ?_
          refine lv_iadd hx hb d_Mo_decide_133 ?_
          refine lv_iload_n hx hb d_Mo_decide_134 rfl (lv_at hl 4 rfl) ?_
          obtain ⟨J15, vc, vc2⟩ := vc
          have jJ15 : ∀ (x16 : Int32) (ls : Array Slot) (H : Heap) (locs : List Loc), J15 x16 → lv_has ls 5 [(0, .ref (b 0)), (1, .int x), (2, .int y), (3, .int x3), (4, .int x14)] → va_P D vwCl (wM b cI cJ cZ mki msz mle mel mme mal mic mil mio mab mae msa mlc mli mna (upd mva ((40 * x) + y : Int32).toNatClampNeg (vp_nar .boolean x3)) mma mch mre mlv mwr msh mth mnv mns mfa mmo) H → va_D A (wM b cI cJ cZ mki msz mle mel mme mal mic mil mio mab mae msa mlc mli mna (upd mva ((40 * x) + y : Int32).toNatClampNeg (vp_nar .boolean x3)) mma mch mre mlv mwr msh mth mnv mns mfa mmo) → va_S A s.heap H locs → W p l e R s m args below meth c H locs cells slots Q (F0 m 144 ls [.int x16, .int ((40 * x) + y), .ref (b 17)]) := by
            intro x16 ls H locs vc hl hP hD hS
            have vc := vc2 x16 vc
            obtain ⟨vcb, vc⟩ := vc
            refine va_iast hx hb hK hP hD hS 17 0 rfl rfl vcb d_Mo_decide_144 (fun H locs hP hD hS => ?_)
            have hP : va_P D vwCl (wM b cI cJ cZ mki msz mle mel mme mal mic mil mio mab mae msa mlc mli mna (upd mva ((40 * x) + y : Int32).toNatClampNeg (vp_nar .boolean x3)) (upd mma ((40 * x) + y : Int32).toNatClampNeg x16) mch mre mlv mwr msh mth mnv mns mfa mmo) H := hP
            have hD : va_D A (wM b cI cJ cZ mki msz mle mel mme mal mic mil mio mab mae msa mlc mli mna (upd mva ((40 * x) + y : Int32).toNatClampNeg (vp_nar .boolean x3)) (upd mma ((40 * x) + y : Int32).toNatClampNeg x16) mch mre mlv mwr msh mth mnv mns mfa mmo) := hD
            exact hret _ _ _ _ _ _ _ _ _ _ _ _ _ _ _ _ _ _ _ _ _ _ _ _ _ _ _ ls _ H locs d_Mo_decide_145 vc hP hD hS
          clear vc2
          refine lv_if_eq (tgt := 143) hx hb d_Mo_decide_135 (by decide) (fun h => ?_) (fun h => ?_)
          · have vc := vc.1 h
            refine lv_iconst (v := 0) hx hb d_Mo_decide_143 (by decide) ?_
            exact jJ15 0 ls H locs vc (lv_sub hl [1, 2, 3, 4, 0] rfl) hP hD hS
          · have vc := vc.2 h
            refine lv_iload hx hb d_Mo_decide_138 (lv_at hl 0 rfl) ?_
            refine lv_goto (tgt := 144) hx hb d_Mo_decide_140 (by decide) ?_
            exact jJ15 x14 ls H locs vc (lv_sub hl [1, 2, 3, 4, 0] rfl) hP hD hS
        clear vc2
        refine lv_if_lt (tgt := 75) hx hb d_Mo_decide_54 (by decide) (fun h => ?_) (fun h => ?_)
        · have vc := vc.1 h
          refine lv_aload_n hx hb d_Mo_decide_75 rfl (lv_at hl 1 rfl) ?_
          refine lv_iload_n hx hb d_Mo_decide_76 rfl (lv_at hl 2 rfl) ?_
          refine lv_bipush (v := 28) hx hb d_Mo_decide_77 (by decide) ?_
          obtain ⟨hpre, vc⟩ := vc
          refine pc_V (As := [.int x, .int 28]) (rest := []) S (c_Mo_said l D b cI cJ cZ mki msz mle mel mme mal mic mil mio mab mae msa mlc mli mna mva mma mch mre mlv mwr msh mth mnv mns mfa mmo x 28 hpre) wB_blind k_Mo_said i_Mo_said e_Mo_said o_Mo ml_Mo_141 hd_Mo_said (Nat.le_trans (by decide) hRf) (Nat.le_trans (by decide) hRl) hRc (va_recv hK hP (q0 := 0) (ci := 6) rfl rfl) (wB_at hP hK) hl.1 rfl (Nat.le_of_ble_eq_true rfl) d_Mo_decide_79 ?_
          obtain ⟨J8, vc, vc2⟩ := vc
          have jJ8 : ∀ (ls : Array Slot) (H : Heap) (locs : List Loc), J8 → lv_has ls 5 [(0, .ref (b 0)), (1, .int x), (2, .int y), (3, .int x3), (4, .int x6)] → va_P D vwCl (wM b cI cJ cZ mki msz mle mel mme mal mic mil mio mab mae msa mlc mli mna mva mma mch mre mlv mwr msh mth mnv mns mfa mmo) H → va_D A (wM b cI cJ cZ mki msz mle mel mme mal mic mil mio mab mae msa mlc mli mna mva mma mch mre mlv mwr msh mth mnv mns mfa mmo) → va_S A s.heap H locs → W p l e R s m args below meth c H locs cells slots Q (F0 m 108 ls []) := by
            intro  ls H locs vc hl hP hD hS
            have vc := vc2  vc
            refine lv_iload hx hb d_Mo_decide_108 (lv_at hl 4 rfl) ?_
            exact jJ7 x6 ls H locs vc (lv_sub hl [0, 1, 2, 3, 4] rfl) hP hD hS
          clear vc2
          refine lv_if_lt (tgt := 108) hx hb d_Mo_decide_82 (by decide) (fun h => ?_) (fun h => ?_)
          · have vc := vc.1 h
            exact jJ8 ls H locs vc (lv_sub hl [1, 2, 3, 4, 0] rfl) hP hD hS
          · have vc := vc.2 h
            refine lv_aload_n hx hb d_Mo_decide_85 rfl (lv_at hl 1 rfl) ?_
            refine va_get (D := D) (ci := 6) (v := .ref (b 1)) (C := R_Mo) (T := F_Mo) (N := 27) hx hb hts in_Mo hown hK hP 0 rfl rfl 2 (by decide) (hts _ fl_Mo_7) (fun _ h => h) rfl d_Mo_decide_86 ?_
            refine lv_iload_n hx hb d_Mo_decide_89 rfl (lv_at hl 3 rfl) ?_
            obtain ⟨vcb, vc⟩ := vc
            refine va_iald hx hb hK hP 1 0 rfl rfl vcb d_Mo_decide_90 ?_
            refine lv_iconst (v := 4) hx hb d_Mo_decide_91 (by decide) ?_
            refine lv_icmp_ne (tgt := 108) hx hb d_Mo_decide_92 (by decide) (fun h => ?_) (fun h => ?_)
            · have vc := vc.1 h
              exact jJ8 ls H locs vc (lv_sub hl [1, 2, 3, 4, 0] rfl) hP hD hS
            · have vc := vc.2 h
              refine lv_iconst (v := 1) hx hb d_Mo_decide_95 (by decide) ?_
              refine lv_aload_n hx hb d_Mo_decide_96 rfl (lv_at hl 1 rfl) ?_
              refine va_get (D := D) (ci := 6) (v := .ref (b 3)) (C := R_Mo) (T := F_Mo) (N := 27) hx hb hts in_Mo hown hK hP 0 rfl rfl 4 (by decide) (hts _ fl_Mo_17) (fun _ h => h) rfl d_Mo_decide_97 ?_
              refine lv_iload_n hx hb d_Mo_decide_100 rfl (lv_at hl 3 rfl) ?_
              obtain ⟨vcb, vc⟩ := vc
              refine va_iald hx hb hK hP 3 0 rfl rfl vcb d_Mo_decide_101 ?_
              refine lv_ishl hx hb d_Mo_decide_102 ?_
              refine lv_iconst (v := 1) hx hb d_Mo_decide_103 (by decide) ?_
              refine lv_isub hx hb d_Mo_decide_104 ?_
              refine lv_goto (tgt := 110) hx hb d_Mo_decide_105 (by decide) ?_
              exact jJ7 ((1 <<< ((mle y.toNatClampNeg) &&& 31)) - 1) ls H locs vc (lv_sub hl [1, 2, 3, 4, 0] rfl) hP hD hS
        · have vc := vc.2 h
          refine lv_aload_n hx hb d_Mo_decide_57 rfl (lv_at hl 1 rfl) ?_
          refine va_get (D := D) (ci := 6) (v := .ref (b 1)) (C := R_Mo) (T := F_Mo) (N := 27) hx hb hts in_Mo hown hK hP 0 rfl rfl 2 (by decide) (hts _ fl_Mo_7) (fun _ h => h) rfl d_Mo_decide_58 ?_
          refine lv_iload_n hx hb d_Mo_decide_61 rfl (lv_at hl 3 rfl) ?_
          obtain ⟨vcb, vc⟩ := vc
          refine va_iald hx hb hK hP 1 0 rfl rfl vcb d_Mo_decide_62 ?_
          refine lv_iconst (v := 5) hx hb d_Mo_decide_63 (by decide) ?_
          refine lv_icmp_ne (tgt := 75) hx hb d_Mo_decide_64 (by decide) (fun h => ?_) (fun h => ?_)
          · have vc := vc.1 h
            refine lv_aload_n hx hb d_Mo_decide_75 rfl (lv_at hl 1 rfl) ?_
            refine lv_iload_n hx hb d_Mo_decide_76 rfl (lv_at hl 2 rfl) ?_
            refine lv_bipush (v := 28) hx hb d_Mo_decide_77 (by decide) ?_
            obtain ⟨hpre, vc⟩ := vc
            refine pc_V (As := [.int x, .int 28]) (rest := []) S (c_Mo_said l D b cI cJ cZ mki msz mle mel mme mal mic mil mio mab mae msa mlc mli mna mva mma mch mre mlv mwr msh mth mnv mns mfa mmo x 28 hpre) wB_blind k_Mo_said i_Mo_said e_Mo_said o_Mo ml_Mo_141 hd_Mo_said (Nat.le_trans (by decide) hRf) (Nat.le_trans (by decide) hRl) hRc (va_recv hK hP (q0 := 0) (ci := 6) rfl rfl) (wB_at hP hK) hl.1 rfl (Nat.le_of_ble_eq_true rfl) d_Mo_decide_79 ?_
            obtain ⟨J11, vc, vc2⟩ := vc
            have jJ11 : ∀ (ls : Array Slot) (H : Heap) (locs : List Loc), J11 → lv_has ls 5 [(0, .ref (b 0)), (1, .int x), (2, .int y), (3, .int x3), (4, .int x6)] → va_P D vwCl (wM b cI cJ cZ mki msz mle mel mme mal mic mil mio mab mae msa mlc mli mna mva mma mch mre mlv mwr msh mth mnv mns mfa mmo) H → va_D A (wM b cI cJ cZ mki msz mle mel mme mal mic mil mio mab mae msa mlc mli mna mva mma mch mre mlv mwr msh mth mnv mns mfa mmo) → va_S A s.heap H locs → W p l e R s m args below meth c H locs cells slots Q (F0 m 108 ls []) := by
              intro  ls H locs vc hl hP hD hS
              have vc := vc2  vc
              refine lv_iload hx hb d_Mo_decide_108 (lv_at hl 4 rfl) ?_
              exact jJ7 x6 ls H locs vc (lv_sub hl [0, 1, 2, 3, 4] rfl) hP hD hS
            clear vc2
            refine lv_if_lt (tgt := 108) hx hb d_Mo_decide_82 (by decide) (fun h => ?_) (fun h => ?_)
            · have vc := vc.1 h
              exact jJ11 ls H locs vc (lv_sub hl [1, 2, 3, 4, 0] rfl) hP hD hS
            · have vc := vc.2 h
              refine lv_aload_n hx hb d_Mo_decide_85 rfl (lv_at hl 1 rfl) ?_
              refine va_get (D := D) (ci := 6) (v := .ref (b 1)) (C := R_Mo) (T := F_Mo) (N := 27) hx hb hts in_Mo hown hK hP 0 rfl rfl 2 (by decide) (hts _ fl_Mo_7) (fun _ h => h) rfl d_Mo_decide_86 ?_
              refine lv_iload_n hx hb d_Mo_decide_89 rfl (lv_at hl 3 rfl) ?_
              obtain ⟨vcb, vc⟩ := vc
              refine va_iald hx hb hK hP 1 0 rfl rfl vcb d_Mo_decide_90 ?_
              refine lv_iconst (v := 4) hx hb d_Mo_decide_91 (by decide) ?_
              refine lv_icmp_ne (tgt := 108) hx hb d_Mo_decide_92 (by decide) (fun h => ?_) (fun h => ?_)
              · have vc := vc.1 h
                exact jJ11 ls H locs vc (lv_sub hl [1, 2, 3, 4, 0] rfl) hP hD hS
              · have vc := vc.2 h
                refine lv_iconst (v := 1) hx hb d_Mo_decide_95 (by decide) ?_
                refine lv_aload_n hx hb d_Mo_decide_96 rfl (lv_at hl 1 rfl) ?_
                refine va_get (D := D) (ci := 6) (v := .ref (b 3)) (C := R_Mo) (T := F_Mo) (N := 27) hx hb hts in_Mo hown hK hP 0 rfl rfl 4 (by decide) (hts _ fl_Mo_17) (fun _ h => h) rfl d_Mo_decide_97 ?_
                refine lv_iload_n hx hb d_Mo_decide_100 rfl (lv_at hl 3 rfl) ?_
                obtain ⟨vcb, vc⟩ := vc
                refine va_iald hx hb hK hP 3 0 rfl rfl vcb d_Mo_decide_101 ?_
                refine lv_ishl hx hb d_Mo_decide_102 ?_
                refine lv_iconst (v := 1) hx hb d_Mo_decide_103 (by decide) ?_
                refine lv_isub hx hb d_Mo_decide_104 ?_
                refine lv_goto (tgt := 110) hx hb d_Mo_decide_105 (by decide) ?_
                exact jJ7 ((1 <<< ((mle y.toNatClampNeg) &&& 31)) - 1) ls H locs vc (lv_sub hl [1, 2, 3, 4, 0] rfl) hP hD hS
          · have vc := vc.2 h
            refine lv_aload_n hx hb d_Mo_decide_67 rfl (lv_at hl 1 rfl) ?_
            refine lv_iload_n hx hb d_Mo_decide_68 rfl (lv_at hl 3 rfl) ?_
            obtain ⟨hpre, vc⟩ := vc
            refine wc_V (As := [.int y]) (rest := []) (wr := ([] : va_W)) S (c_Mo_memberBits l D b cI cJ cZ mki msz mle mel mme mal mic mil mio mab mae msa mlc mli mna mva mma mch mre mlv mwr msh mth mnv mns mfa mmo y hpre) k_Mo_memberBits i_Mo_memberBits e_Mo_memberBits o_Mo ml_Mo_187 hd_Mo_memberBits (Nat.le_trans (by decide) hRf) (Nat.le_trans (by decide) hRl) hRc (va_recv hK hP (q0 := 0) (ci := 6) rfl rfl) hK hP hD hS hA [0, 1, 2, 3, 4, 5, 6, 7, 8, 9, 10, 11, 12, 13, 14, 15, 16, 17, 18, 19, 20, 21, 22] [] rfl rfl rfl (by decide) (by decide) (by decide) hl.1 rfl (Nat.le_of_ble_eq_true rfl) d_Mo_decide_69 (fun x13 H locs hu hP hD hS => ?_)
            have vc := vc x13 hu
            clear hu
            have hP : va_P D vwCl (wM b cI cJ cZ mki msz mle mel mme mal mic mil mio mab mae msa mlc mli mna mva mma mch mre mlv mwr msh mth mnv mns mfa mmo) H := hP
            have hD : va_D A (wM b cI cJ cZ mki msz mle mel mme mal mic mil mio mab mae msa mlc mli mna mva mma mch mre mlv mwr msh mth mnv mns mfa mmo) := hD
            refine lv_goto (tgt := 110) hx hb d_Mo_decide_72 (by decide) ?_
            exact jJ7 x13 ls H locs vc (lv_sub hl [1, 2, 3, 4, 0] rfl) hP hD hS
      · have vc := vc.2 h
        refine lv_iload_n hx hb d_Mo_decide_12 rfl (lv_at hl 3 rfl) ?_
        refine lv_if_eq (tgt := 31) hx hb d_Mo_decide_13 (by decide) (fun h => ?_) (fun h => ?_)
        · have vc := vc.1 h
          refine lv_iconst (v := 0) hx hb d_Mo_decide_31 (by decide) ?_
          refine lv_istore_n hx hb d_Mo_decide_32 rfl hl (by decide) (lv' := [(3, .int 0), (0, .ref (b 0)), (1, .int x), (2, .int y), (4, .int x4)]) rfl (fun ls hl => ?_)
          refine lv_iinc (k := 4) (v := x4 + 1) hx hb d_Mo_decide_33 hl rfl rfl (by decide) (lv' := [(4, .int (x4 + 1)), (3, .int 0), (0, .ref (b 0)), (1, .int x), (2, .int y)]) rfl (fun ls hl => ?_)
          refine lv_goto (tgt := 5) hx hb d_Mo_decide_36 (by decide) ?_
          exact ihI5 0 (x4 + 1) ls H locs vc.1 (Nat.lt_of_lt_of_le vc.2 (Nat.le_of_lt_succ hmI5)) (lv_sub hl [2, 3, 4, 1, 0] rfl) hP hD hS
        · have vc := vc.2 h
          refine lv_aload_n hx hb d_Mo_decide_16 rfl (lv_at hl 0 rfl) ?_
          refine lv_iload_n hx hb d_Mo_decide_17 rfl (lv_at hl 1 rfl) ?_
          refine lv_iload_n hx hb d_Mo_decide_18 rfl (lv_at hl 2 rfl) ?_
          refine lv_iload hx hb d_Mo_decide_19 (lv_at hl 4 rfl) ?_
          obtain ⟨hpre, vc⟩ := vc
          refine wc_V (As := [.int x, .int y, .int x4]) (rest := []) (wr := ([] : va_W)) S (c_Mo_holds l D b cI cJ cZ mki msz mle mel mme mal mic mil mio mab mae msa mlc mli mna mva mma mch mre mlv mwr msh mth mnv mns mfa mmo x y x4 hpre) k_Mo_holds i_Mo_holds e_Mo_holds o_Mo ml_Mo_231 hd_Mo_holds (Nat.le_trans (by decide) hRf) (Nat.le_trans (by decide) hRl) hRc (va_recv hK hP (q0 := 0) (ci := 6) rfl rfl) hK hP hD hS hA [0, 1, 2, 3, 4, 5, 6, 7, 8, 9, 10, 11, 12, 13, 14, 15, 16, 17, 18, 19, 20, 21, 22] [] rfl rfl rfl (by decide) (by decide) (by decide) hl.1 rfl (Nat.le_of_ble_eq_true rfl) d_Mo_decide_21 (fun t17 H locs hu hP hD hS => ?_)
          have vc := vc t17 hu
          clear hu
          have hP : va_P D vwCl (wM b cI cJ cZ mki msz mle mel mme mal mic mil mio mab mae msa mlc mli mna mva mma mch mre mlv mwr msh mth mnv mns mfa mmo) H := hP
          have hD : va_D A (wM b cI cJ cZ mki msz mle mel mme mal mic mil mio mab mae msa mlc mli mna mva mma mch mre mlv mwr msh mth mnv mns mfa mmo) := hD
          refine lv_if_eq (tgt := 31) hx hb d_Mo_decide_24 (by decide) (fun h => ?_) (fun h => ?_)
          · have vc := vc.1 h
            refine lv_iconst (v := 0) hx hb d_Mo_decide_31 (by decide) ?_
            refine lv_istore_n hx hb d_Mo_decide_32 rfl hl (by decide) (lv' := [(3, .int 0), (0, .ref (b 0)), (1, .int x), (2, .int y), (4, .int x4)]) rfl (fun ls hl => ?_)
            refine lv_iinc (k := 4) (v := x4 + 1) hx hb d_Mo_decide_33 hl rfl rfl (by decide) (lv' := [(4, .int (x4 + 1)), (3, .int 0), (0, .ref (b 0)), (1, .int x), (2, .int y)]) rfl (fun ls hl => ?_)
            refine lv_goto (tgt := 5) hx hb d_Mo_decide_36 (by decide) ?_
            exact ihI5 0 (x4 + 1) ls H locs vc.1 (Nat.lt_of_lt_of_le vc.2 (Nat.le_of_lt_succ hmI5)) (lv_sub hl [2, 3, 4, 1, 0] rfl) hP hD hS
          · have vc := vc.2 h
            refine lv_iconst (v := 1) hx hb d_Mo_decide_27 (by decide) ?_
            refine lv_goto (tgt := 32) hx hb d_Mo_decide_28 (by decide) ?_
            refine lv_istore_n hx hb d_Mo_decide_32 rfl hl (by decide) (lv' := [(3, .int 1), (0, .ref (b 0)), (1, .int x), (2, .int y), (4, .int x4)]) rfl (fun ls hl => ?_)
            refine lv_iinc (k := 4) (v := x4 + 1) hx hb d_Mo_decide_33 hl rfl rfl (by decide) (lv' := [(4, .int (x4 + 1)), (3, .int 1), (0, .ref (b 0)), (1, .int x), (2, .int y)]) rfl (fun ls hl => ?_)
            refine lv_goto (tgt := 5) hx hb d_Mo_decide_36 (by decide) ?_
            exact ihI5 1 (x4 + 1) ls H locs vc.1 (Nat.lt_of_lt_of_le vc.2 (Nat.le_of_lt_succ hmI5)) (lv_sub hl [2, 3, 4, 1, 0] rfl) hP hD hS
  exact lI5 _ 1 0 ls H locs vc0 (Nat.lt_succ_self _) (lv_sub hl [2, 3, 4, 1, 0] rfl) hP hD hS
set_option maxHeartbeats 4000000 in
theorem v_Mo_decide (mki : Nat → Int32) (msz : Nat → Int64) (mle : Nat → Int32) (mel : Nat → Int32) (mme : Nat → Int32) (mal : Nat → Int32) (mic : Nat → Int32) (mil : Nat → Int32) (mio : Nat → Int32) (mab : Nat → Int32) (mae : Nat → Int32) (msa : Nat → Int32) (mlc : Nat → Int32) (mli : Nat → Int32) (mna : Nat → Int32) (mva : Nat → Int32) (mma : Nat → Int32) (mch : Nat → Int32) (mre : Nat → Int32) (mlv : Nat → Int32) (mwr : Nat → Int64) (msh : Nat → Int32) (mth : Int32) (mnv : Int32) (mns : Int32) (mfa : Int32) (mmo : Int32) (x : Int32) (y : Int32) (hpre : (∃ n0 m0 s0 v0 : Nat, mnv = nI n0 ∧ mns = nI m0 ∧ MSOK mki msz mle mel mme mic mio msa mlc mli mna mva n0 m0 ∧ s0 < m0 ∧ v0 < n0 ∧ x = nI s0 ∧ y = nI v0)) : V_Mo_decide mki msz mle mel mme mal mic mil mio mab mae msa mlc mli mna mva mma mch mre mlv mwr msh mth mnv mns mfa mmo x y (fun mki' msz' mle' mel' mme' mal' mic' mil' mio' mab' mae' msa' mlc' mli' mna' mva' mma' mch' mre' mlv' mwr' msh' mth' mnv' mns' mfa' mmo' => ((∃ (b : Bool) (z : Int32), mva' = upd mva (40 * x.toNatClampNeg + y.toNatClampNeg) (bI b) ∧ mma' = upd mma (40 * x.toNatClampNeg + y.toNatClampNeg) (if b = true then z else 0) ∧ ∀ G : Sp, G = gM mki msz mle mel mme mal mic mil mio mab mae msa mlc mli mna mva mma mnv.toNatClampNeg → (b = true ↔ ∀ k, k < 36 → ¬ Bad G x.toNatClampNeg y.toNatClampNeg k) ∧ ∀ i, i < 32 → (bt z i = true ↔ (((ruH G x.toNatClampNeg 27 ∧ gK G y.toNatClampNeg = 5) ∨ (ruH G x.toNatClampNeg 28 ∧ gK G y.toNatClampNeg = 4)) ∧ gPb G y.toNatClampNeg i) ∨ (¬ ((ruH G x.toNatClampNeg 27 ∧ gK G y.toNatClampNeg = 5) ∨ (ruH G x.toNatClampNeg 28 ∧ gK G y.toNatClampNeg = 4)) ∧ Mrk0 G x.toNatClampNeg y.toNatClampNeg i)))) ∧ mki' = mki ∧ msz' = msz ∧ mle' = mle ∧ mel' = mel ∧ mme' = mme ∧ mal' = mal ∧ mic' = mic ∧ mil' = mil ∧ mio' = mio ∧ mab' = mab ∧ mae' = mae ∧ msa' = msa ∧ mlc' = mlc ∧ mli' = mli ∧ mna' = mna ∧ mch' = mch ∧ mre' = mre ∧ mlv' = mlv ∧ mwr' = mwr ∧ msh' = msh ∧ mth' = mth ∧ mnv' = mnv ∧ mns' = mns ∧ mfa' = mfa ∧ mmo' = mmo) := by
  have main : ∀ post : (Nat → Int32) → (Nat → Int64) → (Nat → Int32) → (Nat → Int32) → (Nat → Int32) → (Nat → Int32) → (Nat → Int32) → (Nat → Int32) → (Nat → Int32) → (Nat → Int32) → (Nat → Int32) → (Nat → Int32) → (Nat → Int32) → (Nat → Int32) → (Nat → Int32) → (Nat → Int32) → (Nat → Int32) → (Nat → Int32) → (Nat → Int32) → (Nat → Int32) → (Nat → Int64) → (Nat → Int32) → Int32 → Int32 → Int32 → Int32 → Int32 → Prop, (∀ mki' msz' mle' mel' mme' mal' mic' mil' mio' mab' mae' msa' mlc' mli' mna' mva' mma' mch' mre' mlv' mwr' msh' mth' mnv' mns' mfa' mmo', (fun mki' msz' mle' mel' mme' mal' mic' mil' mio' mab' mae' msa' mlc' mli' mna' mva' mma' mch' mre' mlv' mwr' msh' mth' mnv' mns' mfa' mmo' => ((∃ (b : Bool) (z : Int32), mva' = upd mva (40 * x.toNatClampNeg + y.toNatClampNeg) (bI b) ∧ mma' = upd mma (40 * x.toNatClampNeg + y.toNatClampNeg) (if b = true then z else 0) ∧ ∀ G : Sp, G = gM mki msz mle mel mme mal mic mil mio mab mae msa mlc mli mna mva mma mnv.toNatClampNeg → (b = true ↔ ∀ k, k < 36 → ¬ Bad G x.toNatClampNeg y.toNatClampNeg k) ∧ ∀ i, i < 32 → (bt z i = true ↔ (((ruH G x.toNatClampNeg 27 ∧ gK G y.toNatClampNeg = 5) ∨ (ruH G x.toNatClampNeg 28 ∧ gK G y.toNatClampNeg = 4)) ∧ gPb G y.toNatClampNeg i) ∨ (¬ ((ruH G x.toNatClampNeg 27 ∧ gK G y.toNatClampNeg = 5) ∨ (ruH G x.toNatClampNeg 28 ∧ gK G y.toNatClampNeg = 4)) ∧ Mrk0 G x.toNatClampNeg y.toNatClampNeg i)))) ∧ mki' = mki ∧ msz' = msz ∧ mle' = mle ∧ mel' = mel ∧ mme' = mme ∧ mal' = mal ∧ mic' = mic ∧ mil' = mil ∧ mio' = mio ∧ mab' = mab ∧ mae' = mae ∧ msa' = msa ∧ mlc' = mlc ∧ mli' = mli ∧ mna' = mna ∧ mch' = mch ∧ mre' = mre ∧ mlv' = mlv ∧ mwr' = mwr ∧ msh' = msh ∧ mth' = mth ∧ mnv' = mnv ∧ mns' = mns ∧ mfa' = mfa ∧ mmo' = mmo) mki' msz' mle' mel' mme' mal' mic' mil' mio' mab' mae' msa' mlc' mli' mna' mva' mma' mch' mre' mlv' mwr' msh' mth' mnv' mns' mfa' mmo' → post mki' msz' mle' mel' mme' mal' mic' mil' mio' mab' mae' msa' mlc' mli' mna' mva' mma' mch' mre' mlv' mwr' msh' mth' mnv' mns' mfa' mmo') → V_Mo_decide mki msz mle mel mme mal mic mil mio mab mae msa mlc mli mna mva mma mch mre mlv mwr msh mth mnv mns mfa mmo x y post := by
    intro post hpost
    unfold V_Mo_decide
    obtain ⟨n0, m0, s0, v0, hnv, hns, hS, hs, hv, rfl, rfl⟩ := hpre
    have hm24 := hS.2.2.1
    have hn40 := hS.1.1
    have hs24 : s0 < 24 := by omega
    have hv40 : v0 < 40 := by omega
    have cs : (nI s0).toNatClampNeg = s0 := nI_clamp (by omega)
    have cv : (nI v0).toNatClampNeg = v0 := nI_clamp (by omega)
    have cn : mnv.toNatClampNeg = n0 := by rw [hnv]; exact nI_clamp (by omega)
    have hxv : vp_in (nI v0) 40 := vp_in_nI hv40 (by decide)
    obtain ⟨⟨kd, hkd, ekd⟩, ⟨L, hL, eL⟩, hpart, hmem, htxt⟩ := hS.1.2.2 v0 hv40
    have cL : (nI L).toNatClampNeg = L := nI_clamp (by omega)
    have hL8 : (mle v0).toNatClampNeg ≤ 8 := by rw [eL, cL]; exact hL
    have cP : (nI (40 * s0 + v0)).toNatClampNeg = 40 * s0 + v0 := nI_clamp (by omega)
    have hP : vp_in (nI (40 * s0 + v0)) 960 := vp_in_nI (by omega) (by decide)
    have e27 : 29 * nI s0 + 27 = nI (s0 * 29 + 27) := jx29 (k := 27)
    have e28 : 29 * nI s0 + 28 = nI (s0 * 29 + 28) := jx29 (k := 28)
    have c27 : (nI (s0 * 29 + 27)).toNatClampNeg = s0 * 29 + 27 := nI_clamp (by omega)
    have c28 : (nI (s0 * 29 + 28)).toNatClampNeg = s0 * 29 + 28 := nI_clamp (by omega)
    have v27 : vp_in (nI (s0 * 29 + 27)) 696 := vp_in_nI (by omega) (by decide)
    have v28 : vp_in (nI (s0 * 29 + 28)) 696 := vp_in_nI (by omega) (by decide)
    simp only [cs, cv, cn, jx40, cP, e27, e28, c27, c28, eL] at hpost ⊢
    have gH : ∀ G, (G = gM mki msz mle mel mme mal mic mil mio mab mae msa mlc mli mna mva mma n0) → ∀ k, (ruH G s0 k ↔ ¬ msa (s0 * 29 + k) < 0) := fun G hG k => by unfold ruH; rw [(gM_eq hG).2.2.2.1]
    have gV : ∀ G, (G = gM mki msz mle mel mme mal mic mil mio mab mae msa mlc mli mna mva mma n0) → ∀ k, ruV G s0 k = (msa (s0 * 29 + k)).toNatClampNeg := fun G hG k => by unfold ruV; rw [(gM_eq hG).2.2.2.1]
    have gB : ∀ G, (G = gM mki msz mle mel mme mal mic mil mio mab mae msa mlc mli mna mva mma n0) → gPb G = mpb mki mle mme := fun G hG => (gM_eq hG).2.1
    have gT : ∀ G, (G = gM mki msz mle mel mme mal mic mil mio mab mae msa mlc mli mna mva mma n0) → gPt G = mpt mki mle mel mme := fun G hG => (gM_eq hG).2.2.1
    have gKk : ∀ G, (G = gM mki msz mle mel mme mal mic mil mio mab mae msa mlc mli mna mva mma n0) → gK G = mki := fun G hG => (gM_eq hG).1
    have gA : ∀ G, (G = gM mki msz mle mel mme mal mic mil mio mab mae msa mlc mli mna mva mma n0) → ∀ x w, (gVa G x w ↔ ¬ mva (40 * x + w) = 0) := fun G hG x w => by rw [(gM_eq hG).2.2.2.2.2.2.2.2.1]
    have row : ∀ G, (G = gM mki msz mle mel mme mal mic mil mio mab mae msa mlc mli mna mva mma n0) → mki v0 = 4 → ∀ i, (gPb G v0 i ↔ i < L) ∧ (i < L → gPt G v0 i = (mel (8 * v0 + i)).toNatClampNeg) := fun G hG h4 i => by
      rw [gB G hG, gT G hG, mpb_r hv40 h4 hL8, eL, cL]
      exact ⟨Iff.rfl, fun h => mpt_r hv40 h4 hL8 (by rw [eL, cL]; exact h)⟩
    have mem : ∀ G, (G = gM mki msz mle mel mme mal mic mil mio mab mae msa mlc mli mna mva mma n0) → mki v0 = 5 → ∀ i, i < 12 → (gPb G v0 i ↔ ¬ mme (12 * v0 + i) < 0) ∧ (¬ mme (12 * v0 + i) < 0 → gPt G v0 i = (mme (12 * v0 + i)).toNatClampNeg) := fun G hG h5 i hi => by
      rw [gB G hG, gT G hG, mpb_m hv40 h5 hi]
      exact ⟨Iff.rfl, fun h => mpt_m hv40 h5 hi h⟩
    refine ⟨fun z xk => ∃ j b, j ≤ 36 ∧ xk = nI j ∧ z = bI b ∧ ∀ G : Sp, G = gM mki msz mle mel mme mal mic mil mio mab mae msa mlc mli mna mva mma n0 → (b = true ↔ ∀ k, k < j → ¬ Bad G s0 v0 k), fun _ xk => 36 - xk.toInt.toNat, ⟨0, true, Nat.zero_le _, rfl, rfl, fun _ _ => ⟨fun _ k q => absurd q (Nat.not_lt_zero _), fun _ => rfl⟩⟩, ?_⟩
    rintro z xk ⟨j, b, hj, rfl, rfl, hb⟩
    refine ⟨fun h => ?_, fun h => ?_⟩
    rotate_left
    · have hj2 := fill_step (N := 36) h (by decide) hj
      have mu := fill_mu (N := 36) hj2 (by decide)
      have cj : (nI j).toNatClampNeg = j := nI_clamp (by omega)
      rw [cj]
      have nx : ∀ c : Bool, (∀ G : Sp, G = gM mki msz mle mel mme mal mic mil mio mab mae msa mlc mli mna mva mma n0 → (c = true ↔ (b = true ∧ ¬ Bad G s0 v0 j))) → ∃ j2 b2, j2 ≤ 36 ∧ nI j + 1 = nI j2 ∧ bI c = bI b2 ∧ ∀ G : Sp, G = gM mki msz mle mel mme mal mic mil mio mab mae msa mlc mli mna mva mma n0 → (b2 = true ↔ ∀ k, k < j2 → ¬ Bad G s0 v0 k) := fun c hc => by
        refine ⟨j + 1, c, hj2, nI_1 j, rfl, fun G hG => ?_⟩
        rw [hc G hG, hb G hG]
        constructor
        · rintro ⟨q1, q2⟩ i hi
          by_cases e : i = j
          · subst e; exact q2
          · exact q1 i (by omega)
        · intro q; exact ⟨fun i hi => q i (by omega), q j (by omega)⟩
      refine ⟨fun h2 => ⟨nx false (fun G hG => ⟨fun q => absurd q (by decide), fun q => ?_⟩), mu⟩, fun h2 => ⟨⟨n0, m0, s0, v0, hnv, hns, hS, ⟨hs, hv, rfl, rfl⟩, j, hj2, rfl⟩, fun t ht => ⟨fun h3 => ⟨nx false (fun G hG => ⟨fun q => absurd q (by decide), fun q => ?_⟩), mu⟩, fun h3 => ⟨nx true (fun G hG => ⟨fun _ => ⟨bI_ne.mp h2, (ht G hG).mp (bI_ne.mp h3)⟩, fun _ => rfl⟩), mu⟩⟩⟩⟩
      · have := q.1; rw [bI0.mp h2] at this; exact absurd this (by decide)
      · have := (ht G hG).mpr q.2; rw [bI0.mp h3] at this; exact absurd this (by decide)
    obtain rfl := fill_end (N := 36) h (by decide) hj
    refine ⟨⟨n0, m0, s0, v0, hnv, hns, hS, hs, hv, rfl, rfl⟩, fun z0 hz0 => ⟨v27, fun z => ∀ G : Sp, G = gM mki msz mle mel mme mal mic mil mio mab mae msa mlc mli mna mva mma n0 → ∀ i, i < 32 → (bt z i = true ↔ (((ruH G s0 27 ∧ gK G v0 = 5) ∨ (ruH G s0 28 ∧ gK G v0 = 4)) ∧ gPb G v0 i) ∨ (¬ ((ruH G s0 27 ∧ gK G v0 = 5) ∨ (ruH G s0 28 ∧ gK G v0 = 4)) ∧ Mrk0 G s0 v0 i)), ⟨fun h27 => ⟨v28, (msa (s0 * 29 + 28) < 0 ∨ ¬ mki v0 = 4), ⟨fun h28 => Or.inl h28, fun h28 => ⟨hxv, fun h4 => Or.inr h4, fun h4 => ⟨hxv, fun G hG i hi => ?_⟩⟩⟩, fun hJ G hG i hi => ?_⟩, fun h27 => ⟨hxv, fun h5 => ⟨v28, (msa (s0 * 29 + 28) < 0 ∨ ¬ mki v0 = 4), ⟨fun h28 => Or.inl h28, fun h28 => ⟨hxv, fun h4 => Or.inr h4, fun h4 => ⟨hxv, fun G hG i hi => ?_⟩⟩⟩, fun hJ G hG i hi => ?_⟩, fun h5 => ⟨hxv, fun m hm G hG i hi => ?_⟩⟩⟩, ?_⟩⟩
    · have hc : ((ruH G s0 27 ∧ gK G v0 = 5) ∨ (ruH G s0 28 ∧ gK G v0 = 4)) := Or.inr ⟨(gH G hG 28).mpr h28, by rw [gKk G hG]; exact h4⟩
      rw [row_all L hL i hi, decide_eq_true_eq, ← (row G hG h4 i).1]
      exact ⟨fun q => Or.inl ⟨hc, q⟩, fun q => q.elim (fun q => q.2) (fun q => absurd hc q.1)⟩
    · have hc : ¬ ((ruH G s0 27 ∧ gK G v0 = 5) ∨ (ruH G s0 28 ∧ gK G v0 = 4)) := fun q => by
        rcases q with q | q
        · exact ((gH G hG 27).mp q.1) h27
        · rcases hJ with w | w
          · exact ((gH G hG 28).mp q.1) w
          · exact w (by rw [← gKk G hG]; exact q.2)
      rw [hz0 G hG i hi]
      exact ⟨fun q => Or.inr ⟨hc, q⟩, fun q => q.elim (fun q => absurd q.1 hc) (fun q => q.2)⟩
    · have hc : ((ruH G s0 27 ∧ gK G v0 = 5) ∨ (ruH G s0 28 ∧ gK G v0 = 4)) := Or.inr ⟨(gH G hG 28).mpr h28, by rw [gKk G hG]; exact h4⟩
      rw [row_all L hL i hi, decide_eq_true_eq, ← (row G hG h4 i).1]
      exact ⟨fun q => Or.inl ⟨hc, q⟩, fun q => q.elim (fun q => q.2) (fun q => absurd hc q.1)⟩
    · have hc : ¬ ((ruH G s0 27 ∧ gK G v0 = 5) ∨ (ruH G s0 28 ∧ gK G v0 = 4)) := fun q => by
        rcases q with q | q
        · exact h5 (by rw [← gKk G hG]; exact q.2)
        · rcases hJ with w | w
          · exact ((gH G hG 28).mp q.1) w
          · exact w (by rw [← gKk G hG]; exact q.2)
      rw [hz0 G hG i hi]
      exact ⟨fun q => Or.inr ⟨hc, q⟩, fun q => q.elim (fun q => absurd q.1 hc) (fun q => q.2)⟩
    · have hc : ((ruH G s0 27 ∧ gK G v0 = 5) ∨ (ruH G s0 28 ∧ gK G v0 = 4)) := Or.inl ⟨(gH G hG 27).mpr h27, by rw [gKk G hG]; exact h5⟩
      have hp : gPb G v0 i ↔ i < 12 ∧ mki v0 = 5 ∧ ¬ mme (12 * v0 + i) < 0 := by
        rw [gB G hG]
        exact ⟨fun q => ⟨q.1, h5, (mpb_m hv40 h5 q.1).mp q⟩, fun q => (mpb_m hv40 h5 q.1).mpr q.2.2⟩
      rw [hm i hi, ← hp]
      exact ⟨fun q => Or.inl ⟨hc, q⟩, fun q => q.elim (fun q => q.2) (fun q => absurd hc q.1)⟩
    intro z7 hz7
    refine ⟨hP, jn_t (c := bI b = 0) ?_⟩
    rw [narb]
    refine ⟨hP, (hpost _ _ _ _ _ _ _ _ _ _ _ _ _ _ _ _ _ _ _ _ _ _ _ _ _ _ _ ⟨⟨b, z7, rfl, ?_, fun G hG => ⟨hb G hG, hz7 G hG⟩⟩, rfl, rfl, rfl, rfl, rfl, rfl, rfl, rfl, rfl, rfl, rfl, rfl, rfl, rfl, rfl, rfl, rfl, rfl, rfl, rfl, rfl, rfl, rfl, rfl, rfl⟩)⟩
    cases b <;> rfl
  exact main _ (fun _ _ _ _ _ _ _ _ _ _ _ _ _ _ _ _ _ _ _ _ _ _ _ _ _ _ _ h => h)
theorem c_Mo_decide (l : Launch) (D : va_G) (b : Nat → Nat) (cI cJ cZ : ClassId) (mki : Nat → Int32) (msz : Nat → Int64) (mle : Nat → Int32) (mel : Nat → Int32) (mme : Nat → Int32) (mal : Nat → Int32) (mic : Nat → Int32) (mil : Nat → Int32) (mio : Nat → Int32) (mab : Nat → Int32) (mae : Nat → Int32) (msa : Nat → Int32) (mlc : Nat → Int32) (mli : Nat → Int32) (mna : Nat → Int32) (mva : Nat → Int32) (mma : Nat → Int32) (mch : Nat → Int32) (mre : Nat → Int32) (mlv : Nat → Int32) (mwr : Nat → Int64) (msh : Nat → Int32) (mth : Int32) (mnv : Int32) (mns : Int32) (mfa : Int32) (mmo : Int32) (x : Int32) (y : Int32) (hpre : (∃ n0 m0 s0 v0 : Nat, mnv = nI n0 ∧ mns = nI m0 ∧ MSOK mki msz mle mel mme mic mio msa mlc mli mna mva n0 m0 ∧ s0 < m0 ∧ v0 < n0 ∧ x = nI s0 ∧ y = nI v0)) : Wm (S := (Nat → Int32) × (Nat → Int32)) l y_Mo_decide b_Mo_decide 5 none 6 143 [.ref (b 0), .int x, .int y] D (tyA cI cJ cZ) (wM b cI cJ cZ mki msz mle mel mme mal mic mil mio mab mae msa mlc mli mna mva mma mch mre mlv mwr msh mth mnv mns mfa mmo) (fun uu => (∃ (b : Bool) (z : Int32), uu.1 = upd mva (40 * x.toNatClampNeg + y.toNatClampNeg) (bI b) ∧ uu.2 = upd mma (40 * x.toNatClampNeg + y.toNatClampNeg) (if b = true then z else 0) ∧ ∀ G : Sp, G = gM mki msz mle mel mme mal mic mil mio mab mae msa mlc mli mna mva mma mnv.toNatClampNeg → (b = true ↔ ∀ k, k < 36 → ¬ Bad G x.toNatClampNeg y.toNatClampNeg k) ∧ ∀ i, i < 32 → (bt z i = true ↔ (((ruH G x.toNatClampNeg 27 ∧ gK G y.toNatClampNeg = 5) ∨ (ruH G x.toNatClampNeg 28 ∧ gK G y.toNatClampNeg = 4)) ∧ gPb G y.toNatClampNeg i) ∨ (¬ ((ruH G x.toNatClampNeg 27 ∧ gK G y.toNatClampNeg = 5) ∨ (ruH G x.toNatClampNeg 28 ∧ gK G y.toNatClampNeg = 4)) ∧ Mrk0 G x.toNatClampNeg y.toNatClampNeg i)))) (fun uu => none) (fun uu => (wM b cI cJ cZ mki msz mle mel mme mal mic mil mio mab mae msa mlc mli mna uu.1 uu.2 mch mre mlv mwr msh mth mnv mns mfa mmo)) :=
  wm_v (by decide) (Nat.le_of_ble_eq_true rfl) (fun p e s m below meth c ls Q A S hK hP hD hA hS hl hret => g_Mo_decide S (Nat.le_refl _) (Nat.le_refl _) ⟨Nat.le_refl _, Nat.le_refl _⟩ D b cI cJ cZ mki msz mle mel mme mal mic mil mio mab mae msa mlc mli mna mva mma mch mre mlv mwr msh mth mnv mns mfa mmo x y hK hP hD hA hS hl (v_Mo_decide mki msz mle mel mme mal mic mil mio mab mae msa mlc mli mna mva mma mch mre mlv mwr msh mth mnv mns mfa mmo x y hpre) (fun mki' msz' mle' mel' mme' mal' mic' mil' mio' mab' mae' msa' mlc' mli' mna' mva' mma' mch' mre' mlv' mwr' msh' mth' mnv' mns' mfa' mmo' ls1 pc H1 locs1 hd hv hP1 hD1 hS1 => by obtain ⟨hp, rfl, rfl, rfl, rfl, rfl, rfl, rfl, rfl, rfl, rfl, rfl, rfl, rfl, rfl, rfl, rfl, rfl, rfl, rfl, rfl, rfl, rfl, rfl, rfl, rfl⟩ := hv; exact hret (mva', mma') ls1 pc H1 locs1 hd hp hP1 hD1 hS1))
theorem hd_Mo_decide : y_Mo_decide.cls ≠ "java/lang/invoke/MethodHandle" ∧ y_Mo_decide.cls ≠ "java/lang/invoke/VarHandle" ∧ (parseMethodDescriptor y_Mo_decide.desc).map (fun d => d.parameters.length) = some 2 := ⟨by decide, by decide, by decide +kernel⟩
