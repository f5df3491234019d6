def V_Mo_reachFrom (mki : Nat → Int32) (msz : Nat → Int64) (mle : Nat → Int32) (mel : Nat → Int32) (mme : Nat → Int32) (mal : Nat → Int32) (mic : Nat → Int32) (mil : Nat → Int32) (mio : Nat → Int32) (mab : Nat → Int32) (mae : Nat → Int32) (msa : Nat → Int32) (mlc : Nat → Int32) (mli : Nat → Int32) (mna : Nat → Int32) (mva : Nat → Int32) (mma : Nat → Int32) (mch : Nat → Int32) (mre : Nat → Int32) (mlv : Nat → Int32) (mwr : Nat → Int64) (msh : Nat → Int32) (mth : Int32) (mnv : Int32) (mns : Int32) (mfa : Int32) (mmo : Int32) (x : Int32) (post : (Nat → Int32) → (Nat → Int64) → (Nat → Int32) → (Nat → Int32) → (Nat → Int32) → (Nat → Int32) → (Nat → Int32) → (Nat → Int32) → (Nat → Int32) → (Nat → Int32) → (Nat → Int32) → (Nat → Int32) → (Nat → Int32) → (Nat → Int32) → (Nat → Int32) → (Nat → Int32) → (Nat → Int32) → (Nat → Int32) → (Nat → Int32) → (Nat → Int32) → (Nat → Int64) → (Nat → Int32) → Int32 → Int32 → Int32 → Int32 → Int32 → Prop) : Prop :=
  (∃ (I7 : Int32 → (Nat → Int32) → Int32 → Prop) (mI7 : Int32 → (Nat → Int32) → Int32 → Nat), I7 17 mre mmo ∧ (∀ (x4 : Int32) (f5 : Nat → Int32) (u6 : Int32), I7 x4 f5 u6 → ((29 ≤ x4 → (∃ (I21 : Int32 → (Nat → Int32) → Int32 → Prop) (mI21 : Int32 → (Nat → Int32) → Int32 → Nat), I21 29 f5 u6 ∧ (∀ (x18 : Int32) (f19 : Nat → Int32) (u20 : Int32), I21 x18 f19 u20 → ((33 ≤ x18 → (∃ (I30 : Int32 → (Nat → Int32) → Int32 → Prop) (mI30 : Int32 → (Nat → Int32) → Int32 → Nat), I30 0 f19 u20 ∧ (∀ (x27 : Int32) (f28 : Nat → Int32) (u29 : Int32), I30 x27 f28 u29 → ((12 ≤ x27 → post mki msz mle mel mme mal mic mil mio mab mae msa mlc mli mna mva mma mch f28 mlv mwr msh mth mnv mns mfa u29) ∧ (¬ 12 ≤ x27 → (vp_in (36 * x + 12 * (33 - 33) + x27) 864 ∧ (okx (mna (36 * x + 12 * (33 - 33) + x27 : Int32).toNatClampNeg) 24 ∧ (∀ (f31 : Nat → Int32) (u32 : Int32), (RCH (mna (36 * x + 12 * (33 - 33) + x27 : Int32).toNatClampNeg) f28 u29 f31 u32) → (vp_in (36 * x + 12 * (34 - 33) + x27) 864 ∧ (okx (mna (36 * x + 12 * (34 - 33) + x27 : Int32).toNatClampNeg) 24 ∧ (∀ (f33 : Nat → Int32) (u34 : Int32), (RCH (mna (36 * x + 12 * (34 - 33) + x27 : Int32).toNatClampNeg) f31 u32 f33 u34) → (I30 (x27 + 1) f33 u34 ∧ mI30 (x27 + 1) f33 u34 < mI30 x27 f28 u29)))))))))))) ∧ (¬ 33 ≤ x18 → (∃ (I41 : Int32 → (Nat → Int32) → Int32 → Prop) (mI41 : Int32 → (Nat → Int32) → Int32 → Nat), I41 0 f19 u20 ∧ (∀ (x38 : Int32) (f39 : Nat → Int32) (u40 : Int32), I41 x38 f39 u40 → (vp_in (4 * x + x18 - 29) 96 ∧ (((mlc (4 * x + x18 - 29 : Int32).toNatClampNeg) ≤ x38 → (I21 (x18 + 1) f39 u40 ∧ mI21 (x18 + 1) f39 u40 < mI21 x18 f19 u20)) ∧ (¬ (mlc (4 * x + x18 - 29 : Int32).toNatClampNeg) ≤ x38 → (vp_in (12 * x + 3 * (x18 - 29) + x38) 288 ∧ (okx (mli (12 * x + 3 * (x18 - 29) + x38 : Int32).toNatClampNeg) 24 ∧ (∀ (f42 : Nat → Int32) (u43 : Int32), (RCH (mli (12 * x + 3 * (x18 - 29) + x38 : Int32).toNatClampNeg) f39 u40 f42 u43) → (I41 (x38 + 1) f42 u43 ∧ mI41 (x38 + 1) f42 u43 < mI41 x38 f39 u40)))))))))))))) ∧ (¬ 29 ≤ x4 → (∃ J44 : Int32 → Prop, ((x4 = 24 → J44 (-1)) ∧ (¬ x4 = 24 → ((¬ x4 = 25 → (vp_in (29 * x + x4) 696 ∧ J44 (msa (29 * x + x4 : Int32).toNatClampNeg))) ∧ (x4 = 25 → J44 (-1))))) ∧ (∀ (x45 : Int32), J44 x45 → (okx x45 24 ∧ (∀ (f46 : Nat → Int32) (u47 : Int32), (RCH x45 f5 u6 f46 u47) → (I7 (x4 + 1) f46 u47 ∧ mI7 (x4 + 1) f46 u47 < mI7 x4 f5 u6)))))))))
set_option maxHeartbeats 4000000 in
set_option maxRecDepth 100000 in
theorem g_Mo_reachFrom {p : Program} {l : Launch} {e : Env} {R : Room} {s : State} {m : MethodId} {args : Array Value} {below : List Frame} {meth : Method} {c : Code} {H : Heap} {locs : List Loc} {cells slots : Nat} {Q : State → Prop} {ls : Array Slot} {A : Nat → Prop} (S : CallFix p m c b_Mo_reachFrom 4 s args W0 R_Mo) (hRf : 1 ≤ R.frames) (hRl : 23 ≤ R.locals) (hRc : cells ≤ R.cells ∧ slots ≤ R.slots) (D : va_G) (b : Nat → Nat) (cI cJ cZ : ClassId) (mki : Nat → Int32) (msz : Nat → Int64) (mle : Nat → Int32) (mel : Nat → Int32) (mme : Nat → Int32) (mal : Nat → Int32) (mic : Nat → Int32) (mil : Nat → Int32) (mio : Nat → Int32) (mab : Nat → Int32) (mae : Nat → Int32) (msa : Nat → Int32) (mlc : Nat → Int32) (mli : Nat → Int32) (mna : Nat → Int32) (mva : Nat → Int32) (mma : Nat → Int32) (mch : Nat → Int32) (mre : Nat → Int32) (mlv : Nat → Int32) (mwr : Nat → Int64) (msh : Nat → Int32) (mth : Int32) (mnv : Int32) (mns : Int32) (mfa : Int32) (mmo : Int32) (x : Int32) (hK : va_K D vwCl (tyA cI cJ cZ) s) (hP : va_P D vwCl (wM b cI cJ cZ mki msz mle mel mme mal mic mil mio mab mae msa mlc mli mna mva mma mch mre mlv mwr msh mth mnv mns mfa mmo) H) (hD : va_D A (wM b cI cJ cZ mki msz mle mel mme mal mic mil mio mab mae msa mlc mli mna mva mma mch mre mlv mwr msh mth mnv mns mfa mmo)) (hA : ∀ q, s.heap.size ≤ q → A q) (hS : va_S A s.heap H locs) (hl : lv_has ls 4 [(0, .ref (b 0)), (1, .int x)]) {post : (Nat → Int32) → (Nat → Int64) → (Nat → Int32) → (Nat → Int32) → (Nat → Int32) → (Nat → Int32) → (Nat → Int32) → (Nat → Int32) → (Nat → Int32) → (Nat → Int32) → (Nat → Int32) → (Nat → Int32) → (Nat → Int32) → (Nat → Int32) → (Nat → Int32) → (Nat → Int32) → (Nat → Int32) → (Nat → Int32) → (Nat → Int32) → (Nat → Int32) → (Nat → Int64) → (Nat → Int32) → Int32 → Int32 → Int32 → Int32 → Int32 → Prop} (vc : V_Mo_reachFrom mki msz mle mel mme mal mic mil mio mab mae msa mlc mli mna mva mma mch mre mlv mwr msh mth mnv mns mfa mmo x post)
    (hret : ∀ (mki : Nat → Int32) (msz : Nat → Int64) (mle : Nat → Int32) (mel : Nat → Int32) (mme : Nat → Int32) (mal : Nat → Int32) (mic : Nat → Int32) (mil : Nat → Int32) (mio : Nat → Int32) (mab : Nat → Int32) (mae : Nat → Int32) (msa : Nat → Int32) (mlc : Nat → Int32) (mli : Nat → Int32) (mna : Nat → Int32) (mva : Nat → Int32) (mma : Nat → Int32) (mch : Nat → Int32) (mre : Nat → Int32) (mlv : Nat → Int32) (mwr : Nat → Int64) (msh : Nat → Int32) (mth : Int32) (mnv : Int32) (mns : Int32) (mfa : Int32) (mmo : Int32) (ls : Array Slot) (pc : Nat) (H : Heap) (locs : List Loc), decode b_Mo_reachFrom pc = .ok (.return_, 1) → post mki msz mle mel mme mal mic mil mio mab mae msa mlc mli mna mva mma mch mre mlv mwr msh mth mnv mns mfa mmo → va_P D vwCl (wM b cI cJ cZ mki msz mle mel mme mal mic mil mio mab mae msa mlc mli mna mva mma mch mre mlv mwr msh mth mnv mns mfa mmo) H → va_D A (wM b cI cJ cZ mki msz mle mel mme mal mic mil mio mab mae msa mlc mli mna mva mma mch mre mlv mwr msh mth mnv mns mfa mmo) → va_S A s.heap H locs → W p l e R s m args below meth c H locs cells slots Q (F0 m pc ls [])) : W p l e R s m args below meth c H locs cells slots Q (F0 m 0 ls []) := by
  have hx := S.1
  have hb := S.2.1
  have hown := S.2.2.2.1
  have hts := S.2.2.2.2
  unfold V_Mo_reachFrom at vc
  refine lv_bipush (v := 17) hx hb d_Mo_reachFrom_0 (by decide) ?_
  refine lv_istore_n hx hb d_Mo_reachFrom_2 rfl hl (by decide) (lv' := [(2, .int 17), (0, .ref (b 0)), (1, .int x)]) rfl (fun ls hl => ?_)
  obtain ⟨I7, mI7, vc0, vcs⟩ := vc
  have lI7 : ∀ n : Nat, ∀ (x4 : Int32) (f5 : Nat → Int32) (u6 : Int32) (ls : Array Slot) (H : Heap) (locs : List Loc), I7 x4 f5 u6 → mI7 x4 f5 u6 < n → lv_has ls 4 [(0, .ref (b 0)), (1, .int x), (2, .int x4)] → va_P D vwCl (wM b cI cJ cZ mki msz mle mel mme mal mic mil mio mab mae msa mlc mli mna mva mma mch f5 mlv mwr msh mth mnv mns mfa u6) H → va_D A (wM b cI cJ cZ mki msz mle mel mme mal mic mil mio mab mae msa mlc mli mna mva mma mch f5 mlv mwr msh mth mnv mns mfa u6) → va_S A s.heap H locs → W p l e R s m args below meth c H locs cells slots Q (F0 m 3 ls []) := by
    intro n
    induction n with
    | zero => intro x4 f5 u6 ls H locs _ h; exact absurd h (Nat.not_lt_zero _)
    | succ n ihI7 =>
      intro x4 f5 u6 ls H locs vc hmI7 hl hP hD hS
      have vc := vcs x4 f5 u6 vc
      refine lv_iload_n hx hb d_Mo_reachFrom_3 rfl (lv_at hl 2 rfl) ?_
      refine lv_bipush (v := 29) hx hb d_Mo_reachFrom_4 (by decide) ?_
      refine lv_icmp_ge (tgt := 41) hx hb d_Mo_reachFrom_6 (by decide) (fun h => ?_) (fun h => ?_)
      · have vc := vc.1 h
        refine lv_bipush (v := 29) hx hb d_Mo_reachFrom_41 (by decide) ?_
        refine lv_istore_n hx hb d_Mo_reachFrom_43 rfl hl (by decide) (lv' := [(2, .int 29), (0, .ref (b 0)), (1, .int x)]) rfl (fun ls hl => ?_)
        obtain ⟨I21, mI21, vc0, vcs⟩ := vc
        have lI21 : ∀ n : Nat, ∀ (x18 : Int32) (f19 : Nat → Int32) (u20 : Int32) (ls : Array Slot) (H : Heap) (locs : List Loc), I21 x18 f19 u20 → mI21 x18 f19 u20 < n → lv_has ls 4 [(0, .ref (b 0)), (1, .int x), (2, .int x18)] → va_P D vwCl (wM b cI cJ cZ mki msz mle mel mme mal mic mil mio mab mae msa mlc mli mna mva mma mch f19 mlv mwr msh mth mnv mns mfa u20) H → va_D A (wM b cI cJ cZ mki msz mle mel mme mal mic mil mio mab mae msa mlc mli mna mva mma mch f19 mlv mwr msh mth mnv mns mfa u20) → va_S A s.heap H locs → W p l e R s m args below meth c H locs cells slots Q (F0 m 44 ls []) := by
          intro n
          induction n with
          | zero => intro x18 f19 u20 ls H locs _ h; exact absurd h (Nat.not_lt_zero _)
          | succ n ihI21 =>
            intro x18 f19 u20 ls H locs vc hmI21 hl hP hD hS
            have vc := vcs x18 f19 u20 vc
            refine lv_iload_n hx hb d_Mo_reachFrom_44 rfl (lv_at hl 2 rfl) ?_
            refine lv_bipush (v := 33) hx hb d_Mo_reachFrom_45 (by decide) ?_
            refine lv_icmp_ge (tgt := 85) hx hb d_Mo_reachFrom_47 (by decide) (fun h => ?_) (fun h => ?_)
            · have vc := vc.1 h
              refine lv_iconst (v := 0) hx hb d_Mo_reachFrom_85 (by decide) ?_
              refine lv_istore_n hx hb d_Mo_reachFrom_86 rfl hl (by decide) (lv' := [(2, .int 0), (0, .ref (b 0)), (1, .int x)]) rfl (fun ls hl => ?_)
              obtain ⟨I30, mI30, vc0, vcs⟩ := vc
              have lI30 : ∀ n : Nat, ∀ (x27 : Int32) (f28 : Nat → Int32) (u29 : Int32) (ls : Array Slot) (H : Heap) (locs : List Loc), I30 x27 f28 u29 → mI30 x27 f28 u29 < n → lv_has ls 4 [(0, .ref (b 0)), (1, .int x), (2, .int x27)] → va_P D vwCl (wM b cI cJ cZ mki msz mle mel mme mal mic mil mio mab mae msa mlc mli mna mva mma mch f28 mlv mwr msh mth mnv mns mfa u29) H → va_D A (wM b cI cJ cZ mki msz mle mel mme mal mic mil mio mab mae msa mlc mli mna mva mma mch f28 mlv mwr msh mth mnv mns mfa u29) → va_S A s.heap H locs → W p l e R s m args below meth c H locs cells slots Q (F0 m 87 ls []) := by
                intro n
                induction n with
                | zero => intro x27 f28 u29 ls H locs _ h; exact absurd h (Nat.not_lt_zero _)
                | succ n ihI30 =>
                  intro x27 f28 u29 ls H locs vc hmI30 hl hP hD hS
                  have vc := vcs x27 f28 u29 vc
                  refine lv_iload_n hx hb d_Mo_reachFrom_87 rfl (lv_at hl 2 rfl) ?_
                  refine lv_bipush (v := 12) hx hb d_Mo_reachFrom_88 (by decide) ?_
                  refine lv_icmp_ge (tgt := 123) hx hb d_Mo_reachFrom_90 (by decide) (fun h => ?_) (fun h => ?_)
                  · have vc := vc.1 h
                    exact hret _ _ _ _ _ _ _ _ _ _ _ _ _ _ _ _ _ _ _ _ _ _ _ _ _ _ _ ls _ H locs d_Mo_reachFrom_123 vc hP hD hS
                  · have vc := vc.2 h
                    refine lv_aload_n hx hb d_Mo_reachFrom_93 rfl (lv_at hl 0 rfl) ?_
                    refine lv_aload_n hx hb d_Mo_reachFrom_94 rfl (lv_at hl 0 rfl) ?_
                    refine lv_iload_n hx hb d_Mo_reachFrom_95 rfl (lv_at hl 1 rfl) ?_
                    refine lv_bipush (v := 33) hx hb d_Mo_reachFrom_96 (by decide) ?_
                    refine lv_iload_n hx hb d_Mo_reachFrom_98 rfl (lv_at hl 2 rfl) ?_
                    obtain ⟨hpre, vc⟩ := vc
                    refine pc_V (As := [.int x, .int 33, .int x27]) (rest := [.ref (b 0)]) S (c_Mo_byName l D b cI cJ cZ mki msz mle mel mme mal mic mil mio mab mae msa mlc mli mna mva mma mch f28 mlv mwr msh mth mnv mns mfa u29 x 33 x27 hpre) wB_blind k_Mo_byName i_Mo_byName e_Mo_byName o_Mo ml_Mo_154 hd_Mo_byName (Nat.le_trans (by decide) hRf) (Nat.le_trans (by decide) hRl) hRc (va_recv hK hP (q0 := 0) (ci := 6) rfl rfl) (wB_at hP hK) hl.1 rfl (Nat.le_of_ble_eq_true rfl) d_Mo_reachFrom_99 ?_
                    obtain ⟨hpre, vc⟩ := vc
                    refine wc_V (As := [.int (mna (36 * x + 12 * (33 - 33) + x27 : Int32).toNatClampNeg)]) (rest := []) (wr := ([] : va_W)) S (c_Mo_reach l D b cI cJ cZ mki msz mle mel mme mal mic mil mio mab mae msa mlc mli mna mva mma mch f28 mlv mwr msh mth mnv mns mfa u29 (mna (36 * x + 12 * (33 - 33) + x27 : Int32).toNatClampNeg) hpre) k_Mo_reach i_Mo_reach e_Mo_reach o_Mo ml_Mo_144 hd_Mo_reach (Nat.le_trans (by decide) hRf) (Nat.le_trans (by decide) hRl) hRc (va_recv hK hP (q0 := 0) (ci := 6) rfl rfl) hK hP hD hS hA [0, 1, 2, 3, 4, 5, 6, 7, 8, 9, 10, 11, 12, 13, 14, 15, 16, 17, 18, 19, 20, 21, 22] [] rfl rfl rfl (by decide) (by decide) (by decide) hl.1 rfl (Nat.le_of_ble_eq_true rfl) d_Mo_reachFrom_102 (fun u H locs hu hP hD hS => ?_)
                    obtain ⟨f31, u32⟩ := u
                    have vc := vc f31 u32 hu
                    clear hu
                    have hP : va_P D vwCl (wM b cI cJ cZ mki msz mle mel mme mal mic mil mio mab mae msa mlc mli mna mva mma mch f31 mlv mwr msh mth mnv mns mfa u32) H := hP
                    have hD : va_D A (wM b cI cJ cZ mki msz mle mel mme mal mic mil mio mab mae msa mlc mli mna mva mma mch f31 mlv mwr msh mth mnv mns mfa u32) := hD
                    refine lv_aload_n hx hb d_Mo_reachFrom_105 rfl (lv_at hl 0 rfl) ?_
                    refine lv_aload_n hx hb d_Mo_reachFrom_106 rfl (lv_at hl 0 rfl) ?_
                    refine lv_iload_n hx hb d_Mo_reachFrom_107 rfl (lv_at hl 1 rfl) ?_
                    refine lv_bipush (v := 34) hx hb d_Mo_reachFrom_108 (by decide) ?_
                    refine lv_iload_n hx hb d_Mo_reachFrom_110 rfl (lv_at hl 2 rfl) ?_
                    obtain ⟨hpre, vc⟩ := vc
                    refine pc_V (As := [.int x, .int 34, .int x27]) (rest := [.ref (b 0)]) S (c_Mo_byName l D b cI cJ cZ mki msz mle mel mme mal mic mil mio mab mae msa mlc mli mna mva mma mch f31 mlv mwr msh mth mnv mns mfa u32 x 34 x27 hpre) wB_blind k_Mo_byName i_Mo_byName e_Mo_byName o_Mo ml_Mo_154 hd_Mo_byName (Nat.le_trans (by decide) hRf) (Nat.le_trans (by decide) hRl) hRc (va_recv hK hP (q0 := 0) (ci := 6) rfl rfl) (wB_at hP hK) hl.1 rfl (Nat.le_of_ble_eq_true rfl) d_Mo_reachFrom_111 ?_
                    obtain ⟨hpre, vc⟩ := vc
                    refine wc_V (As := [.int (mna (36 * x + 12 * (34 - 33) + x27 : Int32).toNatClampNeg)]) (rest := []) (wr := ([] : va_W)) S (c_Mo_reach l D b cI cJ cZ mki msz mle mel mme mal mic mil mio mab mae msa mlc mli mna mva mma mch f31 mlv mwr msh mth mnv mns mfa u32 (mna (36 * x + 12 * (34 - 33) + x27 : Int32).toNatClampNeg) hpre) k_Mo_reach i_Mo_reach e_Mo_reach o_Mo ml_Mo_144 hd_Mo_reach (Nat.le_trans (by decide) hRf) (Nat.le_trans (by decide) hRl) hRc (va_recv hK hP (q0 := 0) (ci := 6) rfl rfl) hK hP hD hS hA [0, 1, 2, 3, 4, 5, 6, 7, 8, 9, 10, 11, 12, 13, 14, 15, 16, 17, 18, 19, 20, 21, 22] [] rfl rfl rfl (by decide) (by decide) (by decide) hl.1 rfl (Nat.le_of_ble_eq_true rfl) d_Mo_reachFrom_114 (fun u H locs hu hP hD hS => ?_)
                    obtain ⟨f33, u34⟩ := u
                    have vc := vc f33 u34 hu
                    clear hu
                    have hP : va_P D vwCl (wM b cI cJ cZ mki msz mle mel mme mal mic mil mio mab mae msa mlc mli mna mva mma mch f33 mlv mwr msh mth mnv mns mfa u34) H := hP
                    have hD : va_D A (wM b cI cJ cZ mki msz mle mel mme mal mic mil mio mab mae msa mlc mli mna mva mma mch f33 mlv mwr msh mth mnv mns mfa u34) := hD
                    refine lv_iinc (k := 2) (v := x27 + 1) hx hb d_Mo_reachFrom_117 hl rfl rfl (by decide) (lv' := [(2, .int (x27 + 1)), (0, .ref (b 0)), (1, .int x)]) rfl (fun ls hl => ?_)
                    refine lv_goto (tgt := 87) hx hb d_Mo_reachFrom_120 (by decide) ?_
                    exact ihI30 (x27 + 1) f33 u34 ls H locs vc.1 (Nat.lt_of_lt_of_le vc.2 (Nat.le_of_lt_succ hmI30)) (lv_sub hl [1, 2, 0] rfl) hP hD hS
              exact lI30 _ 0 f19 u20 ls H locs vc0 (Nat.lt_succ_self _) (lv_sub hl [1, 2, 0] rfl) hP hD hS
            · have vc := vc.2 h
              refine lv_iconst (v := 0) hx hb d_Mo_reachFrom_50 (by decide) ?_
              refine lv_istore_n hx hb d_Mo_reachFrom_51 rfl hl (by decide) (lv' := [(3, .int 0), (0, .ref (b 0)), (1, .int x), (2, .int x18)]) rfl (fun ls hl => ?_)
              obtain ⟨I41, mI41, vc0, vcs⟩ := vc
              have lI41 : ∀ n : Nat, ∀ (x38 : Int32) (f39 : Nat → Int32) (u40 : Int32) (ls : Array Slot) (H : Heap) (locs : List Loc), I41 x38 f39 u40 → mI41 x38 f39 u40 < n → lv_has ls 4 [(0, .ref (b 0)), (1, .int x), (2, .int x18), (3, .int x38)] → va_P D vwCl (wM b cI cJ cZ mki msz mle mel mme mal mic mil mio mab mae msa mlc mli mna mva mma mch f39 mlv mwr msh mth mnv mns mfa u40) H → va_D A (wM b cI cJ cZ mki msz mle mel mme mal mic mil mio mab mae msa mlc mli mna mva mma mch f39 mlv mwr msh mth mnv mns mfa u40) → va_S A s.heap H locs → W p l e R s m args below meth c H locs cells slots Q (F0 m 52 ls []) := by
                intro n
                induction n with
                | zero => intro x38 f39 u40 ls H locs _ h; exact absurd h (Nat.not_lt_zero _)
                | succ n ihI41 =>
                  intro x38 f39 u40 ls H locs vc hmI41 hl hP hD hS
                  have vc := vcs x38 f39 u40 vc
                  refine lv_iload_n hx hb d_Mo_reachFrom_52 rfl (lv_at hl 3 rfl) ?_
                  refine lv_aload_n hx hb d_Mo_reachFrom_53 rfl (lv_at hl 0 rfl) ?_
                  refine lv_iload_n hx hb d_Mo_reachFrom_54 rfl (lv_at hl 1 rfl) ?_
                  refine lv_iload_n hx hb d_Mo_reachFrom_55 rfl (lv_at hl 2 rfl) ?_
                  obtain ⟨hpre, vc⟩ := vc
                  refine pc_V (As := [.int x, .int x18]) (rest := [.int x38]) S (c_Mo_many l D b cI cJ cZ mki msz mle mel mme mal mic mil mio mab mae msa mlc mli mna mva mma mch f39 mlv mwr msh mth mnv mns mfa u40 x x18 hpre) wB_blind k_Mo_many i_Mo_many e_Mo_many o_Mo ml_Mo_148 hd_Mo_many (Nat.le_trans (by decide) hRf) (Nat.le_trans (by decide) hRl) hRc (va_recv hK hP (q0 := 0) (ci := 6) rfl rfl) (wB_at hP hK) hl.1 rfl (Nat.le_of_ble_eq_true rfl) d_Mo_reachFrom_56 ?_
                  refine lv_icmp_ge (tgt := 79) hx hb d_Mo_reachFrom_59 (by decide) (fun h => ?_) (fun h => ?_)
                  · have vc := vc.1 h
                    refine lv_iinc (k := 2) (v := x18 + 1) hx hb d_Mo_reachFrom_79 hl rfl rfl (by decide) (lv' := [(2, .int (x18 + 1)), (0, .ref (b 0)), (1, .int x), (3, .int x38)]) rfl (fun ls hl => ?_)
                    refine lv_goto (tgt := 44) hx hb d_Mo_reachFrom_82 (by decide) ?_
                    exact ihI21 (x18 + 1) f39 u40 ls H locs vc.1 (Nat.lt_of_lt_of_le vc.2 (Nat.le_of_lt_succ hmI21)) (lv_sub hl [1, 2, 0] rfl) hP hD hS
                  · have vc := vc.2 h
                    refine lv_aload_n hx hb d_Mo_reachFrom_62 rfl (lv_at hl 0 rfl) ?_
                    refine lv_aload_n hx hb d_Mo_reachFrom_63 rfl (lv_at hl 0 rfl) ?_
                    refine lv_iload_n hx hb d_Mo_reachFrom_64 rfl (lv_at hl 1 rfl) ?_
                    refine lv_iload_n hx hb d_Mo_reachFrom_65 rfl (lv_at hl 2 rfl) ?_
                    refine lv_iload_n hx hb d_Mo_reachFrom_66 rfl (lv_at hl 3 rfl) ?_
                    obtain ⟨hpre, vc⟩ := vc
                    refine pc_V (As := [.int x, .int x18, .int x38]) (rest := [.ref (b 0)]) S (c_Mo_listed l D b cI cJ cZ mki msz mle mel mme mal mic mil mio mab mae msa mlc mli mna mva mma mch f39 mlv mwr msh mth mnv mns mfa u40 x x18 x38 hpre) wB_blind k_Mo_listed i_Mo_listed e_Mo_listed o_Mo ml_Mo_151 hd_Mo_listed (Nat.le_trans (by decide) hRf) (Nat.le_trans (by decide) hRl) hRc (va_recv hK hP (q0 := 0) (ci := 6) rfl rfl) (wB_at hP hK) hl.1 rfl (Nat.le_of_ble_eq_true rfl) d_Mo_reachFrom_67 ?_
                    obtain ⟨hpre, vc⟩ := vc
                    refine wc_V (As := [.int (mli (12 * x + 3 * (x18 - 29) + x38 : Int32).toNatClampNeg)]) (rest := []) (wr := ([] : va_W)) S (c_Mo_reach l D b cI cJ cZ mki msz mle mel mme mal mic mil mio mab mae msa mlc mli mna mva mma mch f39 mlv mwr msh mth mnv mns mfa u40 (mli (12 * x + 3 * (x18 - 29) + x38 : Int32).toNatClampNeg) hpre) k_Mo_reach i_Mo_reach e_Mo_reach o_Mo ml_Mo_144 hd_Mo_reach (Nat.le_trans (by decide) hRf) (Nat.le_trans (by decide) hRl) hRc (va_recv hK hP (q0 := 0) (ci := 6) rfl rfl) hK hP hD hS hA [0, 1, 2, 3, 4, 5, 6, 7, 8, 9, 10, 11, 12, 13, 14, 15, 16, 17, 18, 19, 20, 21, 22] [] rfl rfl rfl (by decide) (by decide) (by decide) hl.1 rfl (Nat.le_of_ble_eq_true rfl) d_Mo_reachFrom_70 (fun u H locs hu hP hD hS => ?_)
                    obtain ⟨f42, u43⟩ := u
                    have vc := vc f42 u43 hu
                    clear hu
                    have hP : va_P D vwCl (wM b cI cJ cZ mki msz mle mel mme mal mic mil mio mab mae msa mlc mli mna mva mma mch f42 mlv mwr msh mth mnv mns mfa u43) H := hP
                    have hD : va_D A (wM b cI cJ cZ mki msz mle mel mme mal mic mil mio mab mae msa mlc mli mna mva mma mch f42 mlv mwr msh mth mnv mns mfa u43) := hD
                    refine lv_iinc (k := 3) (v := x38 + 1) hx hb d_Mo_reachFrom_73 hl rfl rfl (by decide) (lv' := [(3, .int (x38 + 1)), (0, .ref (b 0)), (1, .int x), (2, .int x18)]) rfl (fun ls hl => ?_)
                    refine lv_goto (tgt := 52) hx hb d_Mo_reachFrom_76 (by decide) ?_
                    exact ihI41 (x38 + 1) f42 u43 ls H locs vc.1 (Nat.lt_of_lt_of_le vc.2 (Nat.le_of_lt_succ hmI41)) (lv_sub hl [1, 2, 3, 0] rfl) hP hD hS
              exact lI41 _ 0 f19 u20 ls H locs vc0 (Nat.lt_succ_self _) (lv_sub hl [1, 2, 3, 0] rfl) hP hD hS
        exact lI21 _ 29 f5 u6 ls H locs vc0 (Nat.lt_succ_self _) (lv_sub hl [1, 2, 0] rfl) hP hD hS
      · have vc := vc.2 h
        refine lv_aload_n hx hb d_Mo_reachFrom_9 rfl (lv_at hl 0 rfl) ?_
        refine lv_iload_n hx hb d_Mo_reachFrom_10 rfl (lv_at hl 2 rfl) ?_
        refine lv_bipush (v := 24) hx hb d_Mo_reachFrom_11 (by decide) ?_
        obtain ⟨J44, vc, vc2⟩ := vc
        have jJ44 : ∀ (x45 : Int32) (ls : Array Slot) (H : Heap) (locs : List Loc), J44 x45 → lv_has ls 4 [(0, .ref (b 0)), (1, .int x), (2, .int x4)] → va_P D vwCl (wM b cI cJ cZ mki msz mle mel mme mal mic mil mio mab mae msa mlc mli mna mva mma mch f5 mlv mwr msh mth mnv mns mfa u6) H → va_D A (wM b cI cJ cZ mki msz mle mel mme mal mic mil mio mab mae msa mlc mli mna mva mma mch f5 mlv mwr msh mth mnv mns mfa u6) → va_S A s.heap H locs → W p l e R s m args below meth c H locs cells slots Q (F0 m 32 ls [.int x45, .ref (b 0)]) := by
          intro x45 ls H locs vc hl hP hD hS
          have vc := vc2 x45 vc
          obtain ⟨hpre, vc⟩ := vc
          refine wc_V (As := [.int x45]) (rest := []) (wr := ([] : va_W)) S (c_Mo_reach l D b cI cJ cZ mki msz mle mel mme mal mic mil mio mab mae msa mlc mli mna mva mma mch f5 mlv mwr msh mth mnv mns mfa u6 x45 hpre) k_Mo_reach i_Mo_reach e_Mo_reach o_Mo ml_Mo_144 hd_Mo_reach (Nat.le_trans (by decide) hRf) (Nat.le_trans (by decide) hRl) hRc (va_recv hK hP (q0 := 0) (ci := 6) rfl rfl) hK hP hD hS hA [0, 1, 2, 3, 4, 5, 6, 7, 8, 9, 10, 11, 12, 13, 14, 15, 16, 17, 18, 19, 20, 21, 22] [] rfl rfl rfl (by decide) (by decide) (by decide) hl.1 rfl (Nat.le_of_ble_eq_true rfl) d_Mo_reachFrom_32 (fun u H locs hu hP hD hS => ?_)
          obtain ⟨f46, u47⟩ := u
          have vc := vc f46 u47 hu
          clear hu
          have hP : va_P D vwCl (wM b cI cJ cZ mki msz mle mel mme mal mic mil mio mab mae msa mlc mli mna mva mma mch f46 mlv mwr msh mth mnv mns mfa u47) H := hP
          have hD : va_D A (wM b cI cJ cZ mki msz mle mel mme mal mic mil mio mab mae msa mlc mli mna mva mma mch f46 mlv mwr msh mth mnv mns mfa u47) := hD
          refine lv_iinc (k := 2) (v := x4 + 1) hx hb d_Mo_reachFrom_35 hl rfl rfl (by decide) (lv' := [(2, .int (x4 + 1)), (0, .ref (b 0)), (1, .int x)]) rfl (fun ls hl => ?_)
          refine lv_goto (tgt := 3) hx hb d_Mo_reachFrom_38 (by decide) ?_
          exact ihI7 (x4 + 1) f46 u47 ls H locs vc.1 (Nat.lt_of_lt_of_le vc.2 (Nat.le_of_lt_succ hmI7)) (lv_sub hl [1, 2, 0] rfl) hP hD hS
        clear vc2
        refine lv_icmp_eq (tgt := 22) hx hb d_Mo_reachFrom_13 (by decide) (fun h => ?_) (fun h => ?_)
        · have vc := vc.1 h
          refine lv_iconst (v := (-1)) hx hb d_Mo_reachFrom_22 (by decide) ?_
          refine lv_goto (tgt := 32) hx hb d_Mo_reachFrom_23 (by decide) ?_
          exact jJ44 (-1) ls H locs vc (lv_sub hl [0, 1, 2] rfl) hP hD hS
        · have vc := vc.2 h
          refine lv_iload_n hx hb d_Mo_reachFrom_16 rfl (lv_at hl 2 rfl) ?_
          refine lv_bipush (v := 25) hx hb d_Mo_reachFrom_17 (by decide) ?_
          refine lv_icmp_ne (tgt := 26) hx hb d_Mo_reachFrom_19 (by decide) (fun h => ?_) (fun h => ?_)
          · have vc := vc.1 h
            refine lv_aload_n hx hb d_Mo_reachFrom_26 rfl (lv_at hl 0 rfl) ?_
            refine lv_iload_n hx hb d_Mo_reachFrom_27 rfl (lv_at hl 1 rfl) ?_
            refine lv_iload_n hx hb d_Mo_reachFrom_28 rfl (lv_at hl 2 rfl) ?_
            obtain ⟨hpre, vc⟩ := vc
            refine pc_V (As := [.int x, .int x4]) (rest := [.ref (b 0)]) S (c_Mo_said l D b cI cJ cZ mki msz mle mel mme mal mic mil mio mab mae msa mlc mli mna mva mma mch f5 mlv mwr msh mth mnv mns mfa u6 x x4 hpre) wB_blind k_Mo_said i_Mo_said e_Mo_said o_Mo ml_Mo_141 hd_Mo_said (Nat.le_trans (by decide) hRf) (Nat.le_trans (by decide) hRl) hRc (va_recv hK hP (q0 := 0) (ci := 6) rfl rfl) (wB_at hP hK) hl.1 rfl (Nat.le_of_ble_eq_true rfl) d_Mo_reachFrom_29 ?_
            exact jJ44 (msa (29 * x + x4 : Int32).toNatClampNeg) ls H locs vc (lv_sub hl [0, 1, 2] rfl) hP hD hS
          · have vc := vc.2 h
            refine lv_iconst (v := (-1)) hx hb d_Mo_reachFrom_22 (by decide) ?_
            refine lv_goto (tgt := 32) hx hb d_Mo_reachFrom_23 (by decide) ?_
            exact jJ44 (-1) ls H locs vc (lv_sub hl [0, 1, 2] rfl) hP hD hS
  exact lI7 _ 17 mre mmo ls H locs vc0 (Nat.lt_succ_self _) (lv_sub hl [1, 2, 0] rfl) hP hD hS
set_option maxHeartbeats 4000000 in
theorem v_Mo_reachFrom (mki : Nat → Int32) (msz : Nat → Int64) (mle : Nat → Int32) (mel : Nat → Int32) (mme : Nat → Int32) (mal : Nat → Int32) (mic : Nat → Int32) (mil : Nat → Int32) (mio : Nat → Int32) (mab : Nat → Int32) (mae : Nat → Int32) (msa : Nat → Int32) (mlc : Nat → Int32) (mli : Nat → Int32) (mna : Nat → Int32) (mva : Nat → Int32) (mma : Nat → Int32) (mch : Nat → Int32) (mre : Nat → Int32) (mlv : Nat → Int32) (mwr : Nat → Int64) (msh : Nat → Int32) (mth : Int32) (mnv : Int32) (mns : Int32) (mfa : Int32) (mmo : Int32) (x : Int32) (hpre : (∃ s n : Nat, s < 24 ∧ n ≤ 24 ∧ x = nI s ∧ LdOK msa mlc mli mna n ∧ LeOK mlc)) : V_Mo_reachFrom mki msz mle mel mme mal mic mil mio mab mae msa mlc mli mna mva mma mch mre mlv mwr msh mth mnv mns mfa mmo x (fun mki' msz' mle' mel' mme' mal' mic' mil' mio' mab' mae' msa' mlc' mli' mna' mva' mma' mch' mre' mlv' mwr' msh' mth' mnv' mns' mfa' mmo' => (MkI (fun t => bt (sLIP msa mlc mli mna x.toNatClampNeg ||| sLEW msa mlc mli mna x.toNatClampNeg) t = true) (fun t => bt (sLIP msa mlc mli mna x.toNatClampNeg ||| sLEW msa mlc mli mna x.toNatClampNeg) t = true) mre mmo mre' mmo') ∧ mki' = mki ∧ msz' = msz ∧ mle' = mle ∧ mel' = mel ∧ mme' = mme ∧ mal' = mal ∧ mic' = mic ∧ mil' = mil ∧ mio' = mio ∧ mab' = mab ∧ mae' = mae ∧ msa' = msa ∧ mlc' = mlc ∧ mli' = mli ∧ mna' = mna ∧ mva' = mva ∧ mma' = mma ∧ mch' = mch ∧ mlv' = mlv ∧ mwr' = mwr ∧ msh' = msh ∧ mth' = mth ∧ mnv' = mnv ∧ mns' = mns ∧ mfa' = mfa) := by
  unfold V_Mo_reachFrom
  obtain ⟨q, n, hq, hn, rfl, hL, hle⟩ := hpre
  rw [nI_clamp (n := q) (by omega)]
  generalize hP : (fun t => bt (sLIP msa mlc mli mna q ||| sLEW msa mlc mli mna q) t = true) = P
  have AN : ∀ t, P t ↔ t < 32 ∧ ((∃ j, 17 ≤ j ∧ j < 29 ∧ j ≠ 24 ∧ j ≠ 25 ∧ msa (q * 29 + j) = nI t) ∨ (∃ k i, k < 4 ∧ i < (mlc (q * 4 + k)).toNatClampNeg ∧ mli ((q * 4 + k) * 3 + i) = nI t) ∨ ∃ k i, k < 2 ∧ i < 12 ∧ mna ((q * 3 + k) * 12 + i) = nI t) := fun t => by rw [← hP]; exact LAN_iff hn hL hq
  refine ⟨fun x f m => ∃ k, 17 ≤ k ∧ k ≤ 29 ∧ x = nI k ∧ MkI P (fun t => ∃ j, 17 ≤ j ∧ j < k ∧ j ≠ 24 ∧ j ≠ 25 ∧ msa (q * 29 + j) = nI t) mre mmo f m, fun x _ _ => 29 - x.toInt.toNat, ⟨17, by decide, by decide, rfl, fun t h => absurd rfl h, Or.inl ⟨rfl, rfl⟩, fun t _ ⟨j, w1, w2, _⟩ => by omega⟩, ?_⟩
  rintro x f m ⟨k, hk0, hk, rfl, hI⟩
  refine ⟨fun h => ?_, fun h => ?_⟩
  · obtain rfl := fill_end (N := 29) h (by decide) hk
    refine ⟨fun x f m => ∃ k, k ≤ 4 ∧ x = nI (29 + k) ∧ MkI P (fun t => (∃ j, 17 ≤ j ∧ j < 29 ∧ j ≠ 24 ∧ j ≠ 25 ∧ msa (q * 29 + j) = nI t) ∨ ∃ j i, j < k ∧ i < (mlc (q * 4 + j)).toNatClampNeg ∧ mli ((q * 4 + j) * 3 + i) = nI t) mre mmo f m, fun x _ _ => 33 - x.toInt.toNat, ⟨0, by decide, rfl, hI.mono (fun t _ w => w.elim id (fun ⟨j, i, w1, _⟩ => absurd w1 (Nat.not_lt_zero _)))⟩, ?_⟩
    clear hI h f m
    rintro x f m ⟨k, hk, rfl, hI⟩
    refine ⟨fun h => ?_, fun h => ?_⟩
    · obtain rfl : k = 4 := by have := fill_end (N := 33) h (by decide) (by omega); omega
      refine ⟨fun x f m => ∃ k, k ≤ 12 ∧ x = nI k ∧ MkI P (fun t => ((∃ j, 17 ≤ j ∧ j < 29 ∧ j ≠ 24 ∧ j ≠ 25 ∧ msa (q * 29 + j) = nI t) ∨ ∃ j i, j < 4 ∧ i < (mlc (q * 4 + j)).toNatClampNeg ∧ mli ((q * 4 + j) * 3 + i) = nI t) ∨ ∃ c i, c < 2 ∧ i < k ∧ mna ((q * 3 + c) * 12 + i) = nI t) mre mmo f m, fun x _ _ => 12 - x.toInt.toNat, ⟨0, by decide, rfl, hI.mono (fun t _ w => w.elim id (fun ⟨j, i, _, w1, _⟩ => absurd w1 (Nat.not_lt_zero _)))⟩, ?_⟩
      clear hI h f m
      rintro x f m ⟨k, hk, rfl, hI⟩
      refine ⟨fun h => ?_, fun h => ?_⟩
      · obtain rfl := fill_end (N := 12) h (by decide) hk
        refine ⟨hI.mono (fun t _ w => ?_), rfl, rfl, rfl, rfl, rfl, rfl, rfl, rfl, rfl, rfl, rfl, rfl, rfl, rfl, rfl, rfl, rfl, rfl, rfl, rfl, rfl, rfl, rfl, rfl, rfl⟩
        rcases ((AN t).mp w).2 with w | w | w
        · exact Or.inl (Or.inl w)
        · exact Or.inl (Or.inr w)
        · exact Or.inr w
      · have hk2 := fill_step (N := 12) h (by decide) hk
        have o0 := ((hL q hq).2.2 0 k (by decide) hk2).mono hn
        have o1 := ((hL q hq).2.2 1 k (by decide) hk2).mono hn
        rw [jx36, jx36', nI_clamp (by omega), nI_clamp (by omega)]
        refine ⟨vp_in_nI (by omega) (by decide), o0, fun f1 m1 r1 => ⟨vp_in_nI (by omega) (by decide), o1, fun f2 m2 r2 => ⟨⟨k + 1, hk2, nI_1 k, ?_⟩, fill_mu hk2 (by decide)⟩⟩⟩
        have s1 := MkI.step (D' := fun t => (((∃ j, 17 ≤ j ∧ j < 29 ∧ j ≠ 24 ∧ j ≠ 25 ∧ msa (q * 29 + j) = nI t) ∨ ∃ j i, j < 4 ∧ i < (mlc (q * 4 + j)).toNatClampNeg ∧ mli ((q * 4 + j) * 3 + i) = nI t) ∨ ∃ c i, c < 2 ∧ i < k ∧ mna ((q * 3 + c) * 12 + i) = nI t) ∨ mna ((q * 3 + 0) * 12 + k) = nI t) hI r1 o0 (fun t ht e => (AN t).mpr ⟨by omega, Or.inr (Or.inr ⟨0, k, by decide, hk2, e⟩)⟩) (fun t _ w => w)
        refine MkI.step s1 r2 o1 (fun t ht e => (AN t).mpr ⟨by omega, Or.inr (Or.inr ⟨1, k, by decide, hk2, e⟩)⟩) (fun t _ w => ?_)
        rcases w with w | ⟨c, i, w1, w2, w3⟩
        · exact Or.inl (Or.inl (Or.inl w))
        · by_cases e : i = k
          · subst e
            by_cases e2 : c = 0
            · subst e2; exact Or.inl (Or.inr w3)
            · obtain rfl : c = 1 := by omega
              exact Or.inr w3
          · exact Or.inl (Or.inl (Or.inr ⟨c, i, w1, by omega, w3⟩))
    · have hk2 : k < 4 := by have := fill_step (N := 33) h (by decide) (by omega); omega
      obtain ⟨L, hL3, eL⟩ := hle (q * 4 + k) (by omega)
      refine ⟨fun x f m => ∃ i, i ≤ L ∧ x = nI i ∧ MkI P (fun t => ((∃ j, 17 ≤ j ∧ j < 29 ∧ j ≠ 24 ∧ j ≠ 25 ∧ msa (q * 29 + j) = nI t) ∨ ∃ j i, j < k ∧ i < (mlc (q * 4 + j)).toNatClampNeg ∧ mli ((q * 4 + j) * 3 + i) = nI t) ∨ ∃ a, a < i ∧ mli ((q * 4 + k) * 3 + a) = nI t) mre mmo f m, fun x _ _ => L - x.toInt.toNat, ⟨0, Nat.zero_le _, rfl, hI.mono (fun t _ w => w.elim id (fun ⟨j, w1, _⟩ => absurd w1 (Nat.not_lt_zero _)))⟩, ?_⟩
      clear hI
      rintro x f3 m3 ⟨i, hi, rfl, hI⟩
      rw [jx4, nI_clamp (n := q * 4 + k) (by omega), eL]
      refine ⟨vp_in_nI (by omega) (by decide), fun h2 => ?_, fun h2 => ?_⟩
      · obtain rfl := (fill_end (N := L) h2 (by omega) hi).symm
        refine ⟨⟨k + 1, hk2, nI_1 _, hI.mono (fun t _ w => ?_)⟩, fill_mu (N := 33) (k := 29 + k) (by omega) (by decide)⟩
        rcases w with w | ⟨j, a, w1, w2, w3⟩
        · exact Or.inl (Or.inl w)
        · by_cases e : j = k
          · subst e; rw [eL, nI_clamp (by omega)] at w2; exact Or.inr ⟨a, w2, w3⟩
          · exact Or.inl (Or.inr ⟨j, a, by omega, w2, w3⟩)
      · have hi2 := fill_step (N := L) h2 (by omega) hi
        have hiL : i < (mlc (q * 4 + k)).toNatClampNeg := by rw [eL, nI_clamp (by omega)]; exact hi2
        have o1 := ((hL q hq).2.1 k i hk2 hiL).mono hn
        rw [jx12, nI_clamp (by omega)]
        refine ⟨vp_in_nI (by omega) (by decide), o1, fun f1 m1 r1 => ⟨⟨i + 1, hi2, nI_1 i, ?_⟩, fill_mu hi2 (by omega)⟩⟩
        refine MkI.step hI r1 o1 (fun t ht e => (AN t).mpr ⟨by omega, Or.inr (Or.inl ⟨k, i, hk2, hiL, e⟩)⟩) (fun t _ w => ?_)
        rcases w with w | ⟨a, w1, w2⟩
        · exact Or.inl (Or.inl w)
        · by_cases e : a = i
          · subst e; exact Or.inr w2
          · exact Or.inl (Or.inr ⟨a, by omega, w2⟩)
  · have hk2 := fill_step (N := 29) h (by decide) hk
    have n24 : nI k = 24 ↔ k = 24 := nI_eqR (by decide) (by omega)
    have n25 : nI k = 25 ↔ k = 25 := nI_eqR (by decide) (by omega)
    rw [n24, n25, jx29, nI_clamp (by omega)]
    refine ⟨fun z => z = if k = 24 ∨ k = 25 then -1 else msa (q * 29 + k), ⟨fun h2 => by rw [if_pos (Or.inl h2)], fun h2 => ⟨fun h3 => ⟨vp_in_nI (by omega) (by decide), by rw [if_neg (by omega)]⟩, fun h3 => by rw [if_pos (Or.inr h3)]⟩⟩, ?_⟩
    rintro z hz
    have o1 : okx z 24 := by
      rw [hz]
      by_cases e : k = 24 ∨ k = 25
      · rw [if_pos e]; exact Or.inl rfl
      · rw [if_neg e]; exact ((hL q hq).1 k hk0 hk2 (by omega) (by omega)).mono hn
    refine ⟨o1, fun f1 m1 r1 => ⟨⟨k + 1, by omega, hk2, nI_1 k, ?_⟩, fill_mu hk2 (by decide)⟩⟩
    refine MkI.step hI r1 o1 (fun t ht e => ?_) (fun t _ w => ?_)
    · rw [hz] at e
      by_cases e2 : k = 24 ∨ k = 25
      · rw [if_pos e2] at e; exact absurd (e ▸ neg1_lt) (nI_pos (by omega))
      · rw [if_neg e2] at e
        exact (AN t).mpr ⟨by omega, Or.inl ⟨k, hk0, hk2, by omega, by omega, e⟩⟩
    · obtain ⟨j, w1, w2, w3, w4, w5⟩ := w
      by_cases e : j = k
      · subst e; right; rw [hz, if_neg (by omega)]; exact w5
      · exact Or.inl ⟨j, w1, by omega, w3, w4, w5⟩
theorem c_Mo_reachFrom (l : Launch) (D : va_G) (b : Nat → Nat) (cI cJ cZ : ClassId) (mki : Nat → Int32) (msz : Nat → Int64) (mle : Nat → Int32) (mel : Nat → Int32) (mme : Nat → Int32) (mal : Nat → Int32) (mic : Nat → Int32) (mil : Nat → Int32) (mio : Nat → Int32) (mab : Nat → Int32) (mae : Nat → Int32) (msa : Nat → Int32) (mlc : Nat → Int32) (mli : Nat → Int32) (mna : Nat → Int32) (mva : Nat → Int32) (mma : Nat → Int32) (mch : Nat → Int32) (mre : Nat → Int32) (mlv : Nat → Int32) (mwr : Nat → Int64) (msh : Nat → Int32) (mth : Int32) (mnv : Int32) (mns : Int32) (mfa : Int32) (mmo : Int32) (x : Int32) (hpre : (∃ s n : Nat, s < 24 ∧ n ≤ 24 ∧ x = nI s ∧ LdOK msa mlc mli mna n ∧ LeOK mlc)) : Wm (S := (Nat → Int32) × Int32) l y_Mo_reachFrom b_Mo_reachFrom 4 none 1 23 [.ref (b 0), .int x] D (tyA cI cJ cZ) (wM b cI cJ cZ mki msz mle mel mme mal mic mil mio mab mae msa mlc mli mna mva mma mch mre mlv mwr msh mth mnv mns mfa mmo) (fun uu => MkI (fun t => bt (sLIP msa mlc mli mna x.toNatClampNeg ||| sLEW msa mlc mli mna x.toNatClampNeg) t = true) (fun t => bt (sLIP msa mlc mli mna x.toNatClampNeg ||| sLEW msa mlc mli mna x.toNatClampNeg) t = true) mre mmo uu.1 uu.2) (fun uu => none) (fun uu => (wM b cI cJ cZ mki msz mle mel mme mal mic mil mio mab mae msa mlc mli mna mva mma mch uu.1 mlv mwr msh mth mnv mns mfa uu.2)) :=
  wm_v (by decide) (Nat.le_of_ble_eq_true rfl) (fun p e s m below meth c ls Q A S hK hP hD hA hS hl hret => g_Mo_reachFrom S (Nat.le_refl _) (Nat.le_refl _) ⟨Nat.le_refl _, Nat.le_refl _⟩ D b cI cJ cZ mki msz mle mel mme mal mic mil mio mab mae msa mlc mli mna mva mma mch mre mlv mwr msh mth mnv mns mfa mmo x hK hP hD hA hS hl (v_Mo_reachFrom mki msz mle mel mme mal mic mil mio mab mae msa mlc mli mna mva mma mch mre mlv mwr msh mth mnv mns mfa mmo x hpre) (fun mki' msz' mle' mel' mme' mal' mic' mil' mio' mab' mae' msa' mlc' mli' mna' mva' mma' mch' mre' mlv' mwr' msh' mth' mnv' mns' mfa' mmo' ls1 pc H1 locs1 hd hv hP1 hD1 hS1 => by obtain ⟨hp, rfl, rfl, rfl, rfl, rfl, rfl, rfl, rfl, rfl, rfl, rfl, rfl, rfl, rfl, rfl, rfl, rfl, rfl, rfl, rfl, rfl, rfl, rfl, rfl, rfl⟩ := hv; exact hret (mre', mmo') ls1 pc H1 locs1 hd hp hP1 hD1 hS1))
theorem hd_Mo_reachFrom : y_Mo_reachFrom.cls ≠ "java/lang/invoke/MethodHandle" ∧ y_Mo_reachFrom.cls ≠ "java/lang/invoke/VarHandle" ∧ (parseMethodDescriptor y_Mo_reachFrom.desc).map (fun d => d.parameters.length) = some 1 := ⟨by decide, by decide, by decide +kernel⟩
/-- what lowering from q does, whatever the round -/
def LwF (P : Nat → Prop) (q c : Nat) (D : Nat → Prop) (f0 : Nat → Int32) (m0 : Int32) (f : Nat → Int32) (m : Int32) : Prop :=
  ∀ (E : Nat → Nat → Prop) (r B : Nat) (g0 : Nat → Int32) (D0 : Nat → Nat → Prop), B ≤ 2 ^ 20 → (∀ a b, a < 24 → b < 24 → E a b → lvl g0 a < lvl g0 b ∨ r ≤ lvl g0 a) → (∀ b, b < 24 → P b → E q b) → LvI E r B g0 D0 f0 m0 → LvI E r (B + c) g0 (fun a b => D0 a b ∨ (a = q ∧ D b)) f m
theorem LwF.start {P : Nat → Prop} {q : Nat} {D : Nat → Prop} {f : Nat → Int32} {m : Int32} (h : ∀ t, D t → False) : LwF P q (17 - 17) D f m f m := fun E r B g0 D0 _ _ _ hv => hv.mono (Nat.le_refl _) (fun a b _ _ w => w.elim id (fun w => (h b w.2).elim))
theorem LwF.mono {P : Nat → Prop} {q c c' : Nat} {D D' : Nat → Prop} {f0 f : Nat → Int32} {m0 m : Int32} (h : LwF P q c D f0 m0 f m) (hc : c ≤ c') (hD : ∀ t, t < 24 → D' t → D t) : LwF P q c' D' f0 m0 f m := fun E r B g0 D0 h1 h2 h3 h4 =>
  (h E r B g0 D0 h1 h2 h3 h4).mono (by omega) (fun a b _ hb w => w.elim Or.inl (fun w => Or.inr ⟨w.1, hD b hb w.2⟩))
theorem LwF.step {P : Nat → Prop} {q c : Nat} {D D' : Nat → Prop} {f0 f f' : Nat → Int32} {m0 m m' y : Int32} (hq : q < 24) (hc : c ≤ 100) (h : LwF P q c D f0 m0 f m) (hl : LOW (nI q) y f m f' m') (hy : okx y 24) (hP : ∀ t, t < 24 → y = nI t → P t) (hD : ∀ t, t < 24 → D' t → D t ∨ y = nI t) : LwF P q (c + 1) D' f0 m0 f' m' := fun E r B g0 D0 h1 h2 h3 h4 =>
  LvI.step (h E r B g0 D0 h1 h2 h3 h4) (show B + c < 2 ^ 30 by omega) hq h2 hl hy (fun b hb e => h3 b hb (hP b hb e)) (fun c d _ hd w => w.elim (fun w => Or.inl (Or.inl w)) (fun w => (hD d hd w.2).elim (fun z => Or.inl (Or.inr ⟨w.1, z⟩)) (fun z => Or.inr ⟨w.1, z⟩)))
def V_Mo_lowerFrom (mki : Nat → Int32) (msz : Nat → Int64) (mle : Nat → Int32) (mel : Nat → Int32) (mme : Nat → Int32) (mal : Nat → Int32) (mic : Nat → Int32) (mil : Nat → Int32) (mio : Nat → Int32) (mab : Nat → Int32) (mae : Nat → Int32) (msa : Nat → Int32) (mlc : Nat → Int32) (mli : Nat → Int32) (mna : Nat → Int32) (mva : Nat → Int32) (mma : Nat → Int32) (mch : Nat → Int32) (mre : Nat → Int32) (mlv : Nat → Int32) (mwr : Nat → Int64) (msh : Nat → Int32) (mth : Int32) (mnv : Int32) (mns : Int32) (mfa : Int32) (mmo : Int32) (x : Int32) (post : (Nat → Int32) → (Nat → Int64) → (Nat → Int32) → (Nat → Int32) → (Nat → Int32) → (Nat → Int32) → (Nat → Int32) → (Nat → Int32) → (Nat → Int32) → (Nat → Int32) → (Nat → Int32) → (Nat → Int32) → (Nat → Int32) → (Nat → Int32) → (Nat → Int32) → (Nat → Int32) → (Nat → Int32) → (Nat → Int32) → (Nat → Int32) → (Nat → Int32) → (Nat → Int64) → (Nat → Int32) → Int32 → Int32 → Int32 → Int32 → Int32 → Prop) : Prop :=
  (∃ (I7 : Int32 → (Nat → Int32) → Int32 → Prop) (mI7 : Int32 → (Nat → Int32) → Int32 → Nat), I7 17 mlv mmo ∧ (∀ (x4 : Int32) (f5 : Nat → Int32) (u6 : Int32), I7 x4 f5 u6 → ((22 ≤ x4 → (∃ (I21 : Int32 → (Nat → Int32) → Int32 → Prop) (mI21 : Int32 → (Nat → Int32) → Int32 → Nat), I21 29 f5 u6 ∧ (∀ (x18 : Int32) (f19 : Nat → Int32) (u20 : Int32), I21 x18 f19 u20 → ((32 ≤ x18 → (∃ (I28 : Int32 → (Nat → Int32) → Int32 → Prop) (mI28 : Int32 → (Nat → Int32) → Int32 → Nat), I28 0 f19 u20 ∧ (∀ (x25 : Int32) (f26 : Nat → Int32) (u27 : Int32), I28 x25 f26 u27 → ((12 ≤ x25 → post mki msz mle mel mme mal mic mil mio mab mae msa mlc mli mna mva mma mch mre f26 mwr msh mth mnv mns mfa u27) ∧ (¬ 12 ≤ x25 → (vp_in (36 * x + 12 * (34 - 33) + x25) 864 ∧ ((vp_in x 24 ∧ okx (mna (36 * x + 12 * (34 - 33) + x25 : Int32).toNatClampNeg) 24) ∧ (∀ (f29 : Nat → Int32) (u30 : Int32), (LOW x (mna (36 * x + 12 * (34 - 33) + x25 : Int32).toNatClampNeg) f26 u27 f29 u30) → (I28 (x25 + 1) f29 u30 ∧ mI28 (x25 + 1) f29 u30 < mI28 x25 f26 u27))))))))) ∧ (¬ 32 ≤ x18 → (∃ (I37 : Int32 → (Nat → Int32) → Int32 → Prop) (mI37 : Int32 → (Nat → Int32) → Int32 → Nat), I37 0 f19 u20 ∧ (∀ (x34 : Int32) (f35 : Nat → Int32) (u36 : Int32), I37 x34 f35 u36 → (vp_in (4 * x + x18 - 29) 96 ∧ (((mlc (4 * x + x18 - 29 : Int32).toNatClampNeg) ≤ x34 → (I21 (x18 + 1) f35 u36 ∧ mI21 (x18 + 1) f35 u36 < mI21 x18 f19 u20)) ∧ (¬ (mlc (4 * x + x18 - 29 : Int32).toNatClampNeg) ≤ x34 → (vp_in (12 * x + 3 * (x18 - 29) + x34) 288 ∧ ((vp_in x 24 ∧ okx (mli (12 * x + 3 * (x18 - 29) + x34 : Int32).toNatClampNeg) 24) ∧ (∀ (f38 : Nat → Int32) (u39 : Int32), (LOW x (mli (12 * x + 3 * (x18 - 29) + x34 : Int32).toNatClampNeg) f35 u36 f38 u39) → (I37 (x34 + 1) f38 u39 ∧ mI37 (x34 + 1) f38 u39 < mI37 x34 f35 u36)))))))))))))) ∧ (¬ 22 ≤ x4 → (vp_in (29 * x + x4) 696 ∧ ((vp_in x 24 ∧ okx (msa (29 * x + x4 : Int32).toNatClampNeg) 24) ∧ (∀ (f40 : Nat → Int32) (u41 : Int32), (LOW x (msa (29 * x + x4 : Int32).toNatClampNeg) f5 u6 f40 u41) → (I7 (x4 + 1) f40 u41 ∧ mI7 (x4 + 1) f40 u41 < mI7 x4 f5 u6))))))))
set_option maxHeartbeats 4000000 in
set_option maxRecDepth 100000 in
theorem g_Mo_lowerFrom {p : Program} {l : Launch} {e : Env} {R : Room} {s : State} {m : MethodId} {args : Array Value} {below : List Frame} {meth : Method} {c : Code} {H : Heap} {locs : List Loc} {cells slots : Nat} {Q : State → Prop} {ls : Array Slot} {A : Nat → Prop} (S : CallFix p m c b_Mo_lowerFrom 4 s args W0 R_Mo) (hRf : 1 ≤ R.frames) (hRl : 23 ≤ R.locals) (hRc : cells ≤ R.cells ∧ slots ≤ R.slots) (D : va_G) (b : Nat → Nat) (cI cJ cZ : ClassId) (mki : Nat → Int32) (msz : Nat → Int64) (mle : Nat → Int32) (mel : Nat → Int32) (mme : Nat → Int32) (mal : Nat → Int32) (mic : Nat → Int32) (mil : Nat → Int32) (mio : Nat → Int32) (mab : Nat → Int32) (mae : Nat → Int32) (msa : Nat → Int32) (mlc : Nat → Int32) (mli : Nat → Int32) (mna : Nat → Int32) (mva : Nat → Int32) (mma : Nat → Int32) (mch : Nat → Int32) (mre : Nat → Int32) (mlv : Nat → Int32) (mwr : Nat → Int64) (msh : Nat → Int32) (mth : Int32) (mnv : Int32) (mns : Int32) (mfa : Int32) (mmo : Int32) (x : Int32) (hK : va_K D vwCl (tyA cI cJ cZ) s) (hP : va_P D vwCl (wM b cI cJ cZ mki msz mle mel mme mal mic mil mio mab mae msa mlc mli mna mva mma mch mre mlv mwr msh mth mnv mns mfa mmo) H) (hD : va_D A (wM b cI cJ cZ mki msz mle mel mme mal mic mil mio mab mae msa mlc mli mna mva mma mch mre mlv mwr msh mth mnv mns mfa mmo)) (hA : ∀ q, s.heap.size ≤ q → A q) (hS : va_S A s.heap H locs) (hl : lv_has ls 4 [(0, .ref (b 0)), (1, .int x)]) {post : (Nat → Int32) → (Nat → Int64) → (Nat → Int32) → (Nat → Int32) → (Nat → Int32) → (Nat → Int32) → (Nat → Int32) → (Nat → Int32) → (Nat → Int32) → (Nat → Int32) → (Nat → Int32) → (Nat → Int32) → (Nat → Int32) → (Nat → Int32) → (Nat → Int32) → (Nat → Int32) → (Nat → Int32) → (Nat → Int32) → (Nat → Int32) → (Nat → Int32) → (Nat → Int64) → (Nat → Int32) → Int32 → Int32 → Int32 → Int32 → Int32 → Prop} (vc : V_Mo_lowerFrom mki msz mle mel mme mal mic mil mio mab mae msa mlc mli mna mva mma mch mre mlv mwr msh mth mnv mns mfa mmo x post)
    (hret : ∀ (mki : Nat → Int32) (msz : Nat → Int64) (mle : Nat → Int32) (mel : Nat → Int32) (mme : Nat → Int32) (mal : Nat → Int32) (mic : Nat → Int32) (mil : Nat → Int32) (mio : Nat → Int32) (mab : Nat → Int32) (mae : Nat → Int32) (msa : Nat → Int32) (mlc : Nat → Int32) (mli : Nat → Int32) (mna : Nat → Int32) (mva : Nat → Int32) (mma : Nat → Int32) (mch : Nat → Int32) (mre : Nat → Int32) (mlv : Nat → Int32) (mwr : Nat → Int64) (msh : Nat → Int32) (mth : Int32) (mnv : Int32) (mns : Int32) (mfa : Int32) (mmo : Int32) (ls : Array Slot) (pc : Nat) (H : Heap) (locs : List Loc), decode b_Mo_lowerFrom pc = .ok (.return_, 1) → post mki msz mle mel mme mal mic mil mio mab mae msa mlc mli mna mva mma mch mre mlv mwr msh mth mnv mns mfa mmo → va_P D vwCl (wM b cI cJ cZ mki msz mle mel mme mal mic mil mio mab mae msa mlc mli mna mva mma mch mre mlv mwr msh mth mnv mns mfa mmo) H → va_D A (wM b cI cJ cZ mki msz mle mel mme mal mic mil mio mab mae msa mlc mli mna mva mma mch mre mlv mwr msh mth mnv mns mfa mmo) → va_S A s.heap H locs → W p l e R s m args below meth c H locs cells slots Q (F0 m pc ls [])) : W p l e R s m args below meth c H locs cells slots Q (F0 m 0 ls []) := by
  have hx := S.1
  have hb := S.2.1
  have hown := S.2.2.2.1
  have hts := S.2.2.2.2
  unfold V_Mo_lowerFrom at vc
  refine lv_bipush (v := 17) hx hb d_Mo_lowerFrom_0 (by decide) ?_
  refine lv_istore_n hx hb d_Mo_lowerFrom_2 rfl hl (by decide) (lv' := [(2, .int 17), (0, .ref (b 0)), (1, .int x)]) rfl (fun ls hl => ?_)
  obtain ⟨I7, mI7, vc0, vcs⟩ := vc
  have lI7 : ∀ n : Nat, ∀ (x4 : Int32) (f5 : Nat → Int32) (u6 : Int32) (ls : Array Slot) (H : Heap) (locs : List Loc), I7 x4 f5 u6 → mI7 x4 f5 u6 < n → lv_has ls 4 [(0, .ref (b 0)), (1, .int x), (2, .int x4)] → va_P D vwCl (wM b cI cJ cZ mki msz mle mel mme mal mic mil mio mab mae msa mlc mli mna mva mma mch mre f5 mwr msh mth mnv mns mfa u6) H → va_D A (wM b cI cJ cZ mki msz mle mel mme mal mic mil mio mab mae msa mlc mli mna mva mma mch mre f5 mwr msh mth mnv mns mfa u6) → va_S A s.heap H locs → W p l e R s m args below meth c H locs cells slots Q (F0 m 3 ls []) := by
    intro n
    induction n with
    | zero => intro x4 f5 u6 ls H locs _ h; exact absurd h (Nat.not_lt_zero _)
    | succ n ihI7 =>
      intro x4 f5 u6 ls H locs vc hmI7 hl hP hD hS
      have vc := vcs x4 f5 u6 vc
      refine lv_iload_n hx hb d_Mo_lowerFrom_3 rfl (lv_at hl 2 rfl) ?_
      refine lv_bipush (v := 22) hx hb d_Mo_lowerFrom_4 (by decide) ?_
      refine lv_icmp_ge (tgt := 26) hx hb d_Mo_lowerFrom_6 (by decide) (fun h => ?_) (fun h => ?_)
      · have vc := vc.1 h
        refine lv_bipush (v := 29) hx hb d_Mo_lowerFrom_26 (by decide) ?_
        refine lv_istore_n hx hb d_Mo_lowerFrom_28 rfl hl (by decide) (lv' := [(2, .int 29), (0, .ref (b 0)), (1, .int x)]) rfl (fun ls hl => ?_)
        obtain ⟨I21, mI21, vc0, vcs⟩ := vc
        have lI21 : ∀ n : Nat, ∀ (x18 : Int32) (f19 : Nat → Int32) (u20 : Int32) (ls : Array Slot) (H : Heap) (locs : List Loc), I21 x18 f19 u20 → mI21 x18 f19 u20 < n → lv_has ls 4 [(0, .ref (b 0)), (1, .int x), (2, .int x18)] → va_P D vwCl (wM b cI cJ cZ mki msz mle mel mme mal mic mil mio mab mae msa mlc mli mna mva mma mch mre f19 mwr msh mth mnv mns mfa u20) H → va_D A (wM b cI cJ cZ mki msz mle mel mme mal mic mil mio mab mae msa mlc mli mna mva mma mch mre f19 mwr msh mth mnv mns mfa u20) → va_S A s.heap H locs → W p l e R s m args below meth c H locs cells slots Q (F0 m 29 ls []) := by
          intro n
          induction n with
          | zero => intro x18 f19 u20 ls H locs _ h; exact absurd h (Nat.not_lt_zero _)
          | succ n ihI21 =>
            intro x18 f19 u20 ls H locs vc hmI21 hl hP hD hS
            have vc := vcs x18 f19 u20 vc
            refine lv_iload_n hx hb d_Mo_lowerFrom_29 rfl (lv_at hl 2 rfl) ?_
            refine lv_bipush (v := 32) hx hb d_Mo_lowerFrom_30 (by decide) ?_
            refine lv_icmp_ge (tgt := 71) hx hb d_Mo_lowerFrom_32 (by decide) (fun h => ?_) (fun h => ?_)
            · have vc := vc.1 h
              refine lv_iconst (v := 0) hx hb d_Mo_lowerFrom_71 (by decide) ?_
              refine lv_istore_n hx hb d_Mo_lowerFrom_72 rfl hl (by decide) (lv' := [(2, .int 0), (0, .ref (b 0)), (1, .int x)]) rfl (fun ls hl => ?_)
              obtain ⟨I28, mI28, vc0, vcs⟩ := vc
              have lI28 : ∀ n : Nat, ∀ (x25 : Int32) (f26 : Nat → Int32) (u27 : Int32) (ls : Array Slot) (H : Heap) (locs : List Loc), I28 x25 f26 u27 → mI28 x25 f26 u27 < n → lv_has ls 4 [(0, .ref (b 0)), (1, .int x), (2, .int x25)] → va_P D vwCl (wM b cI cJ cZ mki msz mle mel mme mal mic mil mio mab mae msa mlc mli mna mva mma mch mre f26 mwr msh mth mnv mns mfa u27) H → va_D A (wM b cI cJ cZ mki msz mle mel mme mal mic mil mio mab mae msa mlc mli mna mva mma mch mre f26 mwr msh mth mnv mns mfa u27) → va_S A s.heap H locs → W p l e R s m args below meth c H locs cells slots Q (F0 m 73 ls []) := by
                intro n
                induction n with
                | zero => intro x25 f26 u27 ls H locs _ h; exact absurd h (Nat.not_lt_zero _)
                | succ n ihI28 =>
                  intro x25 f26 u27 ls H locs vc hmI28 hl hP hD hS
                  have vc := vcs x25 f26 u27 vc
                  refine lv_iload_n hx hb d_Mo_lowerFrom_73 rfl (lv_at hl 2 rfl) ?_
                  refine lv_bipush (v := 12) hx hb d_Mo_lowerFrom_74 (by decide) ?_
                  refine lv_icmp_ge (tgt := 98) hx hb d_Mo_lowerFrom_76 (by decide) (fun h => ?_) (fun h => ?_)
                  · have vc := vc.1 h
                    exact hret _ _ _ _ _ _ _ _ _ _ _ _ _ _ _ _ _ _ _ _ _ _ _ _ _ _ _ ls _ H locs d_Mo_lowerFrom_98 vc hP hD hS
                  · have vc := vc.2 h
                    refine lv_aload_n hx hb d_Mo_lowerFrom_79 rfl (lv_at hl 0 rfl) ?_
                    refine lv_iload_n hx hb d_Mo_lowerFrom_80 rfl (lv_at hl 1 rfl) ?_
                    refine lv_aload_n hx hb d_Mo_lowerFrom_81 rfl (lv_at hl 0 rfl) ?_
                    refine lv_iload_n hx hb d_Mo_lowerFrom_82 rfl (lv_at hl 1 rfl) ?_
                    refine lv_bipush (v := 34) hx hb d_Mo_lowerFrom_83 (by decide) ?_
                    refine lv_iload_n hx hb d_Mo_lowerFrom_85 rfl (lv_at hl 2 rfl) ?_
                    obtain ⟨hpre, vc⟩ := vc
                    refine pc_V (As := [.int x, .int 34, .int x25]) (rest := [.int x, .ref (b 0)]) S (c_Mo_byName l D b cI cJ cZ mki msz mle mel mme mal mic mil mio mab mae msa mlc mli mna mva mma mch mre f26 mwr msh mth mnv mns mfa u27 x 34 x25 hpre) wB_blind k_Mo_byName i_Mo_byName e_Mo_byName o_Mo ml_Mo_154 hd_Mo_byName (Nat.le_trans (by decide) hRf) (Nat.le_trans (by decide) hRl) hRc (va_recv hK hP (q0 := 0) (ci := 6) rfl rfl) (wB_at hP hK) hl.1 rfl (Nat.le_of_ble_eq_true rfl) d_Mo_lowerFrom_86 ?_
                    obtain ⟨hpre, vc⟩ := vc
                    refine wc_V (As := [.int x, .int (mna (36 * x + 12 * (34 - 33) + x25 : Int32).toNatClampNeg)]) (rest := []) (wr := ([] : va_W)) S (c_Mo_lower l D b cI cJ cZ mki msz mle mel mme mal mic mil mio mab mae msa mlc mli mna mva mma mch mre f26 mwr msh mth mnv mns mfa u27 x (mna (36 * x + 12 * (34 - 33) + x25 : Int32).toNatClampNeg) hpre) k_Mo_lower i_Mo_lower e_Mo_lower o_Mo ml_Mo_157 hd_Mo_lower (Nat.le_trans (by decide) hRf) (Nat.le_trans (by decide) hRl) hRc (va_recv hK hP (q0 := 0) (ci := 6) rfl rfl) hK hP hD hS hA [0, 1, 2, 3, 4, 5, 6, 7, 8, 9, 10, 11, 12, 13, 14, 15, 16, 17, 18, 19, 20, 21, 22] [] rfl rfl rfl (by decide) (by decide) (by decide) hl.1 rfl (Nat.le_of_ble_eq_true rfl) d_Mo_lowerFrom_89 (fun u H locs hu hP hD hS => ?_)
                    obtain ⟨f29, u30⟩ := u
                    have vc := vc f29 u30 hu
                    clear hu
                    have hP : va_P D vwCl (wM b cI cJ cZ mki msz mle mel mme mal mic mil mio mab mae msa mlc mli mna mva mma mch mre f29 mwr msh mth mnv mns mfa u30) H := hP
                    have hD : va_D A (wM b cI cJ cZ mki msz mle mel mme mal mic mil mio mab mae msa mlc mli mna mva mma mch mre f29 mwr msh mth mnv mns mfa u30) := hD
                    refine lv_iinc (k := 2) (v := x25 + 1) hx hb d_Mo_lowerFrom_92 hl rfl rfl (by decide) (lv' := [(2, .int (x25 + 1)), (0, .ref (b 0)), (1, .int x)]) rfl (fun ls hl => ?_)
                    refine lv_goto (tgt := 73) hx hb d_Mo_lowerFrom_95 (by decide) ?_
                    exact ihI28 (x25 + 1) f29 u30 ls H locs vc.1 (Nat.lt_of_lt_of_le vc.2 (Nat.le_of_lt_succ hmI28)) (lv_sub hl [1, 2, 0] rfl) hP hD hS
              exact lI28 _ 0 f19 u20 ls H locs vc0 (Nat.lt_succ_self _) (lv_sub hl [1, 2, 0] rfl) hP hD hS
            · have vc := vc.2 h
              refine lv_iconst (v := 0) hx hb d_Mo_lowerFrom_35 (by decide) ?_
              refine lv_istore_n hx hb d_Mo_lowerFrom_36 rfl hl (by decide) (lv' := [(3, .int 0), (0, .ref (b 0)), (1, .int x), (2, .int x18)]) rfl (fun ls hl => ?_)
              obtain ⟨I37, mI37, vc0, vcs⟩ := vc
              have lI37 : ∀ n : Nat, ∀ (x34 : Int32) (f35 : Nat → Int32) (u36 : Int32) (ls : Array Slot) (H : Heap) (locs : List Loc), I37 x34 f35 u36 → mI37 x34 f35 u36 < n → lv_has ls 4 [(0, .ref (b 0)), (1, .int x), (2, .int x18), (3, .int x34)] → va_P D vwCl (wM b cI cJ cZ mki msz mle mel mme mal mic mil mio mab mae msa mlc mli mna mva mma mch mre f35 mwr msh mth mnv mns mfa u36) H → va_D A (wM b cI cJ cZ mki msz mle mel mme mal mic mil mio mab mae msa mlc mli mna mva mma mch mre f35 mwr msh mth mnv mns mfa u36) → va_S A s.heap H locs → W p l e R s m args below meth c H locs cells slots Q (F0 m 37 ls []) := by
                intro n
                induction n with
                | zero => intro x34 f35 u36 ls H locs _ h; exact absurd h (Nat.not_lt_zero _)
                | succ n ihI37 =>
                  intro x34 f35 u36 ls H locs vc hmI37 hl hP hD hS
                  have vc := vcs x34 f35 u36 vc
                  refine lv_iload_n hx hb d_Mo_lowerFrom_37 rfl (lv_at hl 3 rfl) ?_
                  refine lv_aload_n hx hb d_Mo_lowerFrom_38 rfl (lv_at hl 0 rfl) ?_
                  refine lv_iload_n hx hb d_Mo_lowerFrom_39 rfl (lv_at hl 1 rfl) ?_
                  refine lv_iload_n hx hb d_Mo_lowerFrom_40 rfl (lv_at hl 2 rfl) ?_
                  obtain ⟨hpre, vc⟩ := vc
                  refine pc_V (As := [.int x, .int x18]) (rest := [.int x34]) S (c_Mo_many l D b cI cJ cZ mki msz mle mel mme mal mic mil mio mab mae msa mlc mli mna mva mma mch mre f35 mwr msh mth mnv mns mfa u36 x x18 hpre) wB_blind k_Mo_many i_Mo_many e_Mo_many o_Mo ml_Mo_148 hd_Mo_many (Nat.le_trans (by decide) hRf) (Nat.le_trans (by decide) hRl) hRc (va_recv hK hP (q0 := 0) (ci := 6) rfl rfl) (wB_at hP hK) hl.1 rfl (Nat.le_of_ble_eq_true rfl) d_Mo_lowerFrom_41 ?_
                  refine lv_icmp_ge (tgt := 65) hx hb d_Mo_lowerFrom_44 (by decide) (fun h => ?_) (fun h => ?_)
                  · have vc := vc.1 h
                    refine lv_iinc (k := 2) (v := x18 + 1) hx hb d_Mo_lowerFrom_65 hl rfl rfl (by decide) (lv' := [(2, .int (x18 + 1)), (0, .ref (b 0)), (1, .int x), (3, .int x34)]) rfl (fun ls hl => ?_)
                    refine lv_goto (tgt := 29) hx hb d_Mo_lowerFrom_68 (by decide) ?_
                    exact ihI21 (x18 + 1) f35 u36 ls H locs vc.1 (Nat.lt_of_lt_of_le vc.2 (Nat.le_of_lt_succ hmI21)) (lv_sub hl [1, 2, 0] rfl) hP hD hS
                  · have vc := vc.2 h
                    refine lv_aload_n hx hb d_Mo_lowerFrom_47 rfl (lv_at hl 0 rfl) ?_
                    refine lv_iload_n hx hb d_Mo_lowerFrom_48 rfl (lv_at hl 1 rfl) ?_
                    refine lv_aload_n hx hb d_Mo_lowerFrom_49 rfl (lv_at hl 0 rfl) ?_
                    refine lv_iload_n hx hb d_Mo_lowerFrom_50 rfl (lv_at hl 1 rfl) ?_
                    refine lv_iload_n hx hb d_Mo_lowerFrom_51 rfl (lv_at hl 2 rfl) ?_
                    refine lv_iload_n hx hb d_Mo_lowerFrom_52 rfl (lv_at hl 3 rfl) ?_
                    obtain ⟨hpre, vc⟩ := vc
                    refine pc_V (As := [.int x, .int x18, .int x34]) (rest := [.int x, .ref (b 0)]) S (c_Mo_listed l D b cI cJ cZ mki msz mle mel mme mal mic mil mio mab mae msa mlc mli mna mva mma mch mre f35 mwr msh mth mnv mns mfa u36 x x18 x34 hpre) wB_blind k_Mo_listed i_Mo_listed e_Mo_listed o_Mo ml_Mo_151 hd_Mo_listed (Nat.le_trans (by decide) hRf) (Nat.le_trans (by decide) hRl) hRc (va_recv hK hP (q0 := 0) (ci := 6) rfl rfl) (wB_at hP hK) hl.1 rfl (Nat.le_of_ble_eq_true rfl) d_Mo_lowerFrom_53 ?_
                    obtain ⟨hpre, vc⟩ := vc
                    refine wc_V (As := [.int x, .int (mli (12 * x + 3 * (x18 - 29) + x34 : Int32).toNatClampNeg)]) (rest := []) (wr := ([] : va_W)) S (c_Mo_lower l D b cI cJ cZ mki msz mle mel mme mal mic mil mio mab mae msa mlc mli mna mva mma mch mre f35 mwr msh mth mnv mns mfa u36 x (mli (12 * x + 3 * (x18 - 29) + x34 : Int32).toNatClampNeg) hpre) k_Mo_lower i_Mo_lower e_Mo_lower o_Mo ml_Mo_157 hd_Mo_lower (Nat.le_trans (by decide) hRf) (Nat.le_trans (by decide) hRl) hRc (va_recv hK hP (q0 := 0) (ci := 6) rfl rfl) hK hP hD hS hA [0, 1, 2, 3, 4, 5, 6, 7, 8, 9, 10, 11, 12, 13, 14, 15, 16, 17, 18, 19, 20, 21, 22] [] rfl rfl rfl (by decide) (by decide) (by decide) hl.1 rfl (Nat.le_of_ble_eq_true rfl) d_Mo_lowerFrom_56 (fun u H locs hu hP hD hS => ?_)
                    obtain ⟨f38, u39⟩ := u
                    have vc := vc f38 u39 hu
                    clear hu
                    have hP : va_P D vwCl (wM b cI cJ cZ mki msz mle mel mme mal mic mil mio mab mae msa mlc mli mna mva mma mch mre f38 mwr msh mth mnv mns mfa u39) H := hP
                    have hD : va_D A (wM b cI cJ cZ mki msz mle mel mme mal mic mil mio mab mae msa mlc mli mna mva mma mch mre f38 mwr msh mth mnv mns mfa u39) := hD
                    refine lv_iinc (k := 3) (v := x34 + 1) hx hb d_Mo_lowerFrom_59 hl rfl rfl (by decide) (lv' := [(3, .int (x34 + 1)), (0, .ref (b 0)), (1, .int x), (2, .int x18)]) rfl (fun ls hl => ?_)
                    refine lv_goto (tgt := 37) hx hb d_Mo_lowerFrom_62 (by decide) ?_
                    exact ihI37 (x34 + 1) f38 u39 ls H locs vc.1 (Nat.lt_of_lt_of_le vc.2 (Nat.le_of_lt_succ hmI37)) (lv_sub hl [1, 2, 3, 0] rfl) hP hD hS
              exact lI37 _ 0 f19 u20 ls H locs vc0 (Nat.lt_succ_self _) (lv_sub hl [1, 2, 3, 0] rfl) hP hD hS
        exact lI21 _ 29 f5 u6 ls H locs vc0 (Nat.lt_succ_self _) (lv_sub hl [1, 2, 0] rfl) hP hD hS
      · have vc := vc.2 h
        refine lv_aload_n hx hb d_Mo_lowerFrom_9 rfl (lv_at hl 0 rfl) ?_
        refine lv_iload_n hx hb d_Mo_lowerFrom_10 rfl (lv_at hl 1 rfl) ?_
        refine lv_aload_n hx hb d_Mo_lowerFrom_11 rfl (lv_at hl 0 rfl) ?_
        refine lv_iload_n hx hb d_Mo_lowerFrom_12 rfl (lv_at hl 1 rfl) ?_
        refine lv_iload_n hx hb d_Mo_lowerFrom_13 rfl (lv_at hl 2 rfl) ?_
        obtain ⟨hpre, vc⟩ := vc
        refine pc_V (As := [.int x, .int x4]) (rest := [.int x, .ref (b 0)]) S (c_Mo_said l D b cI cJ cZ mki msz mle mel mme mal mic mil mio mab mae msa mlc mli mna mva mma mch mre f5 mwr msh mth mnv mns mfa u6 x x4 hpre) wB_blind k_Mo_said i_Mo_said e_Mo_said o_Mo ml_Mo_141 hd_Mo_said (Nat.le_trans (by decide) hRf) (Nat.le_trans (by decide) hRl) hRc (va_recv hK hP (q0 := 0) (ci := 6) rfl rfl) (wB_at hP hK) hl.1 rfl (Nat.le_of_ble_eq_true rfl) d_Mo_lowerFrom_14 ?_
        obtain ⟨hpre, vc⟩ := vc
        refine wc_V (As := [.int x, .int (msa (29 * x + x4 : Int32).toNatClampNeg)]) (rest := []) (wr := ([] : va_W)) S (c_Mo_lower l D b cI cJ cZ mki msz mle mel mme mal mic mil mio mab mae msa mlc mli mna mva mma mch mre f5 mwr msh mth mnv mns mfa u6 x (msa (29 * x + x4 : Int32).toNatClampNeg) hpre) k_Mo_lower i_Mo_lower e_Mo_lower o_Mo ml_Mo_157 hd_Mo_lower (Nat.le_trans (by decide) hRf) (Nat.le_trans (by decide) hRl) hRc (va_recv hK hP (q0 := 0) (ci := 6) rfl rfl) hK hP hD hS hA [0, 1, 2, 3, 4, 5, 6, 7, 8, 9, 10, 11, 12, 13, 14, 15, 16, 17, 18, 19, 20, 21, 22] [] rfl rfl rfl (by decide) (by decide) (by decide) hl.1 rfl (Nat.le_of_ble_eq_true rfl) d_Mo_lowerFrom_17 (fun u H locs hu hP hD hS => ?_)
        obtain ⟨f40, u41⟩ := u
        have vc := vc f40 u41 hu
        clear hu
        have hP : va_P D vwCl (wM b cI cJ cZ mki msz mle mel mme mal mic mil mio mab mae msa mlc mli mna mva mma mch mre f40 mwr msh mth mnv mns mfa u41) H := hP
        have hD : va_D A (wM b cI cJ cZ mki msz mle mel mme mal mic mil mio mab mae msa mlc mli mna mva mma mch mre f40 mwr msh mth mnv mns mfa u41) := hD
        refine lv_iinc (k := 2) (v := x4 + 1) hx hb d_Mo_lowerFrom_20 hl rfl rfl (by decide) (lv' := [(2, .int (x4 + 1)), (0, .ref (b 0)), (1, .int x)]) rfl (fun ls hl => ?_)
        refine lv_goto (tgt := 3) hx hb d_Mo_lowerFrom_23 (by decide) ?_
        exact ihI7 (x4 + 1) f40 u41 ls H locs vc.1 (Nat.lt_of_lt_of_le vc.2 (Nat.le_of_lt_succ hmI7)) (lv_sub hl [1, 2, 0] rfl) hP hD hS
  exact lI7 _ 17 mlv mmo ls H locs vc0 (Nat.lt_succ_self _) (lv_sub hl [1, 2, 0] rfl) hP hD hS
set_option maxHeartbeats 4000000 in
theorem v_Mo_lowerFrom (mki : Nat → Int32) (msz : Nat → Int64) (mle : Nat → Int32) (mel : Nat → Int32) (mme : Nat → Int32) (mal : Nat → Int32) (mic : Nat → Int32) (mil : Nat → Int32) (mio : Nat → Int32) (mab : Nat → Int32) (mae : Nat → Int32) (msa : Nat → Int32) (mlc : Nat → Int32) (mli : Nat → Int32) (mna : Nat → Int32) (mva : Nat → Int32) (mma : Nat → Int32) (mch : Nat → Int32) (mre : Nat → Int32) (mlv : Nat → Int32) (mwr : Nat → Int64) (msh : Nat → Int32) (mth : Int32) (mnv : Int32) (mns : Int32) (mfa : Int32) (mmo : Int32) (x : Int32) (hpre : (∃ s n : Nat, s < 24 ∧ n ≤ 24 ∧ x = nI s ∧ LdOK msa mlc mli mna n ∧ LeOK mlc)) : V_Mo_lowerFrom mki msz mle mel mme mal mic mil mio mab mae msa mlc mli mna mva mma mch mre mlv mwr msh mth mnv mns mfa mmo x (fun mki' msz' mle' mel' mme' mal' mic' mil' mio' mab' mae' msa' mlc' mli' mna' mva' mma' mch' mre' mlv' mwr' msh' mth' mnv' mns' mfa' mmo' => (LwF (fun t => bt (sLIP msa mlc mli mna x.toNatClampNeg) t = true) x.toNatClampNeg 26 (fun t => bt (sLIP msa mlc mli mna x.toNatClampNeg) t = true) mlv mmo mlv' mmo') ∧ mki' = mki ∧ msz' = msz ∧ mle' = mle ∧ mel' = mel ∧ mme' = mme ∧ mal' = mal ∧ mic' = mic ∧ mil' = mil ∧ mio' = mio ∧ mab' = mab ∧ mae' = mae ∧ msa' = msa ∧ mlc' = mlc ∧ mli' = mli ∧ mna' = mna ∧ mva' = mva ∧ mma' = mma ∧ mch' = mch ∧ mre' = mre ∧ mwr' = mwr ∧ msh' = msh ∧ mth' = mth ∧ mnv' = mnv ∧ mns' = mns ∧ mfa' = mfa) := by
  unfold V_Mo_lowerFrom
  obtain ⟨q, n, hq, hn, rfl, hL, hle⟩ := hpre
  rw [nI_clamp (n := q) (by omega)]
  generalize hP : (fun t => bt (sLIP msa mlc mli mna q) t = true) = P
  have IP : ∀ t, P t ↔ t < 32 ∧ ((∃ j, 17 ≤ j ∧ j < 22 ∧ msa (q * 29 + j) = nI t) ∨ (∃ k i, k < 3 ∧ i < (mlc (q * 4 + k)).toNatClampNeg ∧ mli ((q * 4 + k) * 3 + i) = nI t) ∨ ∃ i, i < 12 ∧ mna ((q * 3 + 1) * 12 + i) = nI t) := fun t => by rw [← hP]; exact LIP_iff hn hL hq
  have vq : vp_in (nI q) 24 := vp_in_nI hq (by decide)
  refine ⟨fun x f m => ∃ k, 17 ≤ k ∧ k ≤ 22 ∧ x = nI k ∧ LwF P q (k - 17) (fun t => ∃ j, 17 ≤ j ∧ j < k ∧ msa (q * 29 + j) = nI t) mlv mmo f m, fun x _ _ => 22 - x.toInt.toNat, ⟨17, by decide, by decide, rfl, LwF.start (fun t ⟨j, w1, w2, _⟩ => by omega)⟩, ?_⟩
  rintro x f m ⟨k, hk0, hk, rfl, hI⟩
  refine ⟨fun h => ?_, fun h => ?_⟩
  · obtain rfl := fill_end (N := 22) h (by decide) hk
    refine ⟨fun x f m => ∃ k, k ≤ 3 ∧ x = nI (29 + k) ∧ LwF P q (5 + 3 * k) (fun t => (∃ j, 17 ≤ j ∧ j < 22 ∧ msa (q * 29 + j) = nI t) ∨ ∃ j i, j < k ∧ i < (mlc (q * 4 + j)).toNatClampNeg ∧ mli ((q * 4 + j) * 3 + i) = nI t) mlv mmo f m, fun x _ _ => 32 - x.toInt.toNat, ⟨0, by decide, rfl, hI.mono (by decide) (fun t _ w => w.elim id (fun ⟨j, i, w1, _⟩ => absurd w1 (Nat.not_lt_zero _)))⟩, ?_⟩
    clear hI h f m
    rintro x f m ⟨k, hk, rfl, hI⟩
    refine ⟨fun h => ?_, fun h => ?_⟩
    · obtain rfl : k = 3 := by have := fill_end (N := 32) h (by decide) (by omega); omega
      refine ⟨fun x f m => ∃ k, k ≤ 12 ∧ x = nI k ∧ LwF P q (14 + k) (fun t => ((∃ j, 17 ≤ j ∧ j < 22 ∧ msa (q * 29 + j) = nI t) ∨ ∃ j i, j < 3 ∧ i < (mlc (q * 4 + j)).toNatClampNeg ∧ mli ((q * 4 + j) * 3 + i) = nI t) ∨ ∃ i, i < k ∧ mna ((q * 3 + 1) * 12 + i) = nI t) mlv mmo f m, fun x _ _ => 12 - x.toInt.toNat, ⟨0, by decide, rfl, hI.mono (by decide) (fun t _ w => w.elim id (fun ⟨i, w1, _⟩ => absurd w1 (Nat.not_lt_zero _)))⟩, ?_⟩
      clear hI h f m
      rintro x f m ⟨k, hk, rfl, hI⟩
      refine ⟨fun h => ?_, fun h => ?_⟩
      · obtain rfl := fill_end (N := 12) h (by decide) hk
        refine ⟨hI.mono (by decide) (fun t _ w => ?_), rfl, rfl, rfl, rfl, rfl, rfl, rfl, rfl, rfl, rfl, rfl, rfl, rfl, rfl, rfl, rfl, rfl, rfl, rfl, rfl, rfl, rfl, rfl, rfl, rfl⟩
        rcases ((IP t).mp w).2 with w | w | w
        · exact Or.inl (Or.inl w)
        · exact Or.inl (Or.inr w)
        · exact Or.inr w
      · have hk2 := fill_step (N := 12) h (by decide) hk
        have o1 := ((hL q hq).2.2 1 k (by decide) hk2).mono hn
        rw [jx36', nI_clamp (n := (q * 3 + 1) * 12 + k) (by omega)]
        refine ⟨vp_in_nI (by omega) (by decide), ⟨vq, o1⟩, fun f1 m1 r1 => ⟨⟨k + 1, hk2, nI_1 k, ?_⟩, fill_mu hk2 (by decide)⟩⟩
        refine LwF.step (c := 14 + k) hq (by omega) hI r1 o1 (fun t ht e => (IP t).mpr ⟨by omega, Or.inr (Or.inr ⟨k, hk2, e⟩)⟩) (fun t _ w => ?_)
        rcases w with w | ⟨i, w1, w2⟩
        · exact Or.inl (Or.inl w)
        · by_cases e : i = k
          · subst e; exact Or.inr w2
          · exact Or.inl (Or.inr ⟨i, by omega, w2⟩)
    · have hk2 : k < 3 := by have := fill_step (N := 32) h (by decide) (by omega); omega
      obtain ⟨L, hL3, eL⟩ := hle (q * 4 + k) (by omega)
      refine ⟨fun x f m => ∃ i, i ≤ L ∧ x = nI i ∧ LwF P q (5 + 3 * k + i) (fun t => ((∃ j, 17 ≤ j ∧ j < 22 ∧ msa (q * 29 + j) = nI t) ∨ ∃ j i, j < k ∧ i < (mlc (q * 4 + j)).toNatClampNeg ∧ mli ((q * 4 + j) * 3 + i) = nI t) ∨ ∃ a, a < i ∧ mli ((q * 4 + k) * 3 + a) = nI t) mlv mmo f m, fun x _ _ => L - x.toInt.toNat, ⟨0, Nat.zero_le _, rfl, hI.mono (Nat.le_refl _) (fun t _ w => w.elim id (fun ⟨j, w1, _⟩ => absurd w1 (Nat.not_lt_zero _)))⟩, ?_⟩
      clear hI
      rintro x f3 m3 ⟨i, hi, rfl, hI⟩
      rw [jx4, nI_clamp (n := q * 4 + k) (by omega), eL]
      refine ⟨vp_in_nI (by omega) (by decide), fun h2 => ?_, fun h2 => ?_⟩
      · obtain rfl := (fill_end (N := L) h2 (by omega) hi).symm
        refine ⟨⟨k + 1, hk2, nI_1 _, hI.mono (by omega) (fun t _ w => ?_)⟩, fill_mu (N := 32) (k := 29 + k) (by omega) (by decide)⟩
        rcases w with w | ⟨j, a, w1, w2, w3⟩
        · exact Or.inl (Or.inl w)
        · by_cases e : j = k
          · subst e; rw [eL, nI_clamp (by omega)] at w2; exact Or.inr ⟨a, w2, w3⟩
          · exact Or.inl (Or.inr ⟨j, a, by omega, w2, w3⟩)
      · have hi2 := fill_step (N := L) h2 (by omega) hi
        have hiL : i < (mlc (q * 4 + k)).toNatClampNeg := by rw [eL, nI_clamp (by omega)]; exact hi2
        have o1 := ((hL q hq).2.1 k i (by omega) hiL).mono hn
        rw [jx12, nI_clamp (n := (q * 4 + k) * 3 + i) (by omega)]
        refine ⟨vp_in_nI (by omega) (by decide), ⟨vq, o1⟩, fun f1 m1 r1 => ⟨⟨i + 1, hi2, nI_1 i, ?_⟩, fill_mu hi2 (by omega)⟩⟩
        refine LwF.step (c := 5 + 3 * k + i) hq (by omega) hI r1 o1 (fun t ht e => (IP t).mpr ⟨by omega, Or.inr (Or.inl ⟨k, i, hk2, hiL, e⟩)⟩) (fun t _ w => ?_)
        rcases w with w | ⟨a, w1, w2⟩
        · exact Or.inl (Or.inl w)
        · by_cases e : a = i
          · subst e; exact Or.inr w2
          · exact Or.inl (Or.inr ⟨a, by omega, w2⟩)
  · have hk2 := fill_step (N := 22) h (by decide) hk
    have o1 := ((hL q hq).1 k hk0 (by omega) (by omega) (by omega)).mono hn
    rw [jx29, nI_clamp (n := q * 29 + k) (by omega)]
    refine ⟨vp_in_nI (by omega) (by decide), ⟨vq, o1⟩, fun f1 m1 r1 => ⟨⟨k + 1, by omega, hk2, nI_1 k, ?_⟩, fill_mu hk2 (by decide)⟩⟩
    have hs := LwF.step (c := k - 17) (D' := fun t => ∃ j, 17 ≤ j ∧ j < k + 1 ∧ msa (q * 29 + j) = nI t) hq (by omega) hI r1 o1 (fun t ht e => (IP t).mpr ⟨by omega, Or.inl ⟨k, hk0, hk2, e⟩⟩) (fun t _ w => ?_)
    · exact hs.mono (by omega) (fun _ _ w => w)
    · obtain ⟨j, w1, w2, w5⟩ := w
      by_cases e : j = k
      · subst e; exact Or.inr w5
      · exact Or.inl ⟨j, w1, by omega, w5⟩
theorem c_Mo_lowerFrom (l : Launch) (D : va_G) (b : Nat → Nat) (cI cJ cZ : ClassId) (mki : Nat → Int32) (msz : Nat → Int64) (mle : Nat → Int32) (mel : Nat → Int32) (mme : Nat → Int32) (mal : Nat → Int32) (mic : Nat → Int32) (mil : Nat → Int32) (mio : Nat → Int32) (mab : Nat → Int32) (mae : Nat → Int32) (msa : Nat → Int32) (mlc : Nat → Int32) (mli : Nat → Int32) (mna : Nat → Int32) (mva : Nat → Int32) (mma : Nat → Int32) (mch : Nat → Int32) (mre : Nat → Int32) (mlv : Nat → Int32) (mwr : Nat → Int64) (msh : Nat → Int32) (mth : Int32) (mnv : Int32) (mns : Int32) (mfa : Int32) (mmo : Int32) (x : Int32) (hpre : (∃ s n : Nat, s < 24 ∧ n ≤ 24 ∧ x = nI s ∧ LdOK msa mlc mli mna n ∧ LeOK mlc)) : Wm (S := (Nat → Int32) × Int32) l y_Mo_lowerFrom b_Mo_lowerFrom 4 none 1 23 [.ref (b 0), .int x] D (tyA cI cJ cZ) (wM b cI cJ cZ mki msz mle mel mme mal mic mil mio mab mae msa mlc mli mna mva mma mch mre mlv mwr msh mth mnv mns mfa mmo) (fun uu => LwF (fun t => bt (sLIP msa mlc mli mna x.toNatClampNeg) t = true) x.toNatClampNeg 26 (fun t => bt (sLIP msa mlc mli mna x.toNatClampNeg) t = true) mlv mmo uu.1 uu.2) (fun uu => none) (fun uu => (wM b cI cJ cZ mki msz mle mel mme mal mic mil mio mab mae msa mlc mli mna mva mma mch mre uu.1 mwr msh mth mnv mns mfa uu.2)) :=
  wm_v (by decide) (Nat.le_of_ble_eq_true rfl) (fun p e s m below meth c ls Q A S hK hP hD hA hS hl hret => g_Mo_lowerFrom S (Nat.le_refl _) (Nat.le_refl _) ⟨Nat.le_refl _, Nat.le_refl _⟩ D b cI cJ cZ mki msz mle mel mme mal mic mil mio mab mae msa mlc mli mna mva mma mch mre mlv mwr msh mth mnv mns mfa mmo x hK hP hD hA hS hl (v_Mo_lowerFrom mki msz mle mel mme mal mic mil mio mab mae msa mlc mli mna mva mma mch mre mlv mwr msh mth mnv mns mfa mmo x hpre) (fun mki' msz' mle' mel' mme' mal' mic' mil' mio' mab' mae' msa' mlc' mli' mna' mva' mma' mch' mre' mlv' mwr' msh' mth' mnv' mns' mfa' mmo' ls1 pc H1 locs1 hd hv hP1 hD1 hS1 => by obtain ⟨hp, rfl, rfl, rfl, rfl, rfl, rfl, rfl, rfl, rfl, rfl, rfl, rfl, rfl, rfl, rfl, rfl, rfl, rfl, rfl, rfl, rfl, rfl, rfl, rfl, rfl⟩ := hv; exact hret (mlv', mmo') ls1 pc H1 locs1 hd hp hP1 hD1 hS1))
theorem hd_Mo_lowerFrom : y_Mo_lowerFrom.cls ≠ "java/lang/invoke/MethodHandle" ∧ y_Mo_lowerFrom.cls ≠ "java/lang/invoke/VarHandle" ∧ (parseMethodDescriptor y_Mo_lowerFrom.desc).map (fun d => d.parameters.length) = some 1 := ⟨by decide, by decide, by decide +kernel⟩
