def V_Mo_listing (mki : Nat → Int32) (msz : Nat → Int64) (mle : Nat → Int32) (mel : Nat → Int32) (mme : Nat → Int32) (mal : Nat → Int32) (mic : Nat → Int32) (mil : Nat → Int32) (mio : Nat → Int32) (mab : Nat → Int32) (mae : Nat → Int32) (msa : Nat → Int32) (mlc : Nat → Int32) (mli : Nat → Int32) (mna : Nat → Int32) (mva : Nat → Int32) (mma : Nat → Int32) (mch : Nat → Int32) (mre : Nat → Int32) (mlv : Nat → Int32) (mwr : Nat → Int64) (msh : Nat → Int32) (mth : Int32) (mnv : Int32) (mns : Int32) (mfa : Int32) (mmo : Int32) (x : Int32) (y : Int32) (k : Int32) (post : Int32 → (Nat → Int32) → (Nat → Int64) → (Nat → Int32) → (Nat → Int32) → (Nat → Int32) → (Nat → Int32) → (Nat → Int32) → (Nat → Int32) → (Nat → Int32) → (Nat → Int32) → (Nat → Int32) → (Nat → Int32) → (Nat → Int32) → (Nat → Int32) → (Nat → Int32) → (Nat → Int32) → (Nat → Int32) → (Nat → Int32) → (Nat → Int32) → (Nat → Int32) → (Nat → Int64) → (Nat → Int32) → Int32 → Int32 → Int32 → Int32 → Int32 → Prop) : Prop :=
  (vp_in (4 * x + k - 29) 96 ∧ ((¬ k = 32 → (∃ (I4 : Int32 → Int32 → Prop) (mI4 : Int32 → Int32 → Nat), I4 0 0 ∧ (∀ (x2 : Int32) (x3 : Int32), I4 x2 x3 → (((mlc (4 * x + k - 29 : Int32).toNatClampNeg) ≤ x3 → (((mlc (4 * x + k - 29 : Int32).toNatClampNeg) = 0 → post 1 mki msz mle mel mme mal mic mil mio mab mae msa mlc mli mna mva mma mch mre mlv mwr msh mth mnv mns mfa mmo) ∧ (¬ (mlc (4 * x + k - 29 : Int32).toNatClampNeg) = 0 → ((¬ k = 29 → ((¬ k = 30 → ((¬ x2 = 1 → post 0 mki msz mle mel mme mal mic mil mio mab mae msa mlc mli mna mva mma mch mre mlv mwr msh mth mnv mns mfa mmo) ∧ (x2 = 1 → post 1 mki msz mle mel mme mal mic mil mio mab mae msa mlc mli mna mva mma mch mre mlv mwr msh mth mnv mns mfa mmo))) ∧ (k = 30 → ((x2 ≤ 0 → post 0 mki msz mle mel mme mal mic mil mio mab mae msa mlc mli mna mva mma mch mre mlv mwr msh mth mnv mns mfa mmo) ∧ (¬ x2 ≤ 0 → post 1 mki msz mle mel mme mal mic mil mio mab mae msa mlc mli mna mva mma mch mre mlv mwr msh mth mnv mns mfa mmo))))) ∧ (k = 29 → ((¬ x2 = (mlc (4 * x + k - 29 : Int32).toNatClampNeg) → post 0 mki msz mle mel mme mal mic mil mio mab mae msa mlc mli mna mva mma mch mre mlv mwr msh mth mnv mns mfa mmo) ∧ (x2 = (mlc (4 * x + k - 29 : Int32).toNatClampNeg) → post 1 mki msz mle mel mme mal mic mil mio mab mae msa mlc mli mna mva mma mch mre mlv mwr msh mth mnv mns mfa mmo))))))) ∧ (¬ (mlc (4 * x + k - 29 : Int32).toNatClampNeg) ≤ x3 → (vp_in (12 * x + 3 * (k - 29) + x3) 288 ∧ ((vp_in (40 * (mli (12 * x + 3 * (k - 29) + x3 : Int32).toNatClampNeg) + y) 960 ∧ (mva (40 * (mli (12 * x + 3 * (k - 29) + x3 : Int32).toNatClampNeg) + y : Int32).toNatClampNeg = 0 ∨ mva (40 * (mli (12 * x + 3 * (k - 29) + x3 : Int32).toNatClampNeg) + y : Int32).toNatClampNeg = 1)) ∧ (((bI (decide (¬ mva (40 * (mli (12 * x + 3 * (k - 29) + x3 : Int32).toNatClampNeg) + y : Int32).toNatClampNeg = 0))) = 0 → (I4 (x2 + 0) (x3 + 1) ∧ mI4 (x2 + 0) (x3 + 1) < mI4 x2 x3)) ∧ (¬ (bI (decide (¬ mva (40 * (mli (12 * x + 3 * (k - 29) + x3 : Int32).toNatClampNeg) + y : Int32).toNatClampNeg = 0))) = 0 → (I4 (x2 + 1) (x3 + 1) ∧ mI4 (x2 + 1) (x3 + 1) < mI4 x2 x3)))))))))) ∧ (k = 32 → (∃ (I8 : Int32 → Int32 → Prop) (mI8 : Int32 → Int32 → Nat), I8 1 0 ∧ (∀ (x6 : Int32) (x7 : Int32), I8 x6 x7 → (((mlc (4 * x + k - 29 : Int32).toNatClampNeg) ≤ x7 → post x6 mki msz mle mel mme mal mic mil mio mab mae msa mlc mli mna mva mma mch mre mlv mwr msh mth mnv mns mfa mmo) ∧ (¬ (mlc (4 * x + k - 29 : Int32).toNatClampNeg) ≤ x7 → (vp_in y 40 ∧ ((¬ (mki y.toNatClampNeg) = 4 → post x6 mki msz mle mel mme mal mic mil mio mab mae msa mlc mli mna mva mma mch mre mlv mwr msh mth mnv mns mfa mmo) ∧ ((mki y.toNatClampNeg) = 4 → ((x6 = 0 → (I8 0 (x7 + 1) ∧ mI8 0 (x7 + 1) < mI8 x6 x7)) ∧ (¬ x6 = 0 → (vp_in y 40 ∧ (((mle y.toNatClampNeg) ≤ x7 → (I8 1 (x7 + 1) ∧ mI8 1 (x7 + 1) < mI8 x6 x7)) ∧ (¬ (mle y.toNatClampNeg) ≤ x7 → (vp_in (12 * x + 3 * (k - 29) + x7) 288 ∧ (vp_in ((8 * y) + x7) 320 ∧ ((vp_in (40 * (mli (12 * x + 3 * (k - 29) + x7 : Int32).toNatClampNeg) + (mel ((8 * y) + x7 : Int32).toNatClampNeg)) 960 ∧ (mva (40 * (mli (12 * x + 3 * (k - 29) + x7 : Int32).toNatClampNeg) + (mel ((8 * y) + x7 : Int32).toNatClampNeg) : Int32).toNatClampNeg = 0 ∨ mva (40 * (mli (12 * x + 3 * (k - 29) + x7 : Int32).toNatClampNeg) + (mel ((8 * y) + x7 : Int32).toNatClampNeg) : Int32).toNatClampNeg = 1)) ∧ (((bI (decide (¬ mva (40 * (mli (12 * x + 3 * (k - 29) + x7 : Int32).toNatClampNeg) + (mel ((8 * y) + x7 : Int32).toNatClampNeg) : Int32).toNatClampNeg = 0))) = 0 → (I8 0 (x7 + 1) ∧ mI8 0 (x7 + 1) < mI8 x6 x7)) ∧ (¬ (bI (decide (¬ mva (40 * (mli (12 * x + 3 * (k - 29) + x7 : Int32).toNatClampNeg) + (mel ((8 * y) + x7 : Int32).toNatClampNeg) : Int32).toNatClampNeg = 0))) = 0 → (I8 1 (x7 + 1) ∧ mI8 1 (x7 + 1) < mI8 x6 x7)))))))))))))))))))))
set_option maxHeartbeats 4000000 in
set_option maxRecDepth 100000 in
theorem g_Mo_listing {p : Program} {l : Launch} {e : Env} {R : Room} {s : State} {m : MethodId} {args : Array Value} {below : List Frame} {meth : Method} {c : Code} {H : Heap} {locs : List Loc} {cells slots : Nat} {Q : State → Prop} {ls : Array Slot} {A : Nat → Prop} (S : CallFix p m c b_Mo_listing 7 s args W0 R_Mo) (hRf : 1 ≤ R.frames) (hRl : 23 ≤ R.locals) (hRc : cells ≤ R.cells ∧ slots ≤ R.slots) (D : va_G) (b : Nat → Nat) (cI cJ cZ : ClassId) (mki : Nat → Int32) (msz : Nat → Int64) (mle : Nat → Int32) (mel : Nat → Int32) (mme : Nat → Int32) (mal : Nat → Int32) (mic : Nat → Int32) (mil : Nat → Int32) (mio : Nat → Int32) (mab : Nat → Int32) (mae : Nat → Int32) (msa : Nat → Int32) (mlc : Nat → Int32) (mli : Nat → Int32) (mna : Nat → Int32) (mva : Nat → Int32) (mma : Nat → Int32) (mch : Nat → Int32) (mre : Nat → Int32) (mlv : Nat → Int32) (mwr : Nat → Int64) (msh : Nat → Int32) (mth : Int32) (mnv : Int32) (mns : Int32) (mfa : Int32) (mmo : Int32) (x : Int32) (y : Int32) (k : Int32) (hK : va_K D vwCl (tyA cI cJ cZ) s) (hP : va_P D vwCl (wM b cI cJ cZ mki msz mle mel mme mal mic mil mio mab mae msa mlc mli mna mva mma mch mre mlv mwr msh mth mnv mns mfa mmo) H) (hD : va_D A (wM b cI cJ cZ mki msz mle mel mme mal mic mil mio mab mae msa mlc mli mna mva mma mch mre mlv mwr msh mth mnv mns mfa mmo)) (hA : ∀ q, s.heap.size ≤ q → A q) (hS : va_S A s.heap H locs) (hl : lv_has ls 7 [(0, .ref (b 0)), (1, .int x), (2, .int y), (3, .int k)]) {post : Int32 → (Nat → Int32) → (Nat → Int64) → (Nat → Int32) → (Nat → Int32) → (Nat → Int32) → (Nat → Int32) → (Nat → Int32) → (Nat → Int32) → (Nat → Int32) → (Nat → Int32) → (Nat → Int32) → (Nat → Int32) → (Nat → Int32) → (Nat → Int32) → (Nat → Int32) → (Nat → Int32) → (Nat → Int32) → (Nat → Int32) → (Nat → Int32) → (Nat → Int32) → (Nat → Int64) → (Nat → Int32) → Int32 → Int32 → Int32 → Int32 → Int32 → Prop} (vc : V_Mo_listing mki msz mle mel mme mal mic mil mio mab mae msa mlc mli mna mva mma mch mre mlv mwr msh mth mnv mns mfa mmo x y k post)
    (hret : ∀ (v : Int32) (mki : Nat → Int32) (msz : Nat → Int64) (mle : Nat → Int32) (mel : Nat → Int32) (mme : Nat → Int32) (mal : Nat → Int32) (mic : Nat → Int32) (mil : Nat → Int32) (mio : Nat → Int32) (mab : Nat → Int32) (mae : Nat → Int32) (msa : Nat → Int32) (mlc : Nat → Int32) (mli : Nat → Int32) (mna : Nat → Int32) (mva : Nat → Int32) (mma : Nat → Int32) (mch : Nat → Int32) (mre : Nat → Int32) (mlv : Nat → Int32) (mwr : Nat → Int64) (msh : Nat → Int32) (mth : Int32) (mnv : Int32) (mns : Int32) (mfa : Int32) (mmo : Int32) (ls : Array Slot) (pc : Nat) (H : Heap) (locs : List Loc), decode b_Mo_listing pc = .ok (.ireturn, 1) → post v mki msz mle mel mme mal mic mil mio mab mae msa mlc mli mna mva mma mch mre mlv mwr msh mth mnv mns mfa mmo → va_P D vwCl (wM b cI cJ cZ mki msz mle mel mme mal mic mil mio mab mae msa mlc mli mna mva mma mch mre mlv mwr msh mth mnv mns mfa mmo) H → va_D A (wM b cI cJ cZ mki msz mle mel mme mal mic mil mio mab mae msa mlc mli mna mva mma mch mre mlv mwr msh mth mnv mns mfa mmo) → va_S A s.heap H locs → W p l e R s m args below meth c H locs cells slots Q (F0 m pc ls [.int v])) : W p l e R s m args below meth c H locs cells slots Q (F0 m 0 ls []) := by
  have hx := S.1
  have hb := S.2.1
  have hown := S.2.2.2.1
  have hts := S.2.2.2.2
  unfold V_Mo_listing at vc
  refine lv_aload_n hx hb d_Mo_listing_0 rfl (lv_at hl 0 rfl) ?_
  refine lv_iload_n hx hb d_Mo_listing_1 rfl (lv_at hl 1 rfl) ?_
  refine lv_iload_n hx hb d_Mo_listing_2 rfl (lv_at hl 3 rfl) ?_
  obtain ⟨hpre, vc⟩ := vc
  refine pc_V (As := [.int x, .int k]) (rest := []) S (c_Mo_many l D b cI cJ cZ mki msz mle mel mme mal mic mil mio mab mae msa mlc mli mna mva mma mch mre mlv mwr msh mth mnv mns mfa mmo x k hpre) wB_blind k_Mo_many i_Mo_many e_Mo_many o_Mo ml_Mo_148 hd_Mo_many (Nat.le_trans (by decide) hRf) (Nat.le_trans (by decide) hRl) hRc (va_recv hK hP (q0 := 0) (ci := 6) rfl rfl) (wB_at hP hK) hl.1 rfl (Nat.le_of_ble_eq_true rfl) d_Mo_listing_3 ?_
  refine lv_istore hx hb d_Mo_listing_6 hl (by decide) (lv' := [(4, .int (mlc (4 * x + k - 29 : Int32).toNatClampNeg)), (0, .ref (b 0)), (1, .int x), (2, .int y), (3, .int k)]) rfl (fun ls hl => ?_)
  refine lv_iload_n hx hb d_Mo_listing_8 rfl (lv_at hl 4 rfl) ?_
  refine lv_bipush (v := 32) hx hb d_Mo_listing_9 (by decide) ?_
  refine lv_icmp_ne (tgt := 96) hx hb d_Mo_listing_11 (by decide) (fun h => ?_) (fun h => ?_)
  · have vc := vc.1 h
    refine lv_iconst (v := 0) hx hb d_Mo_listing_96 (by decide) ?_
    refine lv_istore hx hb d_Mo_listing_97 hl (by decide) (lv' := [(5, .int 0), (4, .int (mlc (4 * x + k - 29 : Int32).toNatClampNeg)), (0, .ref (b 0)), (1, .int x), (2, .int y), (3, .int k)]) rfl (fun ls hl => ?_)
    refine lv_iconst (v := 0) hx hb d_Mo_listing_99 (by decide) ?_
    refine lv_istore hx hb d_Mo_listing_100 hl (by decide) (lv' := [(6, .int 0), (5, .int 0), (4, .int (mlc (4 * x + k - 29 : Int32).toNatClampNeg)), (0, .ref (b 0)), (1, .int x), (2, .int y), (3, .int k)]) rfl (fun ls hl => ?_)
    obtain ⟨I4, mI4, vc0, vcs⟩ := vc
    have lI4 : ∀ n : Nat, ∀ (x2 : Int32) (x3 : Int32) (ls : Array Slot) (H : Heap) (locs : List Loc), I4 x2 x3 → mI4 x2 x3 < n → lv_has ls 7 [(0, .ref (b 0)), (1, .int x), (2, .int y), (3, .int k), (4, .int (mlc (4 * x + k - 29 : Int32).toNatClampNeg)), (5, .int x2), (6, .int x3)] → va_P D vwCl (wM b cI cJ cZ mki msz mle mel mme mal mic mil mio mab mae msa mlc mli mna mva mma mch mre mlv mwr msh mth mnv mns mfa mmo) H → va_D A (wM b cI cJ cZ mki msz mle mel mme mal mic mil mio mab mae msa mlc mli mna mva mma mch mre mlv mwr msh mth mnv mns mfa mmo) → va_S A s.heap H locs → W p l e R s m args below meth c H locs cells slots Q (F0 m 102 ls []) := by
      intro n
      induction n with
      | zero => intro x2 x3 ls H locs _ h; exact absurd h (Nat.not_lt_zero _)
      | succ n ihI4 =>
        intro x2 x3 ls H locs vc hmI4 hl hP hD hS
        have vc := vcs x2 x3 vc
        refine lv_iload hx hb d_Mo_listing_102 (lv_at hl 6 rfl) ?_
        refine lv_iload hx hb d_Mo_listing_104 (lv_at hl 4 rfl) ?_
        refine lv_icmp_ge (tgt := 141) hx hb d_Mo_listing_106 (by decide) (fun h => ?_) (fun h => ?_)
        · have vc := vc.1 h
          refine lv_iload hx hb d_Mo_listing_141 (lv_at hl 4 rfl) ?_
          refine lv_if_eq (tgt := 182) hx hb d_Mo_listing_143 (by decide) (fun h => ?_) (fun h => ?_)
          · have vc := vc.1 h
            refine lv_iconst (v := 1) hx hb d_Mo_listing_182 (by decide) ?_
            refine lv_goto (tgt := 187) hx hb d_Mo_listing_183 (by decide) ?_
            exact hret _ _ _ _ _ _ _ _ _ _ _ _ _ _ _ _ _ _ _ _ _ _ _ _ _ _ _ _ ls _ H locs d_Mo_listing_187 vc hP hD hS
          · have vc := vc.2 h
            refine lv_iload_n hx hb d_Mo_listing_146 rfl (lv_at hl 3 rfl) ?_
            refine lv_bipush (v := 29) hx hb d_Mo_listing_147 (by decide) ?_
            refine lv_icmp_ne (tgt := 162) hx hb d_Mo_listing_149 (by decide) (fun h => ?_) (fun h => ?_)
            · have vc := vc.1 h
              refine lv_iload_n hx hb d_Mo_listing_162 rfl (lv_at hl 3 rfl) ?_
              refine lv_bipush (v := 30) hx hb d_Mo_listing_163 (by decide) ?_
              refine lv_icmp_ne (tgt := 176) hx hb d_Mo_listing_165 (by decide) (fun h => ?_) (fun h => ?_)
              · have vc := vc.1 h
                refine lv_iload hx hb d_Mo_listing_176 (lv_at hl 5 rfl) ?_
                refine lv_iconst (v := 1) hx hb d_Mo_listing_178 (by decide) ?_
                refine lv_icmp_ne (tgt := 186) hx hb d_Mo_listing_179 (by decide) (fun h => ?_) (fun h => ?_)
                · have vc := vc.1 h
                  refine lv_iconst (v := 0) hx hb d_Mo_listing_186 (by decide) ?_
                  exact hret _ _ _ _ _ _ _ _ _ _ _ _ _ _ _ _ _ _ _ _ _ _ _ _ _ _ _ _ ls _ H locs d_Mo_listing_187 vc hP hD hS
                · have vc := vc.2 h
                  refine lv_iconst (v := 1) hx hb d_Mo_listing_182 (by decide) ?_
                  refine lv_goto (tgt := 187) hx hb d_Mo_listing_183 (by decide) ?_
                  exact hret _ _ _ _ _ _ _ _ _ _ _ _ _ _ _ _ _ _ _ _ _ _ _ _ _ _ _ _ ls _ H locs d_Mo_listing_187 vc hP hD hS
              · have vc := vc.2 h
                refine lv_iload hx hb d_Mo_listing_168 (lv_at hl 5 rfl) ?_
                refine lv_if_le (tgt := 186) hx hb d_Mo_listing_170 (by decide) (fun h => ?_) (fun h => ?_)
                · have vc := vc.1 h
                  refine lv_iconst (v := 0) hx hb d_Mo_listing_186 (by decide) ?_
                  exact hret _ _ _ _ _ _ _ _ _ _ _ _ _ _ _ _ _ _ _ _ _ _ _ _ _ _ _ _ ls _ H locs d_Mo_listing_187 vc hP hD hS
                · have vc := vc.2 h
                  refine lv_goto (tgt := 182) hx hb d_Mo_listing_173 (by decide) ?_
                  refine lv_iconst (v := 1) hx hb d_Mo_listing_182 (by decide) ?_
                  refine lv_goto (tgt := 187) hx hb d_Mo_listing_183 (by decide) ?_
                  exact hret _ _ _ _ _ _ _ _ _ _ _ _ _ _ _ _ _ _ _ _ _ _ _ _ _ _ _ _ ls _ H locs d_Mo_listing_187 vc hP hD hS
            · have vc := vc.2 h
              refine lv_iload hx hb d_Mo_listing_152 (lv_at hl 5 rfl) ?_
              refine lv_iload hx hb d_Mo_listing_154 (lv_at hl 4 rfl) ?_
              refine lv_icmp_ne (tgt := 186) hx hb d_Mo_listing_156 (by decide) (fun h => ?_) (fun h => ?_)
              · have vc := vc.1 h
                refine lv_iconst (v := 0) hx hb d_Mo_listing_186 (by decide) ?_
                exact hret _ _ _ _ _ _ _ _ _ _ _ _ _ _ _ _ _ _ _ _ _ _ _ _ _ _ _ _ ls _ H locs d_Mo_listing_187 vc hP hD hS
              · have vc := vc.2 h
                refine lv_goto (tgt := 182) hx hb d_Mo_listing_159 (by decide) ?_
                refine lv_iconst (v := 1) hx hb d_Mo_listing_182 (by decide) ?_
                refine lv_goto (tgt := 187) hx hb d_Mo_listing_183 (by decide) ?_
                exact hret _ _ _ _ _ _ _ _ _ _ _ _ _ _ _ _ _ _ _ _ _ _ _ _ _ _ _ _ ls _ H locs d_Mo_listing_187 vc hP hD hS
        · have vc := vc.2 h
          refine lv_iload hx hb d_Mo_listing_109 (lv_at hl 5 rfl) ?_
          refine lv_aload_n hx hb d_Mo_listing_111 rfl (lv_at hl 0 rfl) ?_
          refine lv_aload_n hx hb d_Mo_listing_112 rfl (lv_at hl 0 rfl) ?_
          refine lv_iload_n hx hb d_Mo_listing_113 rfl (lv_at hl 1 rfl) ?_
          refine lv_iload_n hx hb d_Mo_listing_114 rfl (lv_at hl 3 rfl) ?_
          refine lv_iload hx hb d_Mo_listing_115 (lv_at hl 6 rfl) ?_
          obtain ⟨hpre, vc⟩ := vc
          refine pc_V (As := [.int x, .int k, .int x3]) (rest := [.ref (b 0), .int x2]) S (c_Mo_listed l D b cI cJ cZ mki msz mle mel mme mal mic mil mio mab mae msa mlc mli mna mva mma mch mre mlv mwr msh mth mnv mns mfa mmo x k x3 hpre) wB_blind k_Mo_listed i_Mo_listed e_Mo_listed o_Mo ml_Mo_151 hd_Mo_listed (Nat.le_trans (by decide) hRf) (Nat.le_trans (by decide) hRl) hRc (va_recv hK hP (q0 := 0) (ci := 6) rfl rfl) (wB_at hP hK) hl.1 rfl (Nat.le_of_ble_eq_true rfl) d_Mo_listing_117 ?_
          refine lv_iload_n hx hb d_Mo_listing_120 rfl (lv_at hl 2 rfl) ?_
          obtain ⟨hpre, vc⟩ := vc
          refine pc_V (As := [.int (mli (12 * x + 3 * (k - 29) + x3 : Int32).toNatClampNeg), .int y]) (rest := [.int x2]) S (c_Mo_isValid l D b cI cJ cZ mki msz mle mel mme mal mic mil mio mab mae msa mlc mli mna mva mma mch mre mlv mwr msh mth mnv mns mfa mmo (mli (12 * x + 3 * (k - 29) + x3 : Int32).toNatClampNeg) y hpre) wB_blind k_Mo_isValid i_Mo_isValid e_Mo_isValid o_Mo ml_Mo_193 hd_Mo_isValid (Nat.le_trans (by decide) hRf) (Nat.le_trans (by decide) hRl) hRc (va_recv hK hP (q0 := 0) (ci := 6) rfl rfl) (wB_at hP hK) hl.1 rfl (Nat.le_of_ble_eq_true rfl) d_Mo_listing_121 ?_
          refine lv_if_eq (tgt := 131) hx hb d_Mo_listing_124 (by decide) (fun h => ?_) (fun h => ?_)
          · have vc := vc.1 h
            refine lv_iconst (v := 0) hx hb d_Mo_listing_131 (by decide) ?_
            refine lv_iadd hx hb d_Mo_listing_132 ?_
            refine lv_istore hx hb d_Mo_listing_133 hl (by decide) (lv' := [(5, .int (x2 + 0)), (0, .ref (b 0)), (1, .int x), (2, .int y), (3, .int k), (4, .int (mlc (4 * x + k - 29 : Int32).toNatClampNeg)), (6, .int x3)]) rfl (fun ls hl => ?_)
            refine lv_iinc (k := 6) (v := x3 + 1) hx hb d_Mo_listing_135 hl rfl rfl (by decide) (lv' := [(6, .int (x3 + 1)), (5, .int (x2 + 0)), (0, .ref (b 0)), (1, .int x), (2, .int y), (3, .int k), (4, .int (mlc (4 * x + k - 29 : Int32).toNatClampNeg))]) rfl (fun ls hl => ?_)
            refine lv_goto (tgt := 102) hx hb d_Mo_listing_138 (by decide) ?_
            exact ihI4 (x2 + 0) (x3 + 1) ls H locs vc.1 (Nat.lt_of_lt_of_le vc.2 (Nat.le_of_lt_succ hmI4)) (lv_sub hl [2, 3, 4, 5, 6, 1, 0] rfl) hP hD hS
          · have vc := vc.2 h
            refine lv_iconst (v := 1) hx hb d_Mo_listing_127 (by decide) ?_
            refine lv_goto (tgt := 132) hx hb d_Mo_listing_128 (by decide) ?_
            refine lv_iadd hx hb d_Mo_listing_132 ?_
            refine lv_istore hx hb d_Mo_listing_133 hl (by decide) (lv' := [(5, .int (x2 + 1)), (0, .ref (b 0)), (1, .int x), (2, .int y), (3, .int k), (4, .int (mlc (4 * x + k - 29 : Int32).toNatClampNeg)), (6, .int x3)]) rfl (fun ls hl => ?_)
            refine lv_iinc (k := 6) (v := x3 + 1) hx hb d_Mo_listing_135 hl rfl rfl (by decide) (lv' := [(6, .int (x3 + 1)), (5, .int (x2 + 1)), (0, .ref (b 0)), (1, .int x), (2, .int y), (3, .int k), (4, .int (mlc (4 * x + k - 29 : Int32).toNatClampNeg))]) rfl (fun ls hl => ?_)
            refine lv_goto (tgt := 102) hx hb d_Mo_listing_138 (by decide) ?_
            exact ihI4 (x2 + 1) (x3 + 1) ls H locs vc.1 (Nat.lt_of_lt_of_le vc.2 (Nat.le_of_lt_succ hmI4)) (lv_sub hl [2, 3, 4, 5, 6, 1, 0] rfl) hP hD hS
    exact lI4 _ 0 0 ls H locs vc0 (Nat.lt_succ_self _) (lv_sub hl [3, 4, 5, 6, 2, 1, 0] rfl) hP hD hS
  · have vc := vc.2 h
    refine lv_iconst (v := 1) hx hb d_Mo_listing_14 (by decide) ?_
    refine lv_istore hx hb d_Mo_listing_15 hl (by decide) (lv' := [(5, .int 1), (4, .int (mlc (4 * x + k - 29 : Int32).toNatClampNeg)), (0, .ref (b 0)), (1, .int x), (2, .int y), (3, .int k)]) rfl (fun ls hl => ?_)
    refine lv_iconst (v := 0) hx hb d_Mo_listing_17 (by decide) ?_
    refine lv_istore hx hb d_Mo_listing_18 hl (by decide) (lv' := [(6, .int 0), (5, .int 1), (4, .int (mlc (4 * x + k - 29 : Int32).toNatClampNeg)), (0, .ref (b 0)), (1, .int x), (2, .int y), (3, .int k)]) rfl (fun ls hl => ?_)
    obtain ⟨I8, mI8, vc0, vcs⟩ := vc
    have lI8 : ∀ n : Nat, ∀ (x6 : Int32) (x7 : Int32) (ls : Array Slot) (H : Heap) (locs : List Loc), I8 x6 x7 → mI8 x6 x7 < n → lv_has ls 7 [(0, .ref (b 0)), (1, .int x), (2, .int y), (3, .int k), (4, .int (mlc (4 * x + k - 29 : Int32).toNatClampNeg)), (5, .int x6), (6, .int x7)] → va_P D vwCl (wM b cI cJ cZ mki msz mle mel mme mal mic mil mio mab mae msa mlc mli mna mva mma mch mre mlv mwr msh mth mnv mns mfa mmo) H → va_D A (wM b cI cJ cZ mki msz mle mel mme mal mic mil mio mab mae msa mlc mli mna mva mma mch mre mlv mwr msh mth mnv mns mfa mmo) → va_S A s.heap H locs → W p l e R s m args below meth c H locs cells slots Q (F0 m 20 ls []) := by
      intro n
      induction n with
      | zero => intro x6 x7 ls H locs _ h; exact absurd h (Nat.not_lt_zero _)
      | succ n ihI8 =>
        intro x6 x7 ls H locs vc hmI8 hl hP hD hS
        have vc := vcs x6 x7 vc
        refine lv_iload hx hb d_Mo_listing_20 (lv_at hl 6 rfl) ?_
        refine lv_iload hx hb d_Mo_listing_22 (lv_at hl 4 rfl) ?_
        refine lv_icmp_ge (tgt := 93) hx hb d_Mo_listing_24 (by decide) (fun h => ?_) (fun h => ?_)
        · have vc := vc.1 h
          refine lv_iload hx hb d_Mo_listing_93 (lv_at hl 5 rfl) ?_
          exact hret _ _ _ _ _ _ _ _ _ _ _ _ _ _ _ _ _ _ _ _ _ _ _ _ _ _ _ _ ls _ H locs d_Mo_listing_95 vc hP hD hS
        · have vc := vc.2 h
          refine lv_aload_n hx hb d_Mo_listing_27 rfl (lv_at hl 0 rfl) ?_
          refine va_get (D := D) (ci := 6) (v := .ref (b 1)) (C := R_Mo) (T := F_Mo) (N := 27) hx hb hts in_Mo hown hK hP 0 rfl rfl 2 (by decide) (hts _ fl_Mo_7) (fun _ h => h) rfl d_Mo_listing_28 ?_
          refine lv_iload_n hx hb d_Mo_listing_31 rfl (lv_at hl 2 rfl) ?_
          obtain ⟨vcb, vc⟩ := vc
          refine va_iald hx hb hK hP 1 0 rfl rfl vcb d_Mo_listing_32 ?_
          refine lv_iconst (v := 4) hx hb d_Mo_listing_33 (by decide) ?_
          refine lv_icmp_ne (tgt := 93) hx hb d_Mo_listing_34 (by decide) (fun h => ?_) (fun h => ?_)
          · have vc := vc.1 h
            refine lv_iload hx hb d_Mo_listing_93 (lv_at hl 5 rfl) ?_
            exact hret _ _ _ _ _ _ _ _ _ _ _ _ _ _ _ _ _ _ _ _ _ _ _ _ _ _ _ _ ls _ H locs d_Mo_listing_95 vc hP hD hS
          · have vc := vc.2 h
            refine lv_iload hx hb d_Mo_listing_37 (lv_at hl 5 rfl) ?_
            refine lv_if_eq (tgt := 84) hx hb d_Mo_listing_39 (by decide) (fun h => ?_) (fun h => ?_)
            · have vc := vc.1 h
              refine lv_iconst (v := 0) hx hb d_Mo_listing_84 (by decide) ?_
              refine lv_istore hx hb d_Mo_listing_85 hl (by decide) (lv' := [(5, .int 0), (0, .ref (b 0)), (1, .int x), (2, .int y), (3, .int k), (4, .int (mlc (4 * x + k - 29 : Int32).toNatClampNeg)), (6, .int x7)]) rfl (fun ls hl => ?_)
              refine lv_iinc (k := 6) (v := x7 + 1) hx hb d_Mo_listing_87 hl rfl rfl (by decide) (lv' := [(6, .int (x7 + 1)), (5, .int 0), (0, .ref (b 0)), (1, .int x), (2, .int y), (3, .int k), (4, .int (mlc (4 * x + k - 29 : Int32).toNatClampNeg))]) rfl (fun ls hl => ?_)
              refine lv_goto (tgt := 20) hx hb d_Mo_listing_90 (by decide) ?_
              exact ihI8 0 (x7 + 1) ls H locs vc.1 (Nat.lt_of_lt_of_le vc.2 (Nat.le_of_lt_succ hmI8)) (lv_sub hl [2, 3, 4, 5, 6, 1, 0] rfl) hP hD hS
            · have vc := vc.2 h
              refine lv_iload hx hb d_Mo_listing_42 (lv_at hl 6 rfl) ?_
              refine lv_aload_n hx hb d_Mo_listing_44 rfl (lv_at hl 0 rfl) ?_
              refine va_get (D := D) (ci := 6) (v := .ref (b 3)) (C := R_Mo) (T := F_Mo) (N := 27) hx hb hts in_Mo hown hK hP 0 rfl rfl 4 (by decide) (hts _ fl_Mo_17) (fun _ h => h) rfl d_Mo_listing_45 ?_
              refine lv_iload_n hx hb d_Mo_listing_48 rfl (lv_at hl 2 rfl) ?_
              obtain ⟨vcb, vc⟩ := vc
              refine va_iald hx hb hK hP 3 0 rfl rfl vcb d_Mo_listing_49 ?_
              refine lv_icmp_ge (tgt := 80) hx hb d_Mo_listing_50 (by decide) (fun h => ?_) (fun h => ?_)
              · have vc := vc.1 h
                refine lv_iconst (v := 1) hx hb d_Mo_listing_80 (by decide) ?_
                refine lv_goto (tgt := 85) hx hb d_Mo_listing_81 (by decide) ?_
                refine lv_istore hx hb d_Mo_listing_85 hl (by decide) (lv' := [(5, .int 1), (0, .ref (b 0)), (1, .int x), (2, .int y), (3, .int k), (4, .int (mlc (4 * x + k - 29 : Int32).toNatClampNeg)), (6, .int x7)]) rfl (fun ls hl => ?_)
                refine lv_iinc (k := 6) (v := x7 + 1) hx hb d_Mo_listing_87 hl rfl rfl (by decide) (lv' := [(6, .int (x7 + 1)), (5, .int 1), (0, .ref (b 0)), (1, .int x), (2, .int y), (3, .int k), (4, .int (mlc (4 * x + k - 29 : Int32).toNatClampNeg))]) rfl (fun ls hl => ?_)
                refine lv_goto (tgt := 20) hx hb d_Mo_listing_90 (by decide) ?_
                exact ihI8 1 (x7 + 1) ls H locs vc.1 (Nat.lt_of_lt_of_le vc.2 (Nat.le_of_lt_succ hmI8)) (lv_sub hl [2, 3, 4, 5, 6, 1, 0] rfl) hP hD hS
              · have vc := vc.2 h
                refine lv_aload_n hx hb d_Mo_listing_53 rfl (lv_at hl 0 rfl) ?_
                refine lv_aload_n hx hb d_Mo_listing_54 rfl (lv_at hl 0 rfl) ?_
                refine lv_iload_n hx hb d_Mo_listing_55 rfl (lv_at hl 1 rfl) ?_
                refine lv_iload_n hx hb d_Mo_listing_56 rfl (lv_at hl 3 rfl) ?_
                refine lv_iload hx hb d_Mo_listing_57 (lv_at hl 6 rfl) ?_
                obtain ⟨hpre, vc⟩ := vc
                refine pc_V (As := [.int x, .int k, .int x7]) (rest := [.ref (b 0)]) S (c_Mo_listed l D b cI cJ cZ mki msz mle mel mme mal mic mil mio mab mae msa mlc mli mna mva mma mch mre mlv mwr msh mth mnv mns mfa mmo x k x7 hpre) wB_blind k_Mo_listed i_Mo_listed e_Mo_listed o_Mo ml_Mo_151 hd_Mo_listed (Nat.le_trans (by decide) hRf) (Nat.le_trans (by decide) hRl) hRc (va_recv hK hP (q0 := 0) (ci := 6) rfl rfl) (wB_at hP hK) hl.1 rfl (Nat.le_of_ble_eq_true rfl) d_Mo_listing_59 ?_
                refine lv_aload_n hx hb d_Mo_listing_62 rfl (lv_at hl 0 rfl) ?_
                refine va_get (D := D) (ci := 6) (v := .ref (b 4)) (C := R_Mo) (T := F_Mo) (N := 27) hx hb hts in_Mo hown hK hP 0 rfl rfl 5 (by decide) (hts _ fl_Mo_20) (fun _ h => h) rfl d_Mo_listing_63 ?_
                refine lv_bipush (v := 8) hx hb d_Mo_listing_66 (by decide) ?_
                refine lv_iload_n hx hb d_Mo_listing_68 rfl (lv_at hl 2 rfl) ?_
                refine lv_imul hx hb d_Mo_listing_69 ?_
                refine lv_iload hx hb d_Mo_listing_70 (lv_at hl 6 rfl) ?_
                refine lv_iadd hx hb d_Mo_listing_72 ?_
                obtain ⟨vcb, vc⟩ := vc
                refine va_iald hx hb hK hP 4 0 rfl rfl vcb d_Mo_listing_73 ?_
                obtain ⟨hpre, vc⟩ := vc
                refine pc_V (As := [.int (mli (12 * x + 3 * (k - 29) + x7 : Int32).toNatClampNeg), .int (mel ((8 * y) + x7 : Int32).toNatClampNeg)]) (rest := []) S (c_Mo_isValid l D b cI cJ cZ mki msz mle mel mme mal mic mil mio mab mae msa mlc mli mna mva mma mch mre mlv mwr msh mth mnv mns mfa mmo (mli (12 * x + 3 * (k - 29) + x7 : Int32).toNatClampNeg) (mel ((8 * y) + x7 : Int32).toNatClampNeg) hpre) wB_blind k_Mo_isValid i_Mo_isValid e_Mo_isValid o_Mo ml_Mo_193 hd_Mo_isValid (Nat.le_trans (by decide) hRf) (Nat.le_trans (by decide) hRl) hRc (va_recv hK hP (q0 := 0) (ci := 6) rfl rfl) (wB_at hP hK) hl.1 rfl (Nat.le_of_ble_eq_true rfl) d_Mo_listing_74 ?_
                refine lv_if_eq (tgt := 84) hx hb d_Mo_listing_77 (by decide) (fun h => ?_) (fun h => ?_)
                · have vc := vc.1 h
                  refine lv_iconst (v := 0) hx hb d_Mo_listing_84 (by decide) ?_
                  refine lv_istore hx hb d_Mo_listing_85 hl (by decide) (lv' := [(5, .int 0), (0, .ref (b 0)), (1, .int x), (2, .int y), (3, .int k), (4, .int (mlc (4 * x + k - 29 : Int32).toNatClampNeg)), (6, .int x7)]) rfl (fun ls hl => ?_)
                  refine lv_iinc (k := 6) (v := x7 + 1) hx hb d_Mo_listing_87 hl rfl rfl (by decide) (lv' := [(6, .int (x7 + 1)), (5, .int 0), (0, .ref (b 0)), (1, .int x), (2, .int y), (3, .int k), (4, .int (mlc (4 * x + k - 29 : Int32).toNatClampNeg))]) rfl (fun ls hl => ?_)
                  refine lv_goto (tgt := 20) hx hb d_Mo_listing_90 (by decide) ?_
                  exact ihI8 0 (x7 + 1) ls H locs vc.1 (Nat.lt_of_lt_of_le vc.2 (Nat.le_of_lt_succ hmI8)) (lv_sub hl [2, 3, 4, 5, 6, 1, 0] rfl) hP hD hS
                · have vc := vc.2 h
                  refine lv_iconst (v := 1) hx hb d_Mo_listing_80 (by decide) ?_
                  refine lv_goto (tgt := 85) hx hb d_Mo_listing_81 (by decide) ?_
                  refine lv_istore hx hb d_Mo_listing_85 hl (by decide) (lv' := [(5, .int 1), (0, .ref (b 0)), (1, .int x), (2, .int y), (3, .int k), (4, .int (mlc (4 * x + k - 29 : Int32).toNatClampNeg)), (6, .int x7)]) rfl (fun ls hl => ?_)
                  refine lv_iinc (k := 6) (v := x7 + 1) hx hb d_Mo_listing_87 hl rfl rfl (by decide) (lv' := [(6, .int (x7 + 1)), (5, .int 1), (0, .ref (b 0)), (1, .int x), (2, .int y), (3, .int k), (4, .int (mlc (4 * x + k - 29 : Int32).toNatClampNeg))]) rfl (fun ls hl => ?_)
                  refine lv_goto (tgt := 20) hx hb d_Mo_listing_90 (by decide) ?_
                  exact ihI8 1 (x7 + 1) ls H locs vc.1 (Nat.lt_of_lt_of_le vc.2 (Nat.le_of_lt_succ hmI8)) (lv_sub hl [2, 3, 4, 5, 6, 1, 0] rfl) hP hD hS
    exact lI8 _ 1 0 ls H locs vc0 (Nat.lt_succ_self _) (lv_sub hl [3, 4, 5, 6, 2, 1, 0] rfl) hP hD hS
set_option maxHeartbeats 4000000 in
theorem v_Mo_listing (mki : Nat → Int32) (msz : Nat → Int64) (mle : Nat → Int32) (mel : Nat → Int32) (mme : Nat → Int32) (mal : Nat → Int32) (mic : Nat → Int32) (mil : Nat → Int32) (mio : Nat → Int32) (mab : Nat → Int32) (mae : Nat → Int32) (msa : Nat → Int32) (mlc : Nat → Int32) (mli : Nat → Int32) (mna : Nat → Int32) (mva : Nat → Int32) (mma : Nat → Int32) (mch : Nat → Int32) (mre : Nat → Int32) (mlv : Nat → Int32) (mwr : Nat → Int64) (msh : Nat → Int32) (mth : Int32) (mnv : Int32) (mns : Int32) (mfa : Int32) (mmo : Int32) (x : Int32) (y : Int32) (k : Int32) (hpre : (∃ n0 m0 s0 v0 : Nat, mnv = nI n0 ∧ mns = nI m0 ∧ MSOK mki msz mle mel mme mic mio msa mlc mli mna mva n0 m0 ∧ (s0 < m0 ∧ v0 < n0 ∧ x = nI s0 ∧ y = nI v0) ∧ ∃ k0 : Nat, k0 < 4 ∧ k = nI (29 + k0))) : V_Mo_listing mki msz mle mel mme mal mic mil mio mab mae msa mlc mli mna mva mma mch mre mlv mwr msh mth mnv mns mfa mmo x y k (fun v mki' msz' mle' mel' mme' mal' mic' mil' mio' mab' mae' msa' mlc' mli' mna' mva' mma' mch' mre' mlv' mwr' msh' mth' mnv' mns' mfa' mmo' => ∃ rr : Bool, v = bI rr ∧ ((∀ G : Sp, G = gM mki msz mle mel mme mal mic mil mio mab mae msa mlc mli mna mva mma mnv.toNatClampNeg → (rr = true ↔ ¬ Bad G x.toNatClampNeg y.toNatClampNeg k.toNatClampNeg))) ∧ mki' = mki ∧ msz' = msz ∧ mle' = mle ∧ mel' = mel ∧ mme' = mme ∧ mal' = mal ∧ mic' = mic ∧ mil' = mil ∧ mio' = mio ∧ mab' = mab ∧ mae' = mae ∧ msa' = msa ∧ mlc' = mlc ∧ mli' = mli ∧ mna' = mna ∧ mva' = mva ∧ mma' = mma ∧ mch' = mch ∧ mre' = mre ∧ mlv' = mlv ∧ mwr' = mwr ∧ msh' = msh ∧ mth' = mth ∧ mnv' = mnv ∧ mns' = mns ∧ mfa' = mfa ∧ mmo' = mmo) := by
  have main : ∀ post : Int32 → (Nat → Int32) → (Nat → Int64) → (Nat → Int32) → (Nat → Int32) → (Nat → Int32) → (Nat → Int32) → (Nat → Int32) → (Nat → Int32) → (Nat → Int32) → (Nat → Int32) → (Nat → Int32) → (Nat → Int32) → (Nat → Int32) → (Nat → Int32) → (Nat → Int32) → (Nat → Int32) → (Nat → Int32) → (Nat → Int32) → (Nat → Int32) → (Nat → Int32) → (Nat → Int64) → (Nat → Int32) → Int32 → Int32 → Int32 → Int32 → Int32 → Prop, (∀ v mki' msz' mle' mel' mme' mal' mic' mil' mio' mab' mae' msa' mlc' mli' mna' mva' mma' mch' mre' mlv' mwr' msh' mth' mnv' mns' mfa' mmo', (fun v mki' msz' mle' mel' mme' mal' mic' mil' mio' mab' mae' msa' mlc' mli' mna' mva' mma' mch' mre' mlv' mwr' msh' mth' mnv' mns' mfa' mmo' => ∃ rr : Bool, v = bI rr ∧ ((∀ G : Sp, G = gM mki msz mle mel mme mal mic mil mio mab mae msa mlc mli mna mva mma mnv.toNatClampNeg → (rr = true ↔ ¬ Bad G x.toNatClampNeg y.toNatClampNeg k.toNatClampNeg))) ∧ mki' = mki ∧ msz' = msz ∧ mle' = mle ∧ mel' = mel ∧ mme' = mme ∧ mal' = mal ∧ mic' = mic ∧ mil' = mil ∧ mio' = mio ∧ mab' = mab ∧ mae' = mae ∧ msa' = msa ∧ mlc' = mlc ∧ mli' = mli ∧ mna' = mna ∧ mva' = mva ∧ mma' = mma ∧ mch' = mch ∧ mre' = mre ∧ mlv' = mlv ∧ mwr' = mwr ∧ msh' = msh ∧ mth' = mth ∧ mnv' = mnv ∧ mns' = mns ∧ mfa' = mfa ∧ mmo' = mmo) v mki' msz' mle' mel' mme' mal' mic' mil' mio' mab' mae' msa' mlc' mli' mna' mva' mma' mch' mre' mlv' mwr' msh' mth' mnv' mns' mfa' mmo' → post v mki' msz' mle' mel' mme' mal' mic' mil' mio' mab' mae' msa' mlc' mli' mna' mva' mma' mch' mre' mlv' mwr' msh' mth' mnv' mns' mfa' mmo') → V_Mo_listing mki msz mle mel mme mal mic mil mio mab mae msa mlc mli mna mva mma mch mre mlv mwr msh mth mnv mns mfa mmo x y k post := by
    intro post hpost
    unfold V_Mo_listing
    obtain ⟨n0, m0, s0, v0, hnv, hns, hS, ⟨hs, hv, rfl, rfl⟩, k0, hk, rfl⟩ := hpre
    have hm24 := hS.2.2.1
    have hn40 := hS.1.1
    have hs24 : s0 < 24 := by omega
    have hv40 : v0 < 40 := by omega
    have cs : (nI s0).toNatClampNeg = s0 := nI_clamp (by omega)
    have cv : (nI v0).toNatClampNeg = v0 := nI_clamp (by omega)
    have cn : mnv.toNatClampNeg = n0 := by rw [hnv]; exact nI_clamp (by omega)
    have hxv : vp_in (nI v0) 40 := vp_in_nI hv40 (by decide)
    obtain ⟨⟨kd, hkd, ekd⟩, ⟨L, hL, eL⟩, hpart, hmem, htxt⟩ := hS.1.2.2 v0 hv40
    have cL : (nI L).toNatClampNeg = L := nI_clamp (by omega)
    have hL8 : (mle v0).toNatClampNeg ≤ 8 := by rw [eL, cL]; exact hL
    have ck : (nI (29 + k0)).toNatClampNeg = 29 + k0 := nI_clamp (by omega)
    have c4 : (nI (s0 * 4 + k0)).toNatClampNeg = s0 * 4 + k0 := nI_clamp (by omega)
    obtain ⟨K, hK3, eK⟩ := hS.2.2.2.1 (s0 * 4 + k0) (by omega)
    have cK : (nI K).toNatClampNeg = K := nI_clamp (by omega)
    have ek : ∀ c : Nat, c < 2 ^ 31 → (nI (29 + k0) = nI c ↔ 29 + k0 = c) := fun c hc => nI_eq (by omega) hc
    have e29 : nI (29 + k0) = 29 ↔ 29 + k0 = 29 := ek 29 (by decide)
    have e30 : nI (29 + k0) = 30 ↔ 29 + k0 = 30 := ek 30 (by decide)
    have e32 : nI (29 + k0) = 32 ↔ 29 + k0 = 32 := ek 32 (by decide)
    simp only [cs, cv, cn, ck, jx4, c4, eK, e29, e30, e32, eL] at hpost ⊢
    have gH : ∀ G, (G = gM mki msz mle mel mme mal mic mil mio mab mae msa mlc mli mna mva mma n0) → ∀ k, (ruH G s0 k ↔ ¬ msa (s0 * 29 + k) < 0) := fun G hG k => by unfold ruH; rw [(gM_eq hG).2.2.2.1]
    have gV : ∀ G, (G = gM mki msz mle mel mme mal mic mil mio mab mae msa mlc mli mna mva mma n0) → ∀ k, ruV G s0 k = (msa (s0 * 29 + k)).toNatClampNeg := fun G hG k => by unfold ruV; rw [(gM_eq hG).2.2.2.1]
    have gB : ∀ G, (G = gM mki msz mle mel mme mal mic mil mio mab mae msa mlc mli mna mva mma n0) → gPb G = mpb mki mle mme := fun G hG => (gM_eq hG).2.1
    have gT : ∀ G, (G = gM mki msz mle mel mme mal mic mil mio mab mae msa mlc mli mna mva mma n0) → gPt G = mpt mki mle mel mme := fun G hG => (gM_eq hG).2.2.1
    have gKk : ∀ G, (G = gM mki msz mle mel mme mal mic mil mio mab mae msa mlc mli mna mva mma n0) → gK G = mki := fun G hG => (gM_eq hG).1
    have gA : ∀ G, (G = gM mki msz mle mel mme mal mic mil mio mab mae msa mlc mli mna mva mma n0) → ∀ x w, (gVa G x w ↔ ¬ mva (40 * x + w) = 0) := fun G hG x w => by rw [(gM_eq hG).2.2.2.2.2.2.2.2.1]
    have row : ∀ G, (G = gM mki msz mle mel mme mal mic mil mio mab mae msa mlc mli mna mva mma n0) → mki v0 = 4 → ∀ i, (gPb G v0 i ↔ i < L) ∧ (i < L → gPt G v0 i = (mel (8 * v0 + i)).toNatClampNeg) := fun G hG h4 i => by
      rw [gB G hG, gT G hG, mpb_r hv40 h4 hL8, eL, cL]
      exact ⟨Iff.rfl, fun h => mpt_r hv40 h4 hL8 (by rw [eL, cL]; exact h)⟩
    have mem : ∀ G, (G = gM mki msz mle mel mme mal mic mil mio mab mae msa mlc mli mna mva mma n0) → mki v0 = 5 → ∀ i, i < 12 → (gPb G v0 i ↔ ¬ mme (12 * v0 + i) < 0) ∧ (¬ mme (12 * v0 + i) < 0 → gPt G v0 i = (mme (12 * v0 + i)).toNatClampNeg) := fun G hG h5 i hi => by
      rw [gB G hG, gT G hG, mpb_m hv40 h5 hi]
      exact ⟨Iff.rfl, fun h => mpt_m hv40 h5 hi h⟩
    have hls : ∀ G, (G = gM mki msz mle mel mme mal mic mil mio mab mae msa mlc mli mna mva mma n0) → lsL G s0 k0 = K := fun G hG => by unfold lsL; rw [(gM_eq hG).2.2.2.2.1, eK, cK]
    have hlv : ∀ j, j < K → ∃ x0, x0 < m0 ∧ mli ((s0 * 4 + k0) * 3 + j) = nI x0 := fun j hj => hS.2.2.2.2.2.2.2.1 s0 k0 j hs24 hk (by rw [eK, cK]; exact hj)
    have gLv : ∀ G, (G = gM mki msz mle mel mme mal mic mil mio mab mae msa mlc mli mna mva mma n0) → ∀ j, lsV G s0 k0 j = (mli ((s0 * 4 + k0) * 3 + j)).toNatClampNeg := fun G hG j => by unfold lsV; rw [(gM_eq hG).2.2.2.2.2.1]
    refine ⟨vp_in_nI (by omega) (by decide), fun h32 => ?_, fun h32 => ?_⟩
    · have hk3 : k0 < 3 := by omega
      refine ⟨fun xc xj => ∃ j c, j ≤ K ∧ c ≤ j ∧ xj = nI j ∧ xc = nI c ∧ ∀ G, (G = gM mki msz mle mel mme mal mic mil mio mab mae msa mlc mli mna mva mma n0) → c = cN (fun i => gVa G (lsV G s0 k0 i) v0) j, fun _ xj => K - xj.toInt.toNat, ⟨0, 0, Nat.zero_le _, Nat.le_refl _, rfl, rfl, fun _ _ => rfl⟩, ?_⟩
      rintro xc xj ⟨j, c, hj, hc, rfl, rfl, hcG⟩
      refine ⟨fun h => ?_, fun h => ?_⟩
      · obtain rfl := (fill_end (N := K) h (by omega) hj).symm
        have key : ∀ G, (G = gM mki msz mle mel mme mal mic mil mio mab mae msa mlc mli mna mva mma n0) → (Bad G s0 v0 (29 + k0) ↔ 0 < K ∧ ¬ (if k0 = 0 then c = K else if k0 = 1 then 0 < c else c = 1)) := fun G hG => by
          have e1 : cntL' G s0 v0 k0 = c := by unfold cntL'; rw [hls G hG]; exact (hcG G hG).symm
          rw [Bad_29 hk3]; unfold BadL; rw [e1, hls G hG]
          exact ⟨fun q => q.2, fun q => ⟨rfl, q⟩⟩
        rw [nI_eq0 (by omega)]
        refine ⟨fun h2 => (hpost _ _ _ _ _ _ _ _ _ _ _ _ _ _ _ _ _ _ _ _ _ _ _ _ _ _ _ _ ⟨true, rfl, fun G hG => ⟨fun _ => fun q => by have := ((key G hG).mp q).1; omega, fun _ => rfl⟩, rfl, rfl, rfl, rfl, rfl, rfl, rfl, rfl, rfl, rfl, rfl, rfl, rfl, rfl, rfl, rfl, rfl, rfl, rfl, rfl, rfl, rfl, rfl, rfl, rfl, rfl, rfl⟩), fun h2 => ⟨fun n29 => ⟨fun n30 => ⟨fun h3 => (hpost _ _ _ _ _ _ _ _ _ _ _ _ _ _ _ _ _ _ _ _ _ _ _ _ _ _ _ _ ⟨false, rfl, fun G hG => ⟨fun q => absurd q (by decide), fun q => absurd ((key G hG).mpr ⟨by omega, ?_⟩) q⟩, rfl, rfl, rfl, rfl, rfl, rfl, rfl, rfl, rfl, rfl, rfl, rfl, rfl, rfl, rfl, rfl, rfl, rfl, rfl, rfl, rfl, rfl, rfl, rfl, rfl, rfl, rfl⟩), fun h3 => (hpost _ _ _ _ _ _ _ _ _ _ _ _ _ _ _ _ _ _ _ _ _ _ _ _ _ _ _ _ ⟨true, rfl, fun G hG => ⟨fun _ => fun q => ((key G hG).mp q).2 ?_, fun _ => rfl⟩, rfl, rfl, rfl, rfl, rfl, rfl, rfl, rfl, rfl, rfl, rfl, rfl, rfl, rfl, rfl, rfl, rfl, rfl, rfl, rfl, rfl, rfl, rfl, rfl, rfl, rfl, rfl⟩)⟩, fun e => ⟨fun h3 => (hpost _ _ _ _ _ _ _ _ _ _ _ _ _ _ _ _ _ _ _ _ _ _ _ _ _ _ _ _ ⟨false, rfl, fun G hG => ⟨fun q => absurd q (by decide), fun q => absurd ((key G hG).mpr ⟨by omega, ?_⟩) q⟩, rfl, rfl, rfl, rfl, rfl, rfl, rfl, rfl, rfl, rfl, rfl, rfl, rfl, rfl, rfl, rfl, rfl, rfl, rfl, rfl, rfl, rfl, rfl, rfl, rfl, rfl, rfl⟩), fun h3 => (hpost _ _ _ _ _ _ _ _ _ _ _ _ _ _ _ _ _ _ _ _ _ _ _ _ _ _ _ _ ⟨true, rfl, fun G hG => ⟨fun _ => fun q => ((key G hG).mp q).2 ?_, fun _ => rfl⟩, rfl, rfl, rfl, rfl, rfl, rfl, rfl, rfl, rfl, rfl, rfl, rfl, rfl, rfl, rfl, rfl, rfl, rfl, rfl, rfl, rfl, rfl, rfl, rfl, rfl, rfl, rfl⟩)⟩⟩, fun e => ⟨fun h3 => (hpost _ _ _ _ _ _ _ _ _ _ _ _ _ _ _ _ _ _ _ _ _ _ _ _ _ _ _ _ ⟨false, rfl, fun G hG => ⟨fun q => absurd q (by decide), fun q => absurd ((key G hG).mpr ⟨by omega, ?_⟩) q⟩, rfl, rfl, rfl, rfl, rfl, rfl, rfl, rfl, rfl, rfl, rfl, rfl, rfl, rfl, rfl, rfl, rfl, rfl, rfl, rfl, rfl, rfl, rfl, rfl, rfl, rfl, rfl⟩), fun h3 => (hpost _ _ _ _ _ _ _ _ _ _ _ _ _ _ _ _ _ _ _ _ _ _ _ _ _ _ _ _ ⟨true, rfl, fun G hG => ⟨fun _ => fun q => ((key G hG).mp q).2 ?_, fun _ => rfl⟩, rfl, rfl, rfl, rfl, rfl, rfl, rfl, rfl, rfl, rfl, rfl, rfl, rfl, rfl, rfl, rfl, rfl, rfl, rfl, rfl, rfl, rfl, rfl, rfl, rfl, rfl, rfl⟩)⟩⟩⟩
        · rw [if_neg (by omega), if_neg (by omega)]
          intro z; subst z; exact h3 rfl
        · rw [if_neg (by omega), if_neg (by omega)]
          exact (nI_eqR (n := 1) (by decide) (by omega)).mp h3
        · rw [if_neg (by omega), if_pos (by omega)]
          rw [nI_le0 (by omega)] at h3; omega
        · rw [if_neg (by omega), if_pos (by omega)]
          rw [nI_le0 (by omega)] at h3; omega
        · rw [if_pos (by omega)]
          intro z; subst z; exact h3 rfl
        · rw [if_pos (by omega)]
          exact (nI_eq (by omega) (by omega)).mp h3
      · have hj2 := fill_step (N := K) h (by omega) hj
        have mu := fill_mu (N := K) hj2 (by omega)
        obtain ⟨x0, hx, ex⟩ := hlv j hj2
        have cx : (nI x0).toNatClampNeg = x0 := nI_clamp (by omega)
        have c12 : (nI ((s0 * 4 + k0) * 3 + j)).toNatClampNeg = (s0 * 4 + k0) * 3 + j := nI_clamp (by omega)
        have c0 := c40 (x := x0) (w := v0) (by omega) hv40
        rw [jx12, c12, ex]
        have z0 : nI c + 0 = nI c := by show nI c + nI 0 = nI c; rw [nI_add]; rfl
        rw [z0]
        refine ⟨vp_in_nI (by omega) (by decide), va_ok hS (by omega) hv40, fun h2 => ⟨⟨j + 1, c, hj2, by omega, nI_1 j, rfl, fun G hG => ?_⟩, mu⟩, fun h2 => ⟨⟨j + 1, c + 1, hj2, by omega, nI_1 j, nI_1 c, fun G hG => ?_⟩, mu⟩⟩
        · rw [cN_s.2]
          · exact hcG G hG
          · rw [gLv G hG, ex, cx, gA G hG]
            have := of_decide_eq_false (bI0.mp h2); rw [c0] at this; exact this
        · rw [cN_s.1, ← hcG G hG]
          rw [gLv G hG, ex, cx, gA G hG]
          have := of_decide_eq_true (bI_ne.mp h2); rw [c0] at this; exact this
    · have hk3 : k0 = 3 := by omega
      refine ⟨fun z xj => ∃ j b, j ≤ K ∧ xj = nI j ∧ z = bI b ∧ (b = true ↔ ∀ i, i < j → mki v0 = 4 → i < L → ¬ mva (40 * (mli ((s0 * 4 + k0) * 3 + i)).toNatClampNeg + (mel (8 * v0 + i)).toNatClampNeg) = 0), fun _ xj => K - xj.toInt.toNat, ⟨0, true, Nat.zero_le _, rfl, rfl, ⟨fun _ i q => absurd q (Nat.not_lt_zero _), fun _ => rfl⟩⟩, ?_⟩
      rintro z xj ⟨j, b, hj, rfl, rfl, hb⟩
      have fin : ∀ G, (G = gM mki msz mle mel mme mal mic mil mio mab mae msa mlc mli mna mva mma n0) → (mki v0 = 4 → j = K) → (b = true ↔ ¬ Bad G s0 v0 (29 + k0)) := fun G hG hjK => by
        have e0 : 29 + k0 = 32 := h32
        rw [e0, Bad_32, hb]
        have hls3 : lsL G s0 3 = K := by rw [← hk3]; exact hls G hG
        have hlv3 : ∀ i, lsV G s0 3 i = (mli ((s0 * 4 + k0) * 3 + i)).toNatClampNeg := fun i => by have := gLv G hG i; rw [hk3] at this ⊢; exact this
        rw [hls3]
        constructor
        · rintro q ⟨h4, i, w1, w2, w3, w4⟩
          rw [gKk G hG] at h4
          have hi := (row G hG h4 i).1.mp w2
          rw [(row G hG h4 i).2 hi, hlv3, gA G hG] at w4
          exact w4 (q i (by rw [hjK h4]; exact w3) h4 hi)
        · intro q i hi h4 hiL
          apply Classical.byContradiction
          intro w
          refine q ⟨by rw [gKk G hG]; exact h4, i, by omega, (row G hG h4 i).1.mpr hiL, by omega, ?_⟩
          rw [(row G hG h4 i).2 hiL, hlv3, gA G hG]; exact w
      refine ⟨fun h => ?_, fun h => ?_⟩
      · obtain rfl := (fill_end (N := K) h (by omega) hj).symm
        exact (hpost _ _ _ _ _ _ _ _ _ _ _ _ _ _ _ _ _ _ _ _ _ _ _ _ _ _ _ _ ⟨b, rfl, fun G hG => fin G hG (fun _ => rfl), rfl, rfl, rfl, rfl, rfl, rfl, rfl, rfl, rfl, rfl, rfl, rfl, rfl, rfl, rfl, rfl, rfl, rfl, rfl, rfl, rfl, rfl, rfl, rfl, rfl, rfl, rfl⟩)
      · have hj2 := fill_step (N := K) h (by omega) hj
        have mu := fill_mu (N := K) hj2 (by omega)
        refine ⟨hxv, fun h4 => (hpost _ _ _ _ _ _ _ _ _ _ _ _ _ _ _ _ _ _ _ _ _ _ _ _ _ _ _ _ ⟨b, rfl, fun G hG => fin G hG (fun w => absurd w h4), rfl, rfl, rfl, rfl, rfl, rfl, rfl, rfl, rfl, rfl, rfl, rfl, rfl, rfl, rfl, rfl, rfl, rfl, rfl, rfl, rfl, rfl, rfl, rfl, rfl, rfl, rfl⟩), fun h4 => ?_⟩
        have nx : ∀ c : Bool, (c = true ↔ (b = true ∧ (j < L → ¬ mva (40 * (mli ((s0 * 4 + k0) * 3 + j)).toNatClampNeg + (mel (8 * v0 + j)).toNatClampNeg) = 0))) → ∃ j2 b2, j2 ≤ K ∧ nI j + 1 = nI j2 ∧ bI c = bI b2 ∧ (b2 = true ↔ ∀ i, i < j2 → mki v0 = 4 → i < L → ¬ mva (40 * (mli ((s0 * 4 + k0) * 3 + i)).toNatClampNeg + (mel (8 * v0 + i)).toNatClampNeg) = 0) := fun c hc => by
          refine ⟨j + 1, c, hj2, nI_1 j, rfl, ?_⟩
          rw [hc, hb]
          constructor
          · rintro ⟨q1, q2⟩ i hi _ hiL
            by_cases e : i = j
            · subst e; exact q2 hiL
            · exact q1 i (by omega) h4 hiL
          · intro q; exact ⟨fun i hi => q i (by omega), q j (by omega) h4⟩
        have hjL : nI L ≤ nI j ↔ L ≤ j := nI_leI (by omega) (by omega)
        rw [hjL]
        refine ⟨fun h5 => ⟨nx false ⟨fun q => absurd q (by decide), fun q => ?_⟩, mu⟩, fun h5 => ⟨hxv, fun h6 => ⟨nx true ⟨fun _ => ⟨bI_ne.mp h5, fun q => by omega⟩, fun _ => rfl⟩, mu⟩, fun h6 => ?_⟩⟩
        · have := q.1; rw [bI0.mp h5] at this; exact absurd this (by decide)
        obtain ⟨x0, hx, ex⟩ := hlv j hj2
        obtain ⟨p, hp, ep⟩ := hpart j (by rw [eL, cL]; omega)
        have cx : (nI x0).toNatClampNeg = x0 := nI_clamp (by omega)
        have cp : (nI p).toNatClampNeg = p := nI_clamp (by omega)
        have c12 : (nI ((s0 * 4 + k0) * 3 + j)).toNatClampNeg = (s0 * 4 + k0) * 3 + j := nI_clamp (by omega)
        have c8 : (nI (8 * v0 + j)).toNatClampNeg = 8 * v0 + j := nI_clamp (by omega)
        have c0 := c40 (x := x0) (w := p) (by omega) (by omega)
        rw [ex, ep, cx, cp] at nx
        rw [jx12, c12, jx8v, c8, ex, ep]
        refine ⟨vp_in_nI (by omega) (by decide), vp_in_nI (by omega) (by decide), va_ok hS (by omega) (by omega), fun h7 => ⟨nx false ⟨fun q => absurd q (by decide), fun q => ?_⟩, mu⟩, fun h7 => ⟨nx true ⟨fun _ => ⟨bI_ne.mp h5, fun _ => ?_⟩, fun _ => rfl⟩, mu⟩⟩
        · have := of_decide_eq_false (bI0.mp h7); rw [c0] at this; exact absurd (q.2 (by omega)) this
        · have := of_decide_eq_true (bI_ne.mp h7); rw [c0] at this; exact this
  exact main _ (fun _ _ _ _ _ _ _ _ _ _ _ _ _ _ _ _ _ _ _ _ _ _ _ _ _ _ _ _ h => h)
theorem c_Mo_listing (l : Launch) (D : va_G) (b : Nat → Nat) (cI cJ cZ : ClassId) (mki : Nat → Int32) (msz : Nat → Int64) (mle : Nat → Int32) (mel : Nat → Int32) (mme : Nat → Int32) (mal : Nat → Int32) (mic : Nat → Int32) (mil : Nat → Int32) (mio : Nat → Int32) (mab : Nat → Int32) (mae : Nat → Int32) (msa : Nat → Int32) (mlc : Nat → Int32) (mli : Nat → Int32) (mna : Nat → Int32) (mva : Nat → Int32) (mma : Nat → Int32) (mch : Nat → Int32) (mre : Nat → Int32) (mlv : Nat → Int32) (mwr : Nat → Int64) (msh : Nat → Int32) (mth : Int32) (mnv : Int32) (mns : Int32) (mfa : Int32) (mmo : Int32) (x : Int32) (y : Int32) (k : Int32) (hpre : (∃ n0 m0 s0 v0 : Nat, mnv = nI n0 ∧ mns = nI m0 ∧ MSOK mki msz mle mel mme mic mio msa mlc mli mna mva n0 m0 ∧ (s0 < m0 ∧ v0 < n0 ∧ x = nI s0 ∧ y = nI v0) ∧ ∃ k0 : Nat, k0 < 4 ∧ k = nI (29 + k0))) : Wm (S := Bool) l y_Mo_listing b_Mo_listing 7 (some .boolean) 1 23 [.ref (b 0), .int x, .int y, .int k] D (tyA cI cJ cZ) (wM b cI cJ cZ mki msz mle mel mme mal mic mil mio mab mae msa mlc mli mna mva mma mch mre mlv mwr msh mth mnv mns mfa mmo) (fun uu => (∀ G : Sp, G = gM mki msz mle mel mme mal mic mil mio mab mae msa mlc mli mna mva mma mnv.toNatClampNeg → (uu = true ↔ ¬ Bad G x.toNatClampNeg y.toNatClampNeg k.toNatClampNeg))) (fun uu => some (.int (bI uu))) (fun uu => (wM b cI cJ cZ mki msz mle mel mme mal mic mil mio mab mae msa mlc mli mna mva mma mch mre mlv mwr msh mth mnv mns mfa mmo)) :=
  wm_i (by decide) (fun _ _ => bI_nar _) (Nat.le_of_ble_eq_true rfl) (fun p e s m below meth c ls Q A S hK hP hD hA hS hl hret => g_Mo_listing S (Nat.le_refl _) (Nat.le_refl _) ⟨Nat.le_refl _, Nat.le_refl _⟩ D b cI cJ cZ mki msz mle mel mme mal mic mil mio mab mae msa mlc mli mna mva mma mch mre mlv mwr msh mth mnv mns mfa mmo x y k hK hP hD hA hS hl (v_Mo_listing mki msz mle mel mme mal mic mil mio mab mae msa mlc mli mna mva mma mch mre mlv mwr msh mth mnv mns mfa mmo x y k hpre) (fun v mki' msz' mle' mel' mme' mal' mic' mil' mio' mab' mae' msa' mlc' mli' mna' mva' mma' mch' mre' mlv' mwr' msh' mth' mnv' mns' mfa' mmo' ls1 pc H1 locs1 hd hv hP1 hD1 hS1 => by obtain ⟨rr, rfl, hp, rfl, rfl, rfl, rfl, rfl, rfl, rfl, rfl, rfl, rfl, rfl, rfl, rfl, rfl, rfl, rfl, rfl, rfl, rfl, rfl, rfl, rfl, rfl, rfl, rfl, rfl, rfl⟩ := hv; exact hret rr _ ls1 pc H1 locs1 hd hp rfl hP1 hD1 hS1))
theorem hd_Mo_listing : y_Mo_listing.cls ≠ "java/lang/invoke/MethodHandle" ∧ y_Mo_listing.cls ≠ "java/lang/invoke/VarHandle" ∧ (parseMethodDescriptor y_Mo_listing.desc).map (fun d => d.parameters.length) = some 3 := ⟨by decide, by decide, by decide +kernel⟩
