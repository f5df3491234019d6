def V_Mo_naming (mki : Nat → Int32) (msz : Nat → Int64) (mle : Nat → Int32) (mel : Nat → Int32) (mme : Nat → Int32) (mal : Nat → Int32) (mic : Nat → Int32) (mil : Nat → Int32) (mio : Nat → Int32) (mab : Nat → Int32) (mae : Nat → Int32) (msa : Nat → Int32) (mlc : Nat → Int32) (mli : Nat → Int32) (mna : Nat → Int32) (mva : Nat → Int32) (mma : Nat → Int32) (mch : Nat → Int32) (mre : Nat → Int32) (mlv : Nat → Int32) (mwr : Nat → Int64) (msh : Nat → Int32) (mth : Int32) (mnv : Int32) (mns : Int32) (mfa : Int32) (mmo : Int32) (x : Int32) (y : Int32) (k : Int32) (post : Int32 → (Nat → Int32) → (Nat → Int64) → (Nat → Int32) → (Nat → Int32) → (Nat → Int32) → (Nat → Int32) → (Nat → Int32) → (Nat → Int32) → (Nat → Int32) → (Nat → Int32) → (Nat → Int32) → (Nat → Int32) → (Nat → Int32) → (Nat → Int32) → (Nat → Int32) → (Nat → Int32) → (Nat → Int32) → (Nat → Int32) → (Nat → Int32) → (Nat → Int32) → (Nat → Int64) → (Nat → Int32) → Int32 → Int32 → Int32 → Int32 → Int32 → Prop) : Prop :=
  (∃ (I5 : Int32 → Int32 → Prop) (mI5 : Int32 → Int32 → Nat), I5 1 0 ∧ (∀ (x3 : Int32) (x4 : Int32), I5 x3 x4 → ((12 ≤ x4 → post x3 mki msz mle mel mme mal mic mil mio mab mae msa mlc mli mna mva mma mch mre mlv mwr msh mth mnv mns mfa mmo) ∧ (¬ 12 ≤ x4 → (vp_in (36 * x + 12 * (k - 33) + x4) 864 ∧ ((vp_in y 40 ∧ vp_in (12 * y + x4) 480) ∧ (((mna (36 * x + 12 * (k - 33) + x4 : Int32).toNatClampNeg) < 0 → (I5 x3 (x4 + 1) ∧ mI5 x3 (x4 + 1) < mI5 x3 x4)) ∧ (¬ (mna (36 * x + 12 * (k - 33) + x4 : Int32).toNatClampNeg) < 0 → (((if mki y.toNatClampNeg = 5 then mme (12 * y + x4 : Int32).toNatClampNeg else -1) < 0 → (I5 x3 (x4 + 1) ∧ mI5 x3 (x4 + 1) < mI5 x3 x4)) ∧ (¬ (if mki y.toNatClampNeg = 5 then mme (12 * y + x4 : Int32).toNatClampNeg else -1) < 0 → ((x3 = 0 → (I5 0 (x4 + 1) ∧ mI5 0 (x4 + 1) < mI5 x3 x4)) ∧ (¬ x3 = 0 → ((¬ k = 33 → ((¬ k = 34 → (vp_in y 40 ∧ (∀ (x6 : Int32), ((∀ i, i < 32 → (bt x6 i = true ↔ i < 12 ∧ mki y.toNatClampNeg = 5 ∧ ¬ mme (12 * y.toNatClampNeg + i) < 0))) → ((¬ ((mna (36 * x + 12 * (k - 33) + x4 : Int32).toNatClampNeg) &&& (x6 ^^^ (-1))) = 0 → (I5 0 (x4 + 1) ∧ mI5 0 (x4 + 1) < mI5 x3 x4)) ∧ (((mna (36 * x + 12 * (k - 33) + x4 : Int32).toNatClampNeg) &&& (x6 ^^^ (-1))) = 0 → (I5 1 (x4 + 1) ∧ mI5 1 (x4 + 1) < mI5 x3 x4)))))) ∧ (k = 34 → ((vp_in (40 * (mna (36 * x + 12 * (k - 33) + x4 : Int32).toNatClampNeg) + y) 960 ∧ (mva (40 * (mna (36 * x + 12 * (k - 33) + x4 : Int32).toNatClampNeg) + y : Int32).toNatClampNeg = 0 ∨ mva (40 * (mna (36 * x + 12 * (k - 33) + x4 : Int32).toNatClampNeg) + y : Int32).toNatClampNeg = 1)) ∧ (((bI (decide (¬ mva (40 * (mna (36 * x + 12 * (k - 33) + x4 : Int32).toNatClampNeg) + y : Int32).toNatClampNeg = 0))) = 0 → (I5 0 (x4 + 1) ∧ mI5 0 (x4 + 1) < mI5 x3 x4)) ∧ (¬ (bI (decide (¬ mva (40 * (mna (36 * x + 12 * (k - 33) + x4 : Int32).toNatClampNeg) + y : Int32).toNatClampNeg = 0))) = 0 → (I5 1 (x4 + 1) ∧ mI5 1 (x4 + 1) < mI5 x3 x4))))))) ∧ (k = 33 → ((vp_in (40 * (mna (36 * x + 12 * (k - 33) + x4 : Int32).toNatClampNeg) + (if mki y.toNatClampNeg = 5 then mme (12 * y + x4 : Int32).toNatClampNeg else -1)) 960 ∧ (mva (40 * (mna (36 * x + 12 * (k - 33) + x4 : Int32).toNatClampNeg) + (if mki y.toNatClampNeg = 5 then mme (12 * y + x4 : Int32).toNatClampNeg else -1) : Int32).toNatClampNeg = 0 ∨ mva (40 * (mna (36 * x + 12 * (k - 33) + x4 : Int32).toNatClampNeg) + (if mki y.toNatClampNeg = 5 then mme (12 * y + x4 : Int32).toNatClampNeg else -1) : Int32).toNatClampNeg = 1)) ∧ (((bI (decide (¬ mva (40 * (mna (36 * x + 12 * (k - 33) + x4 : Int32).toNatClampNeg) + (if mki y.toNatClampNeg = 5 then mme (12 * y + x4 : Int32).toNatClampNeg else -1) : Int32).toNatClampNeg = 0))) = 0 → (I5 0 (x4 + 1) ∧ mI5 0 (x4 + 1) < mI5 x3 x4)) ∧ (¬ (bI (decide (¬ mva (40 * (mna (36 * x + 12 * (k - 33) + x4 : Int32).toNatClampNeg) + (if mki y.toNatClampNeg = 5 then mme (12 * y + x4 : Int32).toNatClampNeg else -1) : Int32).toNatClampNeg = 0))) = 0 → (I5 1 (x4 + 1) ∧ mI5 1 (x4 + 1) < mI5 x3 x4))))))))))))))))))
set_option maxHeartbeats 4000000 in
set_option maxRecDepth 100000 in
theorem g_Mo_naming {p : Program} {l : Launch} {e : Env} {R : Room} {s : State} {m : MethodId} {args : Array Value} {below : List Frame} {meth : Method} {c : Code} {H : Heap} {locs : List Loc} {cells slots : Nat} {Q : State → Prop} {ls : Array Slot} {A : Nat → Prop} (S : CallFix p m c b_Mo_naming 8 s args W0 R_Mo) (hRf : 2 ≤ R.frames) (hRl : 45 ≤ R.locals) (hRc : cells ≤ R.cells ∧ slots ≤ R.slots) (D : va_G) (b : Nat → Nat) (cI cJ cZ : ClassId) (mki : Nat → Int32) (msz : Nat → Int64) (mle : Nat → Int32) (mel : Nat → Int32) (mme : Nat → Int32) (mal : Nat → Int32) (mic : Nat → Int32) (mil : Nat → Int32) (mio : Nat → Int32) (mab : Nat → Int32) (mae : Nat → Int32) (msa : Nat → Int32) (mlc : Nat → Int32) (mli : Nat → Int32) (mna : Nat → Int32) (mva : Nat → Int32) (mma : Nat → Int32) (mch : Nat → Int32) (mre : Nat → Int32) (mlv : Nat → Int32) (mwr : Nat → Int64) (msh : Nat → Int32) (mth : Int32) (mnv : Int32) (mns : Int32) (mfa : Int32) (mmo : Int32) (x : Int32) (y : Int32) (k : Int32) (hK : va_K D vwCl (tyA cI cJ cZ) s) (hP : va_P D vwCl (wM b cI cJ cZ mki msz mle mel mme mal mic mil mio mab mae msa mlc mli mna mva mma mch mre mlv mwr msh mth mnv mns mfa mmo) H) (hD : va_D A (wM b cI cJ cZ mki msz mle mel mme mal mic mil mio mab mae msa mlc mli mna mva mma mch mre mlv mwr msh mth mnv mns mfa mmo)) (hA : ∀ q, s.heap.size ≤ q → A q) (hS : va_S A s.heap H locs) (hl : lv_has ls 8 [(0, .ref (b 0)), (1, .int x), (2, .int y), (3, .int k)]) {post : Int32 → (Nat → Int32) → (Nat → Int64) → (Nat → Int32) → (Nat → Int32) → (Nat → Int32) → (Nat → Int32) → (Nat → Int32) → (Nat → Int32) → (Nat → Int32) → (Nat → Int32) → (Nat → Int32) → (Nat → Int32) → (Nat → Int32) → (Nat → Int32) → (Nat → Int32) → (Nat → Int32) → (Nat → Int32) → (Nat → Int32) → (Nat → Int32) → (Nat → Int32) → (Nat → Int64) → (Nat → Int32) → Int32 → Int32 → Int32 → Int32 → Int32 → Prop} (vc : V_Mo_naming mki msz mle mel mme mal mic mil mio mab mae msa mlc mli mna mva mma mch mre mlv mwr msh mth mnv mns mfa mmo x y k post)
    (hret : ∀ (v : Int32) (mki : Nat → Int32) (msz : Nat → Int64) (mle : Nat → Int32) (mel : Nat → Int32) (mme : Nat → Int32) (mal : Nat → Int32) (mic : Nat → Int32) (mil : Nat → Int32) (mio : Nat → Int32) (mab : Nat → Int32) (mae : Nat → Int32) (msa : Nat → Int32) (mlc : Nat → Int32) (mli : Nat → Int32) (mna : Nat → Int32) (mva : Nat → Int32) (mma : Nat → Int32) (mch : Nat → Int32) (mre : Nat → Int32) (mlv : Nat → Int32) (mwr : Nat → Int64) (msh : Nat → Int32) (mth : Int32) (mnv : Int32) (mns : Int32) (mfa : Int32) (mmo : Int32) (ls : Array Slot) (pc : Nat) (H : Heap) (locs : List Loc), decode b_Mo_naming pc = .ok (.ireturn, 1) → post v mki msz mle mel mme mal mic mil mio mab mae msa mlc mli mna mva mma mch mre mlv mwr msh mth mnv mns mfa mmo → va_P D vwCl (wM b cI cJ cZ mki msz mle mel mme mal mic mil mio mab mae msa mlc mli mna mva mma mch mre mlv mwr msh mth mnv mns mfa mmo) H → va_D A (wM b cI cJ cZ mki msz mle mel mme mal mic mil mio mab mae msa mlc mli mna mva mma mch mre mlv mwr msh mth mnv mns mfa mmo) → va_S A s.heap H locs → W p l e R s m args below meth c H locs cells slots Q (F0 m pc ls [.int v])) : W p l e R s m args below meth c H locs cells slots Q (F0 m 0 ls []) := by
  have hx := S.1
  have hb := S.2.1
  have hown := S.2.2.2.1
  have hts := S.2.2.2.2
  unfold V_Mo_naming at vc
  refine lv_iconst (v := 1) hx hb d_Mo_naming_0 (by decide) ?_
  refine lv_istore hx hb d_Mo_naming_1 hl (by decide) (lv' := [(4, .int 1), (0, .ref (b 0)), (1, .int x), (2, .int y), (3, .int k)]) rfl (fun ls hl => ?_)
  refine lv_iconst (v := 0) hx hb d_Mo_naming_3 (by decide) ?_
  refine lv_istore hx hb d_Mo_naming_4 hl (by decide) (lv' := [(5, .int 0), (4, .int 1), (0, .ref (b 0)), (1, .int x), (2, .int y), (3, .int k)]) rfl (fun ls hl => ?_)
  obtain ⟨I5, mI5, vc0, vcs⟩ := vc
  have lI5 : ∀ n : Nat, ∀ (x3 : Int32) (x4 : Int32) (ls : Array Slot) (H : Heap) (locs : List Loc), I5 x3 x4 → mI5 x3 x4 < n → lv_has ls 8 [(0, .ref (b 0)), (1, .int x), (2, .int y), (3, .int k), (4, .int x3), (5, .int x4)] → va_P D vwCl (wM b cI cJ cZ mki msz mle mel mme mal mic mil mio mab mae msa mlc mli mna mva mma mch mre mlv mwr msh mth mnv mns mfa mmo) H → va_D A (wM b cI cJ cZ mki msz mle mel mme mal mic mil mio mab mae msa mlc mli mna mva mma mch mre mlv mwr msh mth mnv mns mfa mmo) → va_S A s.heap H locs → W p l e R s m args below meth c H locs cells slots Q (F0 m 6 ls []) := by
    intro n
    induction n with
    | zero => intro x3 x4 ls H locs _ h; exact absurd h (Nat.not_lt_zero _)
    | succ n ihI5 =>
      intro x3 x4 ls H locs vc hmI5 hl hP hD hS
      have vc := vcs x3 x4 vc
      refine lv_iload hx hb d_Mo_naming_6 (lv_at hl 5 rfl) ?_
      refine lv_bipush (v := 12) hx hb d_Mo_naming_8 (by decide) ?_
      refine lv_icmp_ge (tgt := 112) hx hb d_Mo_naming_10 (by decide) (fun h => ?_) (fun h => ?_)
      · have vc := vc.1 h
        refine lv_iload hx hb d_Mo_naming_112 (lv_at hl 4 rfl) ?_
        exact hret _ _ _ _ _ _ _ _ _ _ _ _ _ _ _ _ _ _ _ _ _ _ _ _ _ _ _ _ ls _ H locs d_Mo_naming_114 vc hP hD hS
      · have vc := vc.2 h
        refine lv_aload_n hx hb d_Mo_naming_13 rfl (lv_at hl 0 rfl) ?_
        refine lv_iload_n hx hb d_Mo_naming_14 rfl (lv_at hl 1 rfl) ?_
        refine lv_iload_n hx hb d_Mo_naming_15 rfl (lv_at hl 3 rfl) ?_
        refine lv_iload hx hb d_Mo_naming_16 (lv_at hl 5 rfl) ?_
        obtain ⟨hpre, vc⟩ := vc
        refine pc_V (As := [.int x, .int k, .int x4]) (rest := []) S (c_Mo_byName l D b cI cJ cZ mki msz mle mel mme mal mic mil mio mab mae msa mlc mli mna mva mma mch mre mlv mwr msh mth mnv mns mfa mmo x k x4 hpre) wB_blind k_Mo_byName i_Mo_byName e_Mo_byName o_Mo ml_Mo_154 hd_Mo_byName (Nat.le_trans (by decide) hRf) (Nat.le_trans (by decide) hRl) hRc (va_recv hK hP (q0 := 0) (ci := 6) rfl rfl) (wB_at hP hK) hl.1 rfl (Nat.le_of_ble_eq_true rfl) d_Mo_naming_18 ?_
        refine lv_istore hx hb d_Mo_naming_21 hl (by decide) (lv' := [(6, .int (mna (36 * x + 12 * (k - 33) + x4 : Int32).toNatClampNeg)), (0, .ref (b 0)), (1, .int x), (2, .int y), (3, .int k), (4, .int x3), (5, .int x4)]) rfl (fun ls hl => ?_)
        refine lv_aload_n hx hb d_Mo_naming_23 rfl (lv_at hl 1 rfl) ?_
        refine lv_iload_n hx hb d_Mo_naming_24 rfl (lv_at hl 3 rfl) ?_
        refine lv_iload hx hb d_Mo_naming_25 (lv_at hl 6 rfl) ?_
        obtain ⟨hpre, vc⟩ := vc
        refine pc_V (As := [.int y, .int x4]) (rest := []) S (c_Mo_memberOf l D b cI cJ cZ mki msz mle mel mme mal mic mil mio mab mae msa mlc mli mna mva mma mch mre mlv mwr msh mth mnv mns mfa mmo y x4 hpre) wB_blind k_Mo_memberOf i_Mo_memberOf e_Mo_memberOf o_Mo ml_Mo_167 hd_Mo_memberOf (Nat.le_trans (by decide) hRf) (Nat.le_trans (by decide) hRl) hRc (va_recv hK hP (q0 := 0) (ci := 6) rfl rfl) (wB_at hP hK) hl.1 rfl (Nat.le_of_ble_eq_true rfl) d_Mo_naming_27 ?_
        refine lv_istore hx hb d_Mo_naming_30 hl (by decide) (lv' := [(7, .int (if mki y.toNatClampNeg = 5 then mme (12 * y + x4 : Int32).toNatClampNeg else -1)), (6, .int (mna (36 * x + 12 * (k - 33) + x4 : Int32).toNatClampNeg)), (0, .ref (b 0)), (1, .int x), (2, .int y), (3, .int k), (4, .int x3), (5, .int x4)]) rfl (fun ls hl => ?_)
        refine lv_iload hx hb d_Mo_naming_32 (lv_at hl 1 rfl) ?_
        refine lv_if_lt (tgt := 106) hx hb d_Mo_naming_34 (by decide) (fun h => ?_) (fun h => ?_)
        · have vc := vc.1 h
          refine lv_iinc (k := 7) (v := x4 + 1) hx hb d_Mo_naming_106 hl rfl rfl (by decide) (lv' := [(5, .int (x4 + 1)), (7, .int (if mki y.toNatClampNeg = 5 then mme (12 * y + x4 : Int32).toNatClampNeg else -1)), (6, .int (mna (36 * x + 12 * (k - 33) + x4 : Int32).toNatClampNeg)), (0, .ref (b 0)), (1, .int x), (2, .int y), (3, .int k), (4, .int x3)]) rfl (fun ls hl => ?_)
          refine lv_goto (tgt := 6) hx hb d_Mo_naming_109 (by decide) ?_
          exact ihI5 x3 (x4 + 1) ls H locs vc.1 (Nat.lt_of_lt_of_le vc.2 (Nat.le_of_lt_succ hmI5)) (lv_sub hl [3, 4, 5, 6, 7, 0] rfl) hP hD hS
        · have vc := vc.2 h
          refine lv_iload hx hb d_Mo_naming_37 (lv_at hl 0 rfl) ?_
          refine lv_if_lt (tgt := 106) hx hb d_Mo_naming_39 (by decide) (fun h => ?_) (fun h => ?_)
          · have vc := vc.1 h
            refine lv_iinc (k := 7) (v := x4 + 1) hx hb d_Mo_naming_106 hl rfl rfl (by decide) (lv' := [(5, .int (x4 + 1)), (7, .int (if mki y.toNatClampNeg = 5 then mme (12 * y + x4 : Int32).toNatClampNeg else -1)), (6, .int (mna (36 * x + 12 * (k - 33) + x4 : Int32).toNatClampNeg)), (0, .ref (b 0)), (1, .int x), (2, .int y), (3, .int k), (4, .int x3)]) rfl (fun ls hl => ?_)
            refine lv_goto (tgt := 6) hx hb d_Mo_naming_109 (by decide) ?_
            exact ihI5 x3 (x4 + 1) ls H locs vc.1 (Nat.lt_of_lt_of_le vc.2 (Nat.le_of_lt_succ hmI5)) (lv_sub hl [3, 4, 5, 6, 7, 0] rfl) hP hD hS
          · have vc := vc.2 h
            refine lv_iload hx hb d_Mo_naming_42 (lv_at hl 6 rfl) ?_
            refine lv_if_eq (tgt := 103) hx hb d_Mo_naming_44 (by decide) (fun h => ?_) (fun h => ?_)
            · have vc := vc.1 h
              refine lv_iconst (v := 0) hx hb d_Mo_naming_103 (by decide) ?_
              refine lv_istore hx hb d_Mo_naming_104 hl (by decide) (lv' := [(4, .int 0), (7, .int (if mki y.toNatClampNeg = 5 then mme (12 * y + x4 : Int32).toNatClampNeg else -1)), (6, .int (mna (36 * x + 12 * (k - 33) + x4 : Int32).toNatClampNeg)), (0, .ref (b 0)), (1, .int x), (2, .int y), (3, .int k), (5, .int x4)]) rfl (fun ls hl => ?_)
              refine lv_iinc (k := 7) (v := x4 + 1) hx hb d_Mo_naming_106 hl rfl rfl (by decide) (lv' := [(5, .int (x4 + 1)), (4, .int 0), (7, .int (if mki y.toNatClampNeg = 5 then mme (12 * y + x4 : Int32).toNatClampNeg else -1)), (6, .int (mna (36 * x + 12 * (k - 33) + x4 : Int32).toNatClampNeg)), (0, .ref (b 0)), (1, .int x), (2, .int y), (3, .int k)]) rfl (fun ls hl => ?_)
              refine lv_goto (tgt := 6) hx hb d_Mo_naming_109 (by decide) ?_
              exact ihI5 0 (x4 + 1) ls H locs vc.1 (Nat.lt_of_lt_of_le vc.2 (Nat.le_of_lt_succ hmI5)) (lv_sub hl [4, 5, 6, 7, 1, 0] rfl) hP hD hS
            · have vc := vc.2 h
              refine lv_iload_n hx hb d_Mo_naming_47 rfl (lv_at hl 5 rfl) ?_
              refine lv_bipush (v := 33) hx hb d_Mo_naming_48 (by decide) ?_
              refine lv_icmp_ne (tgt := 67) hx hb d_Mo_naming_50 (by decide) (fun h => ?_) (fun h => ?_)
              · have vc := vc.1 h
                refine lv_iload_n hx hb d_Mo_naming_67 rfl (lv_at hl 5 rfl) ?_
                refine lv_bipush (v := 34) hx hb d_Mo_naming_68 (by decide) ?_
                refine lv_icmp_ne (tgt := 86) hx hb d_Mo_naming_70 (by decide) (fun h => ?_) (fun h => ?_)
                · have vc := vc.1 h
                  refine lv_iload hx hb d_Mo_naming_86 (lv_at hl 1 rfl) ?_
                  refine lv_aload_n hx hb d_Mo_naming_88 rfl (lv_at hl 2 rfl) ?_
                  refine lv_iload_n hx hb d_Mo_naming_89 rfl (lv_at hl 4 rfl) ?_
                  obtain ⟨hpre, vc⟩ := vc
                  refine wc_V (As := [.int y]) (rest := [.int (mna (36 * x + 12 * (k - 33) + x4 : Int32).toNatClampNeg)]) (wr := ([] : va_W)) S (c_Mo_memberBits l D b cI cJ cZ mki msz mle mel mme mal mic mil mio mab mae msa mlc mli mna mva mma mch mre mlv mwr msh mth mnv mns mfa mmo y hpre) k_Mo_memberBits i_Mo_memberBits e_Mo_memberBits o_Mo ml_Mo_187 hd_Mo_memberBits (Nat.le_trans (by decide) hRf) (Nat.le_trans (by decide) hRl) hRc (va_recv hK hP (q0 := 0) (ci := 6) rfl rfl) hK hP hD hS hA [0, 1, 2, 3, 4, 5, 6, 7, 8, 9, 10, 11, 12, 13, 14, 15, 16, 17, 18, 19, 20, 21, 22] [] rfl rfl rfl (by decide) (by decide) (by decide) hl.1 rfl (Nat.le_of_ble_eq_true rfl) d_Mo_naming_90 (fun x6 H locs hu hP hD hS => ?_)
                  have vc := vc x6 hu
                  clear hu
                  have hP : va_P D vwCl (wM b cI cJ cZ mki msz mle mel mme mal mic mil mio mab mae msa mlc mli mna mva mma mch mre mlv mwr msh mth mnv mns mfa mmo) H := hP
                  have hD : va_D A (wM b cI cJ cZ mki msz mle mel mme mal mic mil mio mab mae msa mlc mli mna mva mma mch mre mlv mwr msh mth mnv mns mfa mmo) := hD
                  refine lv_iconst (v := (-1)) hx hb d_Mo_naming_93 (by decide) ?_
                  refine lv_ixor hx hb d_Mo_naming_94 ?_
                  refine lv_iand hx hb d_Mo_naming_95 ?_
                  refine lv_if_ne (tgt := 103) hx hb d_Mo_naming_96 (by decide) (fun h => ?_) (fun h => ?_)
                  · have vc := vc.1 h
                    refine lv_iconst (v := 0) hx hb d_Mo_naming_103 (by decide) ?_
                    refine lv_istore hx hb d_Mo_naming_104 hl (by decide) (lv' := [(4, .int 0), (7, .int (if mki y.toNatClampNeg = 5 then mme (12 * y + x4 : Int32).toNatClampNeg else -1)), (6, .int (mna (36 * x + 12 * (k - 33) + x4 : Int32).toNatClampNeg)), (0, .ref (b 0)), (1, .int x), (2, .int y), (3, .int k), (5, .int x4)]) rfl (fun ls hl => ?_)
                    refine lv_iinc (k := 7) (v := x4 + 1) hx hb d_Mo_naming_106 hl rfl rfl (by decide) (lv' := [(5, .int (x4 + 1)), (4, .int 0), (7, .int (if mki y.toNatClampNeg = 5 then mme (12 * y + x4 : Int32).toNatClampNeg else -1)), (6, .int (mna (36 * x + 12 * (k - 33) + x4 : Int32).toNatClampNeg)), (0, .ref (b 0)), (1, .int x), (2, .int y), (3, .int k)]) rfl (fun ls hl => ?_)
                    refine lv_goto (tgt := 6) hx hb d_Mo_naming_109 (by decide) ?_
                    exact ihI5 0 (x4 + 1) ls H locs vc.1 (Nat.lt_of_lt_of_le vc.2 (Nat.le_of_lt_succ hmI5)) (lv_sub hl [4, 5, 6, 7, 1, 0] rfl) hP hD hS
                  · have vc := vc.2 h
                    refine lv_iconst (v := 1) hx hb d_Mo_naming_99 (by decide) ?_
                    refine lv_goto (tgt := 104) hx hb d_Mo_naming_100 (by decide) ?_
                    refine lv_istore hx hb d_Mo_naming_104 hl (by decide) (lv' := [(4, .int 1), (7, .int (if mki y.toNatClampNeg = 5 then mme (12 * y + x4 : Int32).toNatClampNeg else -1)), (6, .int (mna (36 * x + 12 * (k - 33) + x4 : Int32).toNatClampNeg)), (0, .ref (b 0)), (1, .int x), (2, .int y), (3, .int k), (5, .int x4)]) rfl (fun ls hl => ?_)
                    refine lv_iinc (k := 7) (v := x4 + 1) hx hb d_Mo_naming_106 hl rfl rfl (by decide) (lv' := [(5, .int (x4 + 1)), (4, .int 1), (7, .int (if mki y.toNatClampNeg = 5 then mme (12 * y + x4 : Int32).toNatClampNeg else -1)), (6, .int (mna (36 * x + 12 * (k - 33) + x4 : Int32).toNatClampNeg)), (0, .ref (b 0)), (1, .int x), (2, .int y), (3, .int k)]) rfl (fun ls hl => ?_)
                    refine lv_goto (tgt := 6) hx hb d_Mo_naming_109 (by decide) ?_
                    exact ihI5 1 (x4 + 1) ls H locs vc.1 (Nat.lt_of_lt_of_le vc.2 (Nat.le_of_lt_succ hmI5)) (lv_sub hl [4, 5, 6, 7, 1, 0] rfl) hP hD hS
                · have vc := vc.2 h
                  refine lv_aload_n hx hb d_Mo_naming_73 rfl (lv_at hl 2 rfl) ?_
                  refine lv_iload hx hb d_Mo_naming_74 (lv_at hl 1 rfl) ?_
                  refine lv_iload_n hx hb d_Mo_naming_76 rfl (lv_at hl 4 rfl) ?_
                  obtain ⟨hpre, vc⟩ := vc
                  refine pc_V (As := [.int (mna (36 * x + 12 * (k - 33) + x4 : Int32).toNatClampNeg), .int y]) (rest := []) S (c_Mo_isValid l D b cI cJ cZ mki msz mle mel mme mal mic mil mio mab mae msa mlc mli mna mva mma mch mre mlv mwr msh mth mnv mns mfa mmo (mna (36 * x + 12 * (k - 33) + x4 : Int32).toNatClampNeg) y hpre) wB_blind k_Mo_isValid i_Mo_isValid e_Mo_isValid o_Mo ml_Mo_193 hd_Mo_isValid (Nat.le_trans (by decide) hRf) (Nat.le_trans (by decide) hRl) hRc (va_recv hK hP (q0 := 0) (ci := 6) rfl rfl) (wB_at hP hK) hl.1 rfl (Nat.le_of_ble_eq_true rfl) d_Mo_naming_77 ?_
                  refine lv_if_eq (tgt := 103) hx hb d_Mo_naming_80 (by decide) (fun h => ?_) (fun h => ?_)
                  · have vc := vc.1 h
                    refine lv_iconst (v := 0) hx hb d_Mo_naming_103 (by decide) ?_
                    refine lv_istore hx hb d_Mo_naming_104 hl (by decide) (lv' := [(4, .int 0), (7, .int (if mki y.toNatClampNeg = 5 then mme (12 * y + x4 : Int32).toNatClampNeg else -1)), (6, .int (mna (36 * x + 12 * (k - 33) + x4 : Int32).toNatClampNeg)), (0, .ref (b 0)), (1, .int x), (2, .int y), (3, .int k), (5, .int x4)]) rfl (fun ls hl => ?_)
                    refine lv_iinc (k := 7) (v := x4 + 1) hx hb d_Mo_naming_106 hl rfl rfl (by decide) (lv' := [(5, .int (x4 + 1)), (4, .int 0), (7, .int (if mki y.toNatClampNeg = 5 then mme (12 * y + x4 : Int32).toNatClampNeg else -1)), (6, .int (mna (36 * x + 12 * (k - 33) + x4 : Int32).toNatClampNeg)), (0, .ref (b 0)), (1, .int x), (2, .int y), (3, .int k)]) rfl (fun ls hl => ?_)
                    refine lv_goto (tgt := 6) hx hb d_Mo_naming_109 (by decide) ?_
                    exact ihI5 0 (x4 + 1) ls H locs vc.1 (Nat.lt_of_lt_of_le vc.2 (Nat.le_of_lt_succ hmI5)) (lv_sub hl [4, 5, 6, 7, 1, 0] rfl) hP hD hS
                  · have vc := vc.2 h
                    refine lv_goto (tgt := 99) hx hb d_Mo_naming_83 (by decide) ?_
                    refine lv_iconst (v := 1) hx hb d_Mo_naming_99 (by decide) ?_
                    refine lv_goto (tgt := 104) hx hb d_Mo_naming_100 (by decide) ?_
                    refine lv_istore hx hb d_Mo_naming_104 hl (by decide) (lv' := [(4, .int 1), (7, .int (if mki y.toNatClampNeg = 5 then mme (12 * y + x4 : Int32).toNatClampNeg else -1)), (6, .int (mna (36 * x + 12 * (k - 33) + x4 : Int32).toNatClampNeg)), (0, .ref (b 0)), (1, .int x), (2, .int y), (3, .int k), (5, .int x4)]) rfl (fun ls hl => ?_)
                    refine lv_iinc (k := 7) (v := x4 + 1) hx hb d_Mo_naming_106 hl rfl rfl (by decide) (lv' := [(5, .int (x4 + 1)), (4, .int 1), (7, .int (if mki y.toNatClampNeg = 5 then mme (12 * y + x4 : Int32).toNatClampNeg else -1)), (6, .int (mna (36 * x + 12 * (k - 33) + x4 : Int32).toNatClampNeg)), (0, .ref (b 0)), (1, .int x), (2, .int y), (3, .int k)]) rfl (fun ls hl => ?_)
                    refine lv_goto (tgt := 6) hx hb d_Mo_naming_109 (by decide) ?_
                    exact ihI5 1 (x4 + 1) ls H locs vc.1 (Nat.lt_of_lt_of_le vc.2 (Nat.le_of_lt_succ hmI5)) (lv_sub hl [4, 5, 6, 7, 1, 0] rfl) hP hD hS
              · have vc := vc.2 h
                refine lv_aload_n hx hb d_Mo_naming_53 rfl (lv_at hl 2 rfl) ?_
                refine lv_iload hx hb d_Mo_naming_54 (lv_at hl 1 rfl) ?_
                refine lv_iload hx hb d_Mo_naming_56 (lv_at hl 0 rfl) ?_
                obtain ⟨hpre, vc⟩ := vc
                refine pc_V (As := [.int (mna (36 * x + 12 * (k - 33) + x4 : Int32).toNatClampNeg), .int (if mki y.toNatClampNeg = 5 then mme (12 * y + x4 : Int32).toNatClampNeg else -1)]) (rest := []) S (c_Mo_isValid l D b cI cJ cZ mki msz mle mel mme mal mic mil mio mab mae msa mlc mli mna mva mma mch mre mlv mwr msh mth mnv mns mfa mmo (mna (36 * x + 12 * (k - 33) + x4 : Int32).toNatClampNeg) (if mki y.toNatClampNeg = 5 then mme (12 * y + x4 : Int32).toNatClampNeg else -1) hpre) wB_blind k_Mo_isValid i_Mo_isValid e_Mo_isValid o_Mo ml_Mo_193 hd_Mo_isValid (Nat.le_trans (by decide) hRf) (Nat.le_trans (by decide) hRl) hRc (va_recv hK hP (q0 := 0) (ci := 6) rfl rfl) (wB_at hP hK) hl.1 rfl (Nat.le_of_ble_eq_true rfl) d_Mo_naming_58 ?_
                refine lv_if_eq (tgt := 103) hx hb d_Mo_naming_61 (by decide) (fun h => ?_) (fun h => ?_)
                · have vc := vc.1 h
                  refine lv_iconst (v := 0) hx hb d_Mo_naming_103 (by decide) ?_
                  refine lv_istore hx hb d_Mo_naming_104 hl (by decide) (lv' := [(4, .int 0), (7, .int (if mki y.toNatClampNeg = 5 then mme (12 * y + x4 : Int32).toNatClampNeg else -1)), (6, .int (mna (36 * x + 12 * (k - 33) + x4 : Int32).toNatClampNeg)), (0, .ref (b 0)), (1, .int x), (2, .int y), (3, .int k), (5, .int x4)]) rfl (fun ls hl => ?_)
                  refine lv_iinc (k := 7) (v := x4 + 1) hx hb d_Mo_naming_106 hl rfl rfl (by decide) (lv' := [(5, .int (x4 + 1)), (4, .int 0), (7, .int (if mki y.toNatClampNeg = 5 then mme (12 * y + x4 : Int32).toNatClampNeg else -1)), (6, .int (mna (36 * x + 12 * (k - 33) + x4 : Int32).toNatClampNeg)), (0, .ref (b 0)), (1, .int x), (2, .int y), (3, .int k)]) rfl (fun ls hl => ?_)
                  refine lv_goto (tgt := 6) hx hb d_Mo_naming_109 (by decide) ?_
                  exact ihI5 0 (x4 + 1) ls H locs vc.1 (Nat.lt_of_lt_of_le vc.2 (Nat.le_of_lt_succ hmI5)) (lv_sub hl [4, 5, 6, 7, 1, 0] rfl) hP hD hS
                · have vc := vc.2 h
                  refine lv_goto (tgt := 99) hx hb d_Mo_naming_64 (by decide) ?_
                  refine lv_iconst (v := 1) hx hb d_Mo_naming_99 (by decide) ?_
                  refine lv_goto (tgt := 104) hx hb d_Mo_naming_100 (by decide) ?_
                  refine lv_istore hx hb d_Mo_naming_104 hl (by decide) (lv' := [(4, .int 1), (7, .int (if mki y.toNatClampNeg = 5 then mme (12 * y + x4 : Int32).toNatClampNeg else -1)), (6, .int (mna (36 * x + 12 * (k - 33) + x4 : Int32).toNatClampNeg)), (0, .ref (b 0)), (1, .int x), (2, .int y), (3, .int k), (5, .int x4)]) rfl (fun ls hl => ?_)
                  refine lv_iinc (k := 7) (v := x4 + 1) hx hb d_Mo_naming_106 hl rfl rfl (by decide) (lv' := [(5, .int (x4 + 1)), (4, .int 1), (7, .int (if mki y.toNatClampNeg = 5 then mme (12 * y + x4 : Int32).toNatClampNeg else -1)), (6, .int (mna (36 * x + 12 * (k - 33) + x4 : Int32).toNatClampNeg)), (0, .ref (b 0)), (1, .int x), (2, .int y), (3, .int k)]) rfl (fun ls hl => ?_)
                  refine lv_goto (tgt := 6) hx hb d_Mo_naming_109 (by decide) ?_
                  exact ihI5 1 (x4 + 1) ls H locs vc.1 (Nat.lt_of_lt_of_le vc.2 (Nat.le_of_lt_succ hmI5)) (lv_sub hl [4, 5, 6, 7, 1, 0] rfl) hP hD hS
  exact lI5 _ 1 0 ls H locs vc0 (Nat.lt_succ_self _) (lv_sub hl [2, 3, 4, 5, 1, 0] rfl) hP hD hS
set_option maxHeartbeats 4000000 in
theorem v_Mo_naming (mki : Nat → Int32) (msz : Nat → Int64) (mle : Nat → Int32) (mel : Nat → Int32) (mme : Nat → Int32) (mal : Nat → Int32) (mic : Nat → Int32) (mil : Nat → Int32) (mio : Nat → Int32) (mab : Nat → Int32) (mae : Nat → Int32) (msa : Nat → Int32) (mlc : Nat → Int32) (mli : Nat → Int32) (mna : Nat → Int32) (mva : Nat → Int32) (mma : Nat → Int32) (mch : Nat → Int32) (mre : Nat → Int32) (mlv : Nat → Int32) (mwr : Nat → Int64) (msh : Nat → Int32) (mth : Int32) (mnv : Int32) (mns : Int32) (mfa : Int32) (mmo : Int32) (x : Int32) (y : Int32) (k : Int32) (hpre : (∃ n0 m0 s0 v0 : Nat, mnv = nI n0 ∧ mns = nI m0 ∧ MSOK mki msz mle mel mme mic mio msa mlc mli mna mva n0 m0 ∧ (s0 < m0 ∧ v0 < n0 ∧ x = nI s0 ∧ y = nI v0) ∧ ∃ k0 : Nat, k0 < 3 ∧ k = nI (33 + k0))) : V_Mo_naming mki msz mle mel mme mal mic mil mio mab mae msa mlc mli mna mva mma mch mre mlv mwr msh mth mnv mns mfa mmo x y k (fun v mki' msz' mle' mel' mme' mal' mic' mil' mio' mab' mae' msa' mlc' mli' mna' mva' mma' mch' mre' mlv' mwr' msh' mth' mnv' mns' mfa' mmo' => ∃ rr : Bool, v = bI rr ∧ ((∀ G : Sp, G = gM mki msz mle mel mme mal mic mil mio mab mae msa mlc mli mna mva mma mnv.toNatClampNeg → (rr = true ↔ ¬ Bad G x.toNatClampNeg y.toNatClampNeg k.toNatClampNeg))) ∧ mki' = mki ∧ msz' = msz ∧ mle' = mle ∧ mel' = mel ∧ mme' = mme ∧ mal' = mal ∧ mic' = mic ∧ mil' = mil ∧ mio' = mio ∧ mab' = mab ∧ mae' = mae ∧ msa' = msa ∧ mlc' = mlc ∧ mli' = mli ∧ mna' = mna ∧ mva' = mva ∧ mma' = mma ∧ mch' = mch ∧ mre' = mre ∧ mlv' = mlv ∧ mwr' = mwr ∧ msh' = msh ∧ mth' = mth ∧ mnv' = mnv ∧ mns' = mns ∧ mfa' = mfa ∧ mmo' = mmo) := by
  have main : ∀ post : Int32 → (Nat → Int32) → (Nat → Int64) → (Nat → Int32) → (Nat → Int32) → (Nat → Int32) → (Nat → Int32) → (Nat → Int32) → (Nat → Int32) → (Nat → Int32) → (Nat → Int32) → (Nat → Int32) → (Nat → Int32) → (Nat → Int32) → (Nat → Int32) → (Nat → Int32) → (Nat → Int32) → (Nat → Int32) → (Nat → Int32) → (Nat → Int32) → (Nat → Int32) → (Nat → Int64) → (Nat → Int32) → Int32 → Int32 → Int32 → Int32 → Int32 → Prop, (∀ v mki' msz' mle' mel' mme' mal' mic' mil' mio' mab' mae' msa' mlc' mli' mna' mva' mma' mch' mre' mlv' mwr' msh' mth' mnv' mns' mfa' mmo', (fun v mki' msz' mle' mel' mme' mal' mic' mil' mio' mab' mae' msa' mlc' mli' mna' mva' mma' mch' mre' mlv' mwr' msh' mth' mnv' mns' mfa' mmo' => ∃ rr : Bool, v = bI rr ∧ ((∀ G : Sp, G = gM mki msz mle mel mme mal mic mil mio mab mae msa mlc mli mna mva mma mnv.toNatClampNeg → (rr = true ↔ ¬ Bad G x.toNatClampNeg y.toNatClampNeg k.toNatClampNeg))) ∧ mki' = mki ∧ msz' = msz ∧ mle' = mle ∧ mel' = mel ∧ mme' = mme ∧ mal' = mal ∧ mic' = mic ∧ mil' = mil ∧ mio' = mio ∧ mab' = mab ∧ mae' = mae ∧ msa' = msa ∧ mlc' = mlc ∧ mli' = mli ∧ mna' = mna ∧ mva' = mva ∧ mma' = mma ∧ mch' = mch ∧ mre' = mre ∧ mlv' = mlv ∧ mwr' = mwr ∧ msh' = msh ∧ mth' = mth ∧ mnv' = mnv ∧ mns' = mns ∧ mfa' = mfa ∧ mmo' = mmo) v mki' msz' mle' mel' mme' mal' mic' mil' mio' mab' mae' msa' mlc' mli' mna' mva' mma' mch' mre' mlv' mwr' msh' mth' mnv' mns' mfa' mmo' → post v mki' msz' mle' mel' mme' mal' mic' mil' mio' mab' mae' msa' mlc' mli' mna' mva' mma' mch' mre' mlv' mwr' msh' mth' mnv' mns' mfa' mmo') → V_Mo_naming mki msz mle mel mme mal mic mil mio mab mae msa mlc mli mna mva mma mch mre mlv mwr msh mth mnv mns mfa mmo x y k post := by
    intro post hpost
    unfold V_Mo_naming
    obtain ⟨n0, m0, s0, v0, hnv, hns, hS, ⟨hs, hv, rfl, rfl⟩, k0, hk, rfl⟩ := hpre
    have hm24 := hS.2.2.1
    have hn40 := hS.1.1
    have hs24 : s0 < 24 := by omega
    have hv40 : v0 < 40 := by omega
    have cs : (nI s0).toNatClampNeg = s0 := nI_clamp (by omega)
    have cv : (nI v0).toNatClampNeg = v0 := nI_clamp (by omega)
    have cn : mnv.toNatClampNeg = n0 := by rw [hnv]; exact nI_clamp (by omega)
    have hxv : vp_in (nI v0) 40 := vp_in_nI hv40 (by decide)
    obtain ⟨⟨kd, hkd, ekd⟩, ⟨L, hL, eL⟩, hpart, hmem, htxt⟩ := hS.1.2.2 v0 hv40
    have cL : (nI L).toNatClampNeg = L := nI_clamp (by omega)
    have hL8 : (mle v0).toNatClampNeg ≤ 8 := by rw [eL, cL]; exact hL
    have ck : (nI (33 + k0)).toNatClampNeg = 33 + k0 := nI_clamp (by omega)
    have ek : ∀ c : Nat, c < 2 ^ 31 → (nI (33 + k0) = nI c ↔ 33 + k0 = c) := fun c hc => nI_eq (by omega) hc
    have e33 : nI (33 + k0) = 33 ↔ 33 + k0 = 33 := ek 33 (by decide)
    have e34 : nI (33 + k0) = 34 ↔ 33 + k0 = 34 := ek 34 (by decide)
    have ix : ∀ j, 36 * nI s0 + 12 * (nI (33 + k0) - 33) + nI j = nI ((s0 * 3 + k0) * 12 + j) := fun j => by
      rw [nI_subR (by omega), nI_mulL, nI_mulL, nI_add, nI_add]; congr 1; omega
    simp only [cs, cv, cn, ck, e33, e34] at hpost ⊢
    have gH : ∀ G, (G = gM mki msz mle mel mme mal mic mil mio mab mae msa mlc mli mna mva mma n0) → ∀ k, (ruH G s0 k ↔ ¬ msa (s0 * 29 + k) < 0) := fun G hG k => by unfold ruH; rw [(gM_eq hG).2.2.2.1]
    have gV : ∀ G, (G = gM mki msz mle mel mme mal mic mil mio mab mae msa mlc mli mna mva mma n0) → ∀ k, ruV G s0 k = (msa (s0 * 29 + k)).toNatClampNeg := fun G hG k => by unfold ruV; rw [(gM_eq hG).2.2.2.1]
    have gB : ∀ G, (G = gM mki msz mle mel mme mal mic mil mio mab mae msa mlc mli mna mva mma n0) → gPb G = mpb mki mle mme := fun G hG => (gM_eq hG).2.1
    have gT : ∀ G, (G = gM mki msz mle mel mme mal mic mil mio mab mae msa mlc mli mna mva mma n0) → gPt G = mpt mki mle mel mme := fun G hG => (gM_eq hG).2.2.1
    have gKk : ∀ G, (G = gM mki msz mle mel mme mal mic mil mio mab mae msa mlc mli mna mva mma n0) → gK G = mki := fun G hG => (gM_eq hG).1
    have gA : ∀ G, (G = gM mki msz mle mel mme mal mic mil mio mab mae msa mlc mli mna mva mma n0) → ∀ x w, (gVa G x w ↔ ¬ mva (40 * x + w) = 0) := fun G hG x w => by rw [(gM_eq hG).2.2.2.2.2.2.2.2.1]
    have row : ∀ G, (G = gM mki msz mle mel mme mal mic mil mio mab mae msa mlc mli mna mva mma n0) → mki v0 = 4 → ∀ i, (gPb G v0 i ↔ i < L) ∧ (i < L → gPt G v0 i = (mel (8 * v0 + i)).toNatClampNeg) := fun G hG h4 i => by
      rw [gB G hG, gT G hG, mpb_r hv40 h4 hL8, eL, cL]
      exact ⟨Iff.rfl, fun h => mpt_r hv40 h4 hL8 (by rw [eL, cL]; exact h)⟩
    have mem : ∀ G, (G = gM mki msz mle mel mme mal mic mil mio mab mae msa mlc mli mna mva mma n0) → mki v0 = 5 → ∀ i, i < 12 → (gPb G v0 i ↔ ¬ mme (12 * v0 + i) < 0) ∧ (¬ mme (12 * v0 + i) < 0 → gPt G v0 i = (mme (12 * v0 + i)).toNatClampNeg) := fun G hG h5 i hi => by
      rw [gB G hG, gT G hG, mpb_m hv40 h5 hi]
      exact ⟨Iff.rfl, fun h => mpt_m hv40 h5 hi h⟩
    have gN : ∀ G, (G = gM mki msz mle mel mme mal mic mil mio mab mae msa mlc mli mna mva mma n0) → gBn G = mna := fun G hG => (gM_eq hG).2.2.2.2.2.2.1
    generalize hok : (fun n : Nat => ¬ mna ((s0 * 3 + k0) * 12 + n) < 0 → mki v0 = 5 → ¬ mme (12 * v0 + n) < 0 → (k0 = 0 → ¬ mva (40 * (mna ((s0 * 3 + k0) * 12 + n)).toNatClampNeg + (mme (12 * v0 + n)).toNatClampNeg) = 0) ∧ (k0 = 1 → ¬ mva (40 * (mna ((s0 * 3 + k0) * 12 + n)).toNatClampNeg + v0) = 0) ∧ (k0 = 2 → ∀ i, i < 12 → bt (mna ((s0 * 3 + k0) * 12 + n)) i = true → ¬ mme (12 * v0 + i) < 0)) = ok
    refine ⟨fun z xj => ∃ j b, j ≤ 12 ∧ xj = nI j ∧ z = bI b ∧ (b = true ↔ ∀ n, n < j → ok n), fun _ xj => 12 - xj.toInt.toNat, ⟨0, true, Nat.zero_le _, rfl, rfl, ⟨fun _ i q => absurd q (Nat.not_lt_zero _), fun _ => rfl⟩⟩, ?_⟩
    rintro z xj ⟨j, b, hj, rfl, rfl, hb⟩
    refine ⟨fun h => ?_, fun h => ?_⟩
    · obtain rfl := fill_end (N := 12) h (by decide) hj
      refine (hpost _ _ _ _ _ _ _ _ _ _ _ _ _ _ _ _ _ _ _ _ _ _ _ _ _ _ _ _ ⟨b, rfl, fun G hG => ?_, rfl, rfl, rfl, rfl, rfl, rfl, rfl, rfl, rfl, rfl, rfl, rfl, rfl, rfl, rfl, rfl, rfl, rfl, rfl, rfl, rfl, rfl, rfl, rfl, rfl, rfl, rfl⟩)
      rw [hb, ← hok]
      have e0 : k0 = 0 ∨ k0 = 1 ∨ k0 = 2 := by omega
      rcases e0 with rfl | rfl | rfl
      · rw [show 33 + 0 = 33 from rfl, Bad_33]
        constructor
        · rintro q ⟨h5, n, w1, w2, w3, w4⟩
          rw [gKk G hG] at h5
          have hm := (mem G hG h5 n w1).1.mp w2
          unfold nmH at w3; unfold nmV at w4; rw [gN G hG] at w3 w4
          rw [(mem G hG h5 n w1).2 hm, gA G hG] at w4
          exact w4 ((q n w1 w3 h5 hm).1 rfl)
        · intro q n hn w3 h5 hm
          refine ⟨fun _ => Classical.byContradiction (fun w => q ⟨by rw [gKk G hG]; exact h5, n, hn, (mem G hG h5 n hn).1.mpr hm, by unfold nmH; rw [gN G hG]; exact w3, ?_⟩), fun e => absurd e (by decide), fun e => absurd e (by decide)⟩
          unfold nmV; rw [gN G hG, (mem G hG h5 n hn).2 hm, gA G hG]; exact w
      · rw [show 33 + 1 = 34 from rfl, Bad_34]
        constructor
        · rintro q ⟨h5, n, w1, w2, w3, w4⟩
          rw [gKk G hG] at h5
          have hm := (mem G hG h5 n w1).1.mp w2
          unfold nmH at w3; unfold nmV at w4; rw [gN G hG] at w3 w4
          rw [gA G hG] at w4
          exact w4 ((q n w1 w3 h5 hm).2.1 rfl)
        · intro q n hn w3 h5 hm
          refine ⟨fun e => absurd e (by decide), fun _ => Classical.byContradiction (fun w => q ⟨by rw [gKk G hG]; exact h5, n, hn, (mem G hG h5 n hn).1.mpr hm, by unfold nmH; rw [gN G hG]; exact w3, ?_⟩), fun e => absurd e (by decide)⟩
          unfold nmV; rw [gN G hG, gA G hG]; exact w
      · rw [show 33 + 2 = 35 from rfl, Bad_35]
        constructor
        · rintro q ⟨h5, n, w1, w2, w3, i, w4, w5, w6⟩
          rw [gKk G hG] at h5
          have hm := (mem G hG h5 n w1).1.mp w2
          unfold nmH at w3; rw [gN G hG] at w3 w5
          exact w6 ((mem G hG h5 i w4).1.mpr ((q n w1 w3 h5 hm).2.2 rfl i w4 w5))
        · intro q n hn w3 h5 hm
          refine ⟨fun e => absurd e (by decide), fun e => absurd e (by decide), fun _ i hi hbb => Classical.byContradiction (fun w => q ⟨by rw [gKk G hG]; exact h5, n, hn, (mem G hG h5 n hn).1.mpr hm, by unfold nmH; rw [gN G hG]; exact w3, i, hi, by rw [gN G hG]; exact hbb, fun z => w ((mem G hG h5 i hi).1.mp z)⟩)⟩
    · have hj2 := fill_step (N := 12) h (by decide) hj
      have mu := fill_mu (N := 12) hj2 (by decide)
      have cc : (nI ((s0 * 3 + k0) * 12 + j)).toNatClampNeg = (s0 * 3 + k0) * 12 + j := nI_clamp (by omega)
      have c12 : (nI (12 * v0 + j)).toNatClampNeg = 12 * v0 + j := nI_clamp (by omega)
      have hvi : vp_in (nI v0) 40 ∧ vp_in (nI (12 * v0 + j)) 480 := ⟨hxv, vp_in_nI (by omega) (by decide)⟩
      have nx : ∀ c : Bool, (c = true ↔ (b = true ∧ ok j)) → ∃ j2 b2, j2 ≤ 12 ∧ nI j + 1 = nI j2 ∧ bI c = bI b2 ∧ (b2 = true ↔ ∀ n, n < j2 → ok n) := fun c hc => by
        refine ⟨j + 1, c, hj2, nI_1 j, rfl, ?_⟩
        rw [hc, hb]
        constructor
        · rintro ⟨q1, q2⟩ i hi
          by_cases e : i = j
          · subst e; exact q2
          · exact q1 i (by omega)
        · intro q; exact ⟨fun i hi => q i (by omega), q j (by omega)⟩
      have okj : ok j ↔ (¬ mna ((s0 * 3 + k0) * 12 + j) < 0 → mki v0 = 5 → ¬ mme (12 * v0 + j) < 0 → (k0 = 0 → ¬ mva (40 * (mna ((s0 * 3 + k0) * 12 + j)).toNatClampNeg + (mme (12 * v0 + j)).toNatClampNeg) = 0) ∧ (k0 = 1 → ¬ mva (40 * (mna ((s0 * 3 + k0) * 12 + j)).toNatClampNeg + v0) = 0) ∧ (k0 = 2 → ∀ i, i < 12 → bt (mna ((s0 * 3 + k0) * 12 + j)) i = true → ¬ mme (12 * v0 + i) < 0)) := by rw [← hok]
      rw [ix, cc, jx12v, c12]
      refine ⟨vp_in_nI (by omega) (by decide), hvi, fun h2 => ⟨nx b ⟨fun q => ⟨q, okj.mpr (fun w => absurd h2 w)⟩, fun q => q.1⟩, mu⟩, fun h2 => ⟨fun h3 => ⟨nx b ⟨fun q => ⟨q, okj.mpr (fun _ w1 w2 => ?_)⟩, fun q => q.1⟩, mu⟩, fun h3 => ?_⟩⟩
      · rw [ite5] at h3; exact absurd ⟨w1, w2⟩ h3
      rw [ite5] at h3
      obtain ⟨k5, hnn⟩ := Classical.not_not.mp h3
      obtain ⟨p, hp, ep⟩ := okx_nn (hmem j hj2) hnn
      have cp : (nI p).toNatClampNeg = p := nI_clamp (by omega)
      rw [if_pos k5]
      refine ⟨fun h4 => ⟨nx false ⟨fun q => absurd q (by decide), fun q => ?_⟩, mu⟩, fun h4 => ⟨fun n33 => ⟨fun n34 => ⟨hxv, fun m hm => ?_⟩, fun e => ?_⟩, fun e => ?_⟩⟩
      · have := q.1; rw [bI0.mp h4] at this; exact absurd this (by decide)
      · obtain rfl : k0 = 2 := by omega
        obtain ⟨q0, hq4, eq0⟩ := (hS.2.2.2.2.2.2.1 s0 j hs24 hj2).resolve_left (fun w => by rw [w] at h2; exact h2 neg1_lt)
        have hrq : (mna ((s0 * 3 + 2) * 12 + j) &&& (m ^^^ (-1))) = 0 ↔ ∀ i, i < 12 → bt (mna ((s0 * 3 + 2) * 12 + j)) i = true → bt m i = true := by rw [eq0]; exact req_iff hq4 _
        rw [hrq]
        refine ⟨fun h5 => ⟨nx false ⟨fun q => absurd q (by decide), fun q => absurd (fun i hi hbb => (hm i (by omega)).mpr ⟨hi, k5, ((okj.mp q.2) h2 k5 hnn).2.2 rfl i hi hbb⟩) h5⟩, mu⟩, fun h5 => ⟨nx true ⟨fun _ => ⟨bI_ne.mp h4, okj.mpr (fun _ _ _ => ⟨fun e => absurd e (by decide), fun e => absurd e (by decide), fun _ i hi hbb => ((hm i (by omega)).mp (h5 i hi hbb)).2.2⟩)⟩, fun _ => rfl⟩, mu⟩⟩
      · obtain rfl : k0 = 1 := by omega
        obtain ⟨x0, hx, ex⟩ := okx_nn ((hS.2.2.2.2.1 s0 hs24).2.2 1 j (by decide) hj2) h2
        have cx : (nI x0).toNatClampNeg = x0 := nI_clamp (by omega)
        have c0 := c40 (x := x0) (w := v0) (by omega) hv40
        rw [ex, cx] at okj
        rw [ex]
        refine ⟨va_ok hS (by omega) hv40, fun h5 => ⟨nx false ⟨fun q => absurd q (by decide), fun q => ?_⟩, mu⟩, fun h5 => ⟨nx true ⟨fun _ => ⟨bI_ne.mp h4, okj.mpr (fun _ _ _ => ⟨fun e => absurd e (by decide), fun _ => ?_, fun e => absurd e (by decide)⟩)⟩, fun _ => rfl⟩, mu⟩⟩
        · have := of_decide_eq_false (bI0.mp h5); rw [c0] at this
          exact absurd (((okj.mp q.2) (nI_pos (by omega)) k5 hnn).2.1 rfl) this
        · have := of_decide_eq_true (bI_ne.mp h5); rw [c0] at this; exact this
      · obtain rfl : k0 = 0 := by omega
        obtain ⟨x0, hx, ex⟩ := okx_nn ((hS.2.2.2.2.1 s0 hs24).2.2 0 j (by decide) hj2) h2
        have cx : (nI x0).toNatClampNeg = x0 := nI_clamp (by omega)
        have c0 := c40 (x := x0) (w := p) (by omega) (by omega)
        rw [ex, cx, ep, cp] at okj
        rw [ex, ep]
        refine ⟨va_ok hS (by omega) (by omega), fun h5 => ⟨nx false ⟨fun q => absurd q (by decide), fun q => ?_⟩, mu⟩, fun h5 => ⟨nx true ⟨fun _ => ⟨bI_ne.mp h4, okj.mpr (fun _ _ _ => ⟨fun _ => ?_, fun e => absurd e (by decide), fun e => absurd e (by decide)⟩)⟩, fun _ => rfl⟩, mu⟩⟩
        · have := of_decide_eq_false (bI0.mp h5); rw [c0] at this
          exact absurd (((okj.mp q.2) (nI_pos (by omega)) k5 (nI_pos (by omega))).1 rfl) this
        · have := of_decide_eq_true (bI_ne.mp h5); rw [c0] at this; exact this
  exact main _ (fun _ _ _ _ _ _ _ _ _ _ _ _ _ _ _ _ _ _ _ _ _ _ _ _ _ _ _ _ h => h)
theorem c_Mo_naming (l : Launch) (D : va_G) (b : Nat → Nat) (cI cJ cZ : ClassId) (mki : Nat → Int32) (msz : Nat → Int64) (mle : Nat → Int32) (mel : Nat → Int32) (mme : Nat → Int32) (mal : Nat → Int32) (mic : Nat → Int32) (mil : Nat → Int32) (mio : Nat → Int32) (mab : Nat → Int32) (mae : Nat → Int32) (msa : Nat → Int32) (mlc : Nat → Int32) (mli : Nat → Int32) (mna : Nat → Int32) (mva : Nat → Int32) (mma : Nat → Int32) (mch : Nat → Int32) (mre : Nat → Int32) (mlv : Nat → Int32) (mwr : Nat → Int64) (msh : Nat → Int32) (mth : Int32) (mnv : Int32) (mns : Int32) (mfa : Int32) (mmo : Int32) (x : Int32) (y : Int32) (k : Int32) (hpre : (∃ n0 m0 s0 v0 : Nat, mnv = nI n0 ∧ mns = nI m0 ∧ MSOK mki msz mle mel mme mic mio msa mlc mli mna mva n0 m0 ∧ (s0 < m0 ∧ v0 < n0 ∧ x = nI s0 ∧ y = nI v0) ∧ ∃ k0 : Nat, k0 < 3 ∧ k = nI (33 + k0))) : Wm (S := Bool) l y_Mo_naming b_Mo_naming 8 (some .boolean) 2 45 [.ref (b 0), .int x, .int y, .int k] D (tyA cI cJ cZ) (wM b cI cJ cZ mki msz mle mel mme mal mic mil mio mab mae msa mlc mli mna mva mma mch mre mlv mwr msh mth mnv mns mfa mmo) (fun uu => (∀ G : Sp, G = gM mki msz mle mel mme mal mic mil mio mab mae msa mlc mli mna mva mma mnv.toNatClampNeg → (uu = true ↔ ¬ Bad G x.toNatClampNeg y.toNatClampNeg k.toNatClampNeg))) (fun uu => some (.int (bI uu))) (fun uu => (wM b cI cJ cZ mki msz mle mel mme mal mic mil mio mab mae msa mlc mli mna mva mma mch mre mlv mwr msh mth mnv mns mfa mmo)) :=
  wm_i (by decide) (fun _ _ => bI_nar _) (Nat.le_of_ble_eq_true rfl) (fun p e s m below meth c ls Q A S hK hP hD hA hS hl hret => g_Mo_naming S (Nat.le_refl _) (Nat.le_refl _) ⟨Nat.le_refl _, Nat.le_refl _⟩ D b cI cJ cZ mki msz mle mel mme mal mic mil mio mab mae msa mlc mli mna mva mma mch mre mlv mwr msh mth mnv mns mfa mmo x y k hK hP hD hA hS hl (v_Mo_naming mki msz mle mel mme mal mic mil mio mab mae msa mlc mli mna mva mma mch mre mlv mwr msh mth mnv mns mfa mmo x y k hpre) (fun v mki' msz' mle' mel' mme' mal' mic' mil' mio' mab' mae' msa' mlc' mli' mna' mva' mma' mch' mre' mlv' mwr' msh' mth' mnv' mns' mfa' mmo' ls1 pc H1 locs1 hd hv hP1 hD1 hS1 => by obtain ⟨rr, rfl, hp, rfl, rfl, rfl, rfl, rfl, rfl, rfl, rfl, rfl, rfl, rfl, rfl, rfl, rfl, rfl, rfl, rfl, rfl, rfl, rfl, rfl, rfl, rfl, rfl, rfl, rfl, rfl⟩ := hv; exact hret rr _ ls1 pc H1 locs1 hd hp rfl hP1 hD1 hS1))
theorem hd_Mo_naming : y_Mo_naming.cls ≠ "java/lang/invoke/MethodHandle" ∧ y_Mo_naming.cls ≠ "java/lang/invoke/VarHandle" ∧ (parseMethodDescriptor y_Mo_naming.desc).map (fun d => d.parameters.length) = some 3 := ⟨by decide, by decide, by decide +kernel⟩
