theorem va_ok {mki : Nat → Int32} {msz : Nat → Int64} {mle mel mme mic mio msa mlc mli mna mva : Nat → Int32} {n m : Nat} (h : MSOK mki msz mle mel mme mic mio msa mlc mli mna mva n m) {x w : Nat} (hx : x < 24) (hw : w < 40) : vp_in (40 * nI x + nI w) 960 ∧ (mva (40 * nI x + nI w : Int32).toNatClampNeg = 0 ∨ mva (40 * nI x + nI w : Int32).toNatClampNeg = 1) := by
  rw [jx40, nI_clamp (by omega)]
  exact ⟨vp_in_nI (by omega) (by decide), h.2.2.2.2.2.2.2.2 _ (by omega)⟩
theorem c40 {x w : Nat} (hx : x < 24) (hw : w < 40) : (40 * nI x + nI w : Int32).toNatClampNeg = 40 * x + w := by rw [jx40, nI_clamp (by omega)]
theorem row_all : ∀ L, L ≤ 8 → ∀ i, i < 32 → bt ((1 : Int32) <<< (nI L &&& 31) - 1) i = decide (i < L) := by decide +kernel
def V_Mo_contained (mki : Nat → Int32) (msz : Nat → Int64) (mle : Nat → Int32) (mel : Nat → Int32) (mme : Nat → Int32) (mal : Nat → Int32) (mic : Nat → Int32) (mil : Nat → Int32) (mio : Nat → Int32) (mab : Nat → Int32) (mae : Nat → Int32) (msa : Nat → Int32) (mlc : Nat → Int32) (mli : Nat → Int32) (mna : Nat → Int32) (mva : Nat → Int32) (mma : Nat → Int32) (mch : Nat → Int32) (mre : Nat → Int32) (mlv : Nat → Int32) (mwr : Nat → Int64) (msh : Nat → Int32) (mth : Int32) (mnv : Int32) (mns : Int32) (mfa : Int32) (mmo : Int32) (x : Int32) (y : Int32) (post : Int32 → (Nat → Int32) → (Nat → Int64) → (Nat → Int32) → (Nat → Int32) → (Nat → Int32) → (Nat → Int32) → (Nat → Int32) → (Nat → Int32) → (Nat → Int32) → (Nat → Int32) → (Nat → Int32) → (Nat → Int32) → (Nat → Int32) → (Nat → Int32) → (Nat → Int32) → (Nat → Int32) → (Nat → Int32) → (Nat → Int32) → (Nat → Int32) → (Nat → Int32) → (Nat → Int64) → (Nat → Int32) → Int32 → Int32 → Int32 → Int32 → Int32 → Prop) : Prop :=
  (∃ (I4 : Int32 → Int32 → Prop) (mI4 : Int32 → Int32 → Nat), I4 0 0 ∧ (∀ (x2 : Int32) (x3 : Int32), I4 x2 x3 → (vp_in y 40 ∧ (((mle y.toNatClampNeg) ≤ x3 → post x2 mki msz mle mel mme mal mic mil mio mab mae msa mlc mli mna mva mma mch mre mlv mwr msh mth mnv mns mfa mmo) ∧ (¬ (mle y.toNatClampNeg) ≤ x3 → (vp_in (29 * x + 23) 696 ∧ (vp_in ((8 * y) + x3) 320 ∧ ((vp_in (40 * (msa (29 * x + 23 : Int32).toNatClampNeg) + (mel ((8 * y) + x3 : Int32).toNatClampNeg)) 960 ∧ (mva (40 * (msa (29 * x + 23 : Int32).toNatClampNeg) + (mel ((8 * y) + x3 : Int32).toNatClampNeg) : Int32).toNatClampNeg = 0 ∨ mva (40 * (msa (29 * x + 23 : Int32).toNatClampNeg) + (mel ((8 * y) + x3 : Int32).toNatClampNeg) : Int32).toNatClampNeg = 1)) ∧ (((bI (decide (¬ mva (40 * (msa (29 * x + 23 : Int32).toNatClampNeg) + (mel ((8 * y) + x3 : Int32).toNatClampNeg) : Int32).toNatClampNeg = 0))) = 0 → (I4 x2 (x3 + 1) ∧ mI4 x2 (x3 + 1) < mI4 x2 x3)) ∧ (¬ (bI (decide (¬ mva (40 * (msa (29 * x + 23 : Int32).toNatClampNeg) + (mel ((8 * y) + x3 : Int32).toNatClampNeg) : Int32).toNatClampNeg = 0))) = 0 → (I4 (x2 ||| (1 <<< (x3 &&& 31))) (x3 + 1) ∧ mI4 (x2 ||| (1 <<< (x3 &&& 31))) (x3 + 1) < mI4 x2 x3)))))))))))
set_option maxHeartbeats 4000000 in
set_option maxRecDepth 100000 in
theorem g_Mo_contained {p : Program} {l : Launch} {e : Env} {R : Room} {s : State} {m : MethodId} {args : Array Value} {below : List Frame} {meth : Method} {c : Code} {H : Heap} {locs : List Loc} {cells slots : Nat} {Q : State → Prop} {ls : Array Slot} {A : Nat → Prop} (S : CallFix p m c b_Mo_contained 5 s args W0 R_Mo) (hRf : 1 ≤ R.frames) (hRl : 22 ≤ R.locals) (hRc : cells ≤ R.cells ∧ slots ≤ R.slots) (D : va_G) (b : Nat → Nat) (cI cJ cZ : ClassId) (mki : Nat → Int32) (msz : Nat → Int64) (mle : Nat → Int32) (mel : Nat → Int32) (mme : Nat → Int32) (mal : Nat → Int32) (mic : Nat → Int32) (mil : Nat → Int32) (mio : Nat → Int32) (mab : Nat → Int32) (mae : Nat → Int32) (msa : Nat → Int32) (mlc : Nat → Int32) (mli : Nat → Int32) (mna : Nat → Int32) (mva : Nat → Int32) (mma : Nat → Int32) (mch : Nat → Int32) (mre : Nat → Int32) (mlv : Nat → Int32) (mwr : Nat → Int64) (msh : Nat → Int32) (mth : Int32) (mnv : Int32) (mns : Int32) (mfa : Int32) (mmo : Int32) (x : Int32) (y : Int32) (hK : va_K D vwCl (tyA cI cJ cZ) s) (hP : va_P D vwCl (wM b cI cJ cZ mki msz mle mel mme mal mic mil mio mab mae msa mlc mli mna mva mma mch mre mlv mwr msh mth mnv mns mfa mmo) H) (hD : va_D A (wM b cI cJ cZ mki msz mle mel mme mal mic mil mio mab mae msa mlc mli mna mva mma mch mre mlv mwr msh mth mnv mns mfa mmo)) (hA : ∀ q, s.heap.size ≤ q → A q) (hS : va_S A s.heap H locs) (hl : lv_has ls 5 [(0, .ref (b 0)), (1, .int x), (2, .int y)]) {post : Int32 → (Nat → Int32) → (Nat → Int64) → (Nat → Int32) → (Nat → Int32) → (Nat → Int32) → (Nat → Int32) → (Nat → Int32) → (Nat → Int32) → (Nat → Int32) → (Nat → Int32) → (Nat → Int32) → (Nat → Int32) → (Nat → Int32) → (Nat → Int32) → (Nat → Int32) → (Nat → Int32) → (Nat → Int32) → (Nat → Int32) → (Nat → Int32) → (Nat → Int32) → (Nat → Int64) → (Nat → Int32) → Int32 → Int32 → Int32 → Int32 → Int32 → Prop} (vc : V_Mo_contained mki msz mle mel mme mal mic mil mio mab mae msa mlc mli mna mva mma mch mre mlv mwr msh mth mnv mns mfa mmo x y post)
    (hret : ∀ (v : Int32) (mki : Nat → Int32) (msz : Nat → Int64) (mle : Nat → Int32) (mel : Nat → Int32) (mme : Nat → Int32) (mal : Nat → Int32) (mic : Nat → Int32) (mil : Nat → Int32) (mio : Nat → Int32) (mab : Nat → Int32) (mae : Nat → Int32) (msa : Nat → Int32) (mlc : Nat → Int32) (mli : Nat → Int32) (mna : Nat → Int32) (mva : Nat → Int32) (mma : Nat → Int32) (mch : Nat → Int32) (mre : Nat → Int32) (mlv : Nat → Int32) (mwr : Nat → Int64) (msh : Nat → Int32) (mth : Int32) (mnv : Int32) (mns : Int32) (mfa : Int32) (mmo : Int32) (ls : Array Slot) (pc : Nat) (H : Heap) (locs : List Loc), decode b_Mo_contained pc = .ok (.ireturn, 1) → post v mki msz mle mel mme mal mic mil mio mab mae msa mlc mli mna mva mma mch mre mlv mwr msh mth mnv mns mfa mmo → va_P D vwCl (wM b cI cJ cZ mki msz mle mel mme mal mic mil mio mab mae msa mlc mli mna mva mma mch mre mlv mwr msh mth mnv mns mfa mmo) H → va_D A (wM b cI cJ cZ mki msz mle mel mme mal mic mil mio mab mae msa mlc mli mna mva mma mch mre mlv mwr msh mth mnv mns mfa mmo) → va_S A s.heap H locs → W p l e R s m args below meth c H locs cells slots Q (F0 m pc ls [.int v])) : W p l e R s m args below meth c H locs cells slots Q (F0 m 0 ls []) := by
  have hx := S.1
  have hb := S.2.1
  have hown := S.2.2.2.1
  have hts := S.2.2.2.2
  unfold V_Mo_contained at vc
  refine lv_iconst (v := 0) hx hb d_Mo_contained_0 (by decide) ?_
  refine lv_istore_n hx hb d_Mo_contained_1 rfl hl (by decide) (lv' := [(3, .int 0), (0, .ref (b 0)), (1, .int x), (2, .int y)]) rfl (fun ls hl => ?_)
  refine lv_iconst (v := 0) hx hb d_Mo_contained_2 (by decide) ?_
  refine lv_istore hx hb d_Mo_contained_3 hl (by decide) (lv' := [(4, .int 0), (3, .int 0), (0, .ref (b 0)), (1, .int x), (2, .int y)]) rfl (fun ls hl => ?_)
  obtain ⟨I4, mI4, vc0, vcs⟩ := vc
  have lI4 : ∀ n : Nat, ∀ (x2 : Int32) (x3 : Int32) (ls : Array Slot) (H : Heap) (locs : List Loc), I4 x2 x3 → mI4 x2 x3 < n → lv_has ls 5 [(0, .ref (b 0)), (1, .int x), (2, .int y), (3, .int x2), (4, .int x3)] → va_P D vwCl (wM b cI cJ cZ mki msz mle mel mme mal mic mil mio mab mae msa mlc mli mna mva mma mch mre mlv mwr msh mth mnv mns mfa mmo) H → va_D A (wM b cI cJ cZ mki msz mle mel mme mal mic mil mio mab mae msa mlc mli mna mva mma mch mre mlv mwr msh mth mnv mns mfa mmo) → va_S A s.heap H locs → W p l e R s m args below meth c H locs cells slots Q (F0 m 5 ls []) := by
    intro n
    induction n with
    | zero => intro x2 x3 ls H locs _ h; exact absurd h (Nat.not_lt_zero _)
    | succ n ihI4 =>
      intro x2 x3 ls H locs vc hmI4 hl hP hD hS
      have vc := vcs x2 x3 vc
      refine lv_iload hx hb d_Mo_contained_5 (lv_at hl 4 rfl) ?_
      refine lv_aload_n hx hb d_Mo_contained_7 rfl (lv_at hl 0 rfl) ?_
      refine va_get (D := D) (ci := 6) (v := .ref (b 3)) (C := R_Mo) (T := F_Mo) (N := 27) hx hb hts in_Mo hown hK hP 0 rfl rfl 4 (by decide) (hts _ fl_Mo_17) (fun _ h => h) rfl d_Mo_contained_8 ?_
      refine lv_iload_n hx hb d_Mo_contained_11 rfl (lv_at hl 2 rfl) ?_
      obtain ⟨vcb, vc⟩ := vc
      refine va_iald hx hb hK hP 3 0 rfl rfl vcb d_Mo_contained_12 ?_
      refine lv_icmp_ge (tgt := 59) hx hb d_Mo_contained_13 (by decide) (fun h => ?_) (fun h => ?_)
      · have vc := vc.1 h
        refine lv_iload_n hx hb d_Mo_contained_59 rfl (lv_at hl 3 rfl) ?_
        exact hret _ _ _ _ _ _ _ _ _ _ _ _ _ _ _ _ _ _ _ _ _ _ _ _ _ _ _ _ ls _ H locs d_Mo_contained_60 vc hP hD hS
      · have vc := vc.2 h
        refine lv_aload_n hx hb d_Mo_contained_16 rfl (lv_at hl 0 rfl) ?_
        refine lv_aload_n hx hb d_Mo_contained_17 rfl (lv_at hl 0 rfl) ?_
        refine lv_iload_n hx hb d_Mo_contained_18 rfl (lv_at hl 1 rfl) ?_
        refine lv_bipush (v := 23) hx hb d_Mo_contained_19 (by decide) ?_
        obtain ⟨hpre, vc⟩ := vc
        refine pc_V (As := [.int x, .int 23]) (rest := [.ref (b 0)]) S (c_Mo_said l D b cI cJ cZ mki msz mle mel mme mal mic mil mio mab mae msa mlc mli mna mva mma mch mre mlv mwr msh mth mnv mns mfa mmo x 23 hpre) wB_blind k_Mo_said i_Mo_said e_Mo_said o_Mo ml_Mo_141 hd_Mo_said (Nat.le_trans (by decide) hRf) (Nat.le_trans (by decide) hRl) hRc (va_recv hK hP (q0 := 0) (ci := 6) rfl rfl) (wB_at hP hK) hl.1 rfl (Nat.le_of_ble_eq_true rfl) d_Mo_contained_21 ?_
        refine lv_aload_n hx hb d_Mo_contained_24 rfl (lv_at hl 0 rfl) ?_
        refine va_get (D := D) (ci := 6) (v := .ref (b 4)) (C := R_Mo) (T := F_Mo) (N := 27) hx hb hts in_Mo hown hK hP 0 rfl rfl 5 (by decide) (hts _ fl_Mo_20) (fun _ h => h) rfl d_Mo_contained_25 ?_
        refine lv_bipush (v := 8) hx hb d_Mo_contained_28 (by decide) ?_
        refine lv_iload_n hx hb d_Mo_contained_30 rfl (lv_at hl 2 rfl) ?_
        refine lv_imul hx hb d_Mo_contained_31 ?_
        refine lv_iload hx hb d_Mo_contained_32 (lv_at hl 4 rfl) ?_
        refine lv_iadd hx hb d_Mo_contained_34 ?_
        obtain ⟨vcb, vc⟩ := vc
        refine va_iald hx hb hK hP 4 0 rfl rfl vcb d_Mo_contained_35 ?_
        obtain ⟨hpre, vc⟩ := vc
        refine pc_V (As := [.int (msa (29 * x + 23 : Int32).toNatClampNeg), .int (mel ((8 * y) + x3 : Int32).toNatClampNeg)]) (rest := []) S (c_Mo_isValid l D b cI cJ cZ mki msz mle mel mme mal mic mil mio mab mae msa mlc mli mna mva mma mch mre mlv mwr msh mth mnv mns mfa mmo (msa (29 * x + 23 : Int32).toNatClampNeg) (mel ((8 * y) + x3 : Int32).toNatClampNeg) hpre) wB_blind k_Mo_isValid i_Mo_isValid e_Mo_isValid o_Mo ml_Mo_193 hd_Mo_isValid (Nat.le_trans (by decide) hRf) (Nat.le_trans (by decide) hRl) hRc (va_recv hK hP (q0 := 0) (ci := 6) rfl rfl) (wB_at hP hK) hl.1 rfl (Nat.le_of_ble_eq_true rfl) d_Mo_contained_36 ?_
        refine lv_if_eq (tgt := 51) hx hb d_Mo_contained_39 (by decide) (fun h => ?_) (fun h => ?_)
        · have vc := vc.1 h
          refine lv_iload_n hx hb d_Mo_contained_51 rfl (lv_at hl 3 rfl) ?_
          refine lv_istore_n hx hb d_Mo_contained_52 rfl hl (by decide) (lv' := [(3, .int x2), (0, .ref (b 0)), (1, .int x), (2, .int y), (4, .int x3)]) rfl (fun ls hl => ?_)
          refine lv_iinc (k := 4) (v := x3 + 1) hx hb d_Mo_contained_53 hl rfl rfl (by decide) (lv' := [(4, .int (x3 + 1)), (3, .int x2), (0, .ref (b 0)), (1, .int x), (2, .int y)]) rfl (fun ls hl => ?_)
          refine lv_goto (tgt := 5) hx hb d_Mo_contained_56 (by decide) ?_
          exact ihI4 x2 (x3 + 1) ls H locs vc.1 (Nat.lt_of_lt_of_le vc.2 (Nat.le_of_lt_succ hmI4)) (lv_sub hl [2, 3, 4, 1, 0] rfl) hP hD hS
        · have vc := vc.2 h
          refine lv_iload_n hx hb d_Mo_contained_42 rfl (lv_at hl 3 rfl) ?_
          refine lv_iconst (v := 1) hx hb d_Mo_contained_43 (by decide) ?_
          refine lv_iload hx hb d_Mo_contained_44 (lv_at hl 4 rfl) ?_
          refine lv_ishl hx hb d_Mo_contained_46 ?_
          refine lv_ior hx hb d_Mo_contained_47 ?_
          refine lv_goto (tgt := 52) hx hb d_Mo_contained_48 (by decide) ?_
          refine lv_istore_n hx hb d_Mo_contained_52 rfl hl (by decide) (lv' := [(3, .int (x2 ||| (1 <<< (x3 &&& 31)))), (0, .ref (b 0)), (1, .int x), (2, .int y), (4, .int x3)]) rfl (fun ls hl => ?_)
          refine lv_iinc (k := 4) (v := x3 + 1) hx hb d_Mo_contained_53 hl rfl rfl (by decide) (lv' := [(4, .int (x3 + 1)), (3, .int (x2 ||| (1 <<< (x3 &&& 31)))), (0, .ref (b 0)), (1, .int x), (2, .int y)]) rfl (fun ls hl => ?_)
          refine lv_goto (tgt := 5) hx hb d_Mo_contained_56 (by decide) ?_
          exact ihI4 (x2 ||| (1 <<< (x3 &&& 31))) (x3 + 1) ls H locs vc.1 (Nat.lt_of_lt_of_le vc.2 (Nat.le_of_lt_succ hmI4)) (lv_sub hl [2, 3, 4, 1, 0] rfl) hP hD hS
  exact lI4 _ 0 0 ls H locs vc0 (Nat.lt_succ_self _) (lv_sub hl [2, 3, 4, 1, 0] rfl) hP hD hS
set_option maxHeartbeats 4000000 in
theorem v_Mo_contained (mki : Nat → Int32) (msz : Nat → Int64) (mle : Nat → Int32) (mel : Nat → Int32) (mme : Nat → Int32) (mal : Nat → Int32) (mic : Nat → Int32) (mil : Nat → Int32) (mio : Nat → Int32) (mab : Nat → Int32) (mae : Nat → Int32) (msa : Nat → Int32) (mlc : Nat → Int32) (mli : Nat → Int32) (mna : Nat → Int32) (mva : Nat → Int32) (mma : Nat → Int32) (mch : Nat → Int32) (mre : Nat → Int32) (mlv : Nat → Int32) (mwr : Nat → Int64) (msh : Nat → Int32) (mth : Int32) (mnv : Int32) (mns : Int32) (mfa : Int32) (mmo : Int32) (x : Int32) (y : Int32) (hpre : (∃ n0 m0 s0 v0 : Nat, mnv = nI n0 ∧ mns = nI m0 ∧ MSOK mki msz mle mel mme mic mio msa mlc mli mna mva n0 m0 ∧ (s0 < m0 ∧ v0 < n0 ∧ x = nI s0 ∧ y = nI v0) ∧ ¬ msa (s0 * 29 + 23) < 0)) : V_Mo_contained mki msz mle mel mme mal mic mil mio mab mae msa mlc mli mna mva mma mch mre mlv mwr msh mth mnv mns mfa mmo x y (fun v mki' msz' mle' mel' mme' mal' mic' mil' mio' mab' mae' msa' mlc' mli' mna' mva' mma' mch' mre' mlv' mwr' msh' mth' mnv' mns' mfa' mmo' => ((∀ G : Sp, G = gM mki msz mle mel mme mal mic mil mio mab mae msa mlc mli mna mva mma mnv.toNatClampNeg → mki y.toNatClampNeg = 4 → ∀ i, i < 32 → (bt v i = true ↔ MrkCo G x.toNatClampNeg y.toNatClampNeg i))) ∧ mki' = mki ∧ msz' = msz ∧ mle' = mle ∧ mel' = mel ∧ mme' = mme ∧ mal' = mal ∧ mic' = mic ∧ mil' = mil ∧ mio' = mio ∧ mab' = mab ∧ mae' = mae ∧ msa' = msa ∧ mlc' = mlc ∧ mli' = mli ∧ mna' = mna ∧ mva' = mva ∧ mma' = mma ∧ mch' = mch ∧ mre' = mre ∧ mlv' = mlv ∧ mwr' = mwr ∧ msh' = msh ∧ mth' = mth ∧ mnv' = mnv ∧ mns' = mns ∧ mfa' = mfa ∧ mmo' = mmo) := by
  have main : ∀ post : Int32 → (Nat → Int32) → (Nat → Int64) → (Nat → Int32) → (Nat → Int32) → (Nat → Int32) → (Nat → Int32) → (Nat → Int32) → (Nat → Int32) → (Nat → Int32) → (Nat → Int32) → (Nat → Int32) → (Nat → Int32) → (Nat → Int32) → (Nat → Int32) → (Nat → Int32) → (Nat → Int32) → (Nat → Int32) → (Nat → Int32) → (Nat → Int32) → (Nat → Int32) → (Nat → Int64) → (Nat → Int32) → Int32 → Int32 → Int32 → Int32 → Int32 → Prop, (∀ v mki' msz' mle' mel' mme' mal' mic' mil' mio' mab' mae' msa' mlc' mli' mna' mva' mma' mch' mre' mlv' mwr' msh' mth' mnv' mns' mfa' mmo', (fun v mki' msz' mle' mel' mme' mal' mic' mil' mio' mab' mae' msa' mlc' mli' mna' mva' mma' mch' mre' mlv' mwr' msh' mth' mnv' mns' mfa' mmo' => ((∀ G : Sp, G = gM mki msz mle mel mme mal mic mil mio mab mae msa mlc mli mna mva mma mnv.toNatClampNeg → mki y.toNatClampNeg = 4 → ∀ i, i < 32 → (bt v i = true ↔ MrkCo G x.toNatClampNeg y.toNatClampNeg i))) ∧ mki' = mki ∧ msz' = msz ∧ mle' = mle ∧ mel' = mel ∧ mme' = mme ∧ mal' = mal ∧ mic' = mic ∧ mil' = mil ∧ mio' = mio ∧ mab' = mab ∧ mae' = mae ∧ msa' = msa ∧ mlc' = mlc ∧ mli' = mli ∧ mna' = mna ∧ mva' = mva ∧ mma' = mma ∧ mch' = mch ∧ mre' = mre ∧ mlv' = mlv ∧ mwr' = mwr ∧ msh' = msh ∧ mth' = mth ∧ mnv' = mnv ∧ mns' = mns ∧ mfa' = mfa ∧ mmo' = mmo) v mki' msz' mle' mel' mme' mal' mic' mil' mio' mab' mae' msa' mlc' mli' mna' mva' mma' mch' mre' mlv' mwr' msh' mth' mnv' mns' mfa' mmo' → post v mki' msz' mle' mel' mme' mal' mic' mil' mio' mab' mae' msa' mlc' mli' mna' mva' mma' mch' mre' mlv' mwr' msh' mth' mnv' mns' mfa' mmo') → V_Mo_contained mki msz mle mel mme mal mic mil mio mab mae msa mlc mli mna mva mma mch mre mlv mwr msh mth mnv mns mfa mmo x y post := by
    intro post hpost
    unfold V_Mo_contained
    obtain ⟨n0, m0, s0, v0, hnv, hns, hS, ⟨hs, hv, rfl, rfl⟩, h23⟩ := hpre
    have hm24 := hS.2.2.1
    have hn40 := hS.1.1
    have hs24 : s0 < 24 := by omega
    have hv40 : v0 < 40 := by omega
    have cs : (nI s0).toNatClampNeg = s0 := nI_clamp (by omega)
    have cv : (nI v0).toNatClampNeg = v0 := nI_clamp (by omega)
    have cn : mnv.toNatClampNeg = n0 := by rw [hnv]; exact nI_clamp (by omega)
    have hxv : vp_in (nI v0) 40 := vp_in_nI hv40 (by decide)
    obtain ⟨⟨kd, hkd, ekd⟩, ⟨L, hL, eL⟩, hpart, hmem, htxt⟩ := hS.1.2.2 v0 hv40
    have cL : (nI L).toNatClampNeg = L := nI_clamp (by omega)
    have hL8 : (mle v0).toNatClampNeg ≤ 8 := by rw [eL, cL]; exact hL
    have e23 : 29 * nI s0 + 23 = nI (s0 * 29 + 23) := jx29 (k := 23)
    have c23 : (nI (s0 * 29 + 23)).toNatClampNeg = s0 * 29 + 23 := nI_clamp (by omega)
    obtain ⟨x0, hx, ex⟩ := okx_nn ((hS.2.2.2.2.1 s0 hs24).1 23 (by decide) (by decide) (by decide) (by decide)) h23
    simp only [cs, cv, cn, e23, c23, eL, ex] at hpost ⊢
    refine ⟨fun z xi => ∃ k, k ≤ L ∧ xi = nI k ∧ ∀ j, j < 32 → (bt z j = true ↔ j < k ∧ ¬ mva (40 * x0 + (mel (8 * v0 + j)).toNatClampNeg) = 0), fun _ xi => L - xi.toInt.toNat, ⟨0, Nat.zero_le _, rfl, fun j _ => by rw [b_0]; simp⟩, ?_⟩
    rintro z xi ⟨k, hk, rfl, hb⟩
    refine ⟨hxv, fun h => ?_, fun h => ?_⟩
    · obtain rfl := (fill_end (N := L) h (by omega) hk).symm
      refine (hpost _ _ _ _ _ _ _ _ _ _ _ _ _ _ _ _ _ _ _ _ _ _ _ _ _ _ _ _ ⟨fun G hG h4 i hi => ?_, rfl, rfl, rfl, rfl, rfl, rfl, rfl, rfl, rfl, rfl, rfl, rfl, rfl, rfl, rfl, rfl, rfl, rfl, rfl, rfl, rfl, rfl, rfl, rfl, rfl, rfl, rfl⟩)
      obtain ⟨gk, gpb, gpt, gru, _, _, _, _, gva, _⟩ := gM_eq hG
      have hrH : ruH G s0 23 := by unfold ruH; rw [gru, ex]; exact nI_pos (by omega)
      have hrV : ruV G s0 23 = x0 := by unfold ruV; rw [gru, ex]; exact nI_clamp (by omega)
      rw [hb i hi]
      unfold MrkCo
      rw [hrV, gpb, gpt, gva]
      constructor
      · rintro ⟨q1, q2⟩
        have q1' : i < (mle v0).toNatClampNeg := by rw [eL, cL]; exact q1
        exact ⟨hrH, by omega, (mpb_r hv40 h4 hL8 i).mpr q1', by rw [mpt_r hv40 h4 hL8 q1']; exact q2⟩
      · rintro ⟨_, _, q1, q2⟩
        have q1' := (mpb_r hv40 h4 hL8 i).mp q1
        rw [mpt_r hv40 h4 hL8 q1'] at q2
        rw [eL, cL] at q1'
        exact ⟨q1', q2⟩
    · have hk2 := fill_step (N := L) h (by omega) hk
      have mu := fill_mu (N := L) hk2 (by omega)
      have c8 : (nI (8 * v0 + k)).toNatClampNeg = 8 * v0 + k := nI_clamp (by omega)
      obtain ⟨p, hp, ep⟩ := hpart k (by rw [eL, cL]; exact hk2)
      have cp : (mel (8 * v0 + k)).toNatClampNeg = p := by rw [ep]; exact nI_clamp (by omega)
      have hva := va_ok hS (x := x0) (w := p) (by omega) (by omega)
      rw [jx8v, c8, ep]
      have c4 := c40 (x := x0) (w := p) (by omega) (by omega)
      refine ⟨vp_in_nI (by omega) (by decide), vp_in_nI (by omega) (by decide), hva, fun h2 => ⟨⟨k + 1, hk2, nI_1 k, fun j hj => ?_⟩, mu⟩, fun h2 => ⟨⟨k + 1, hk2, nI_1 k, fun j hj => ?_⟩, mu⟩⟩
      · rw [hb j hj]
        refine ⟨fun q => ⟨by omega, q.2⟩, fun q => ⟨?_, q.2⟩⟩
        by_cases e : j = k
        · subst e
          have := of_decide_eq_false (bI0.mp h2)
          rw [c4] at this; rw [cp] at q; exact absurd q.2 this
        · omega
      · rw [b_or, b_shl1 (by omega), Bool.or_eq_true, decide_eq_true_eq, hb j hj]
        constructor
        · rintro (q | q)
          · exact ⟨by omega, q.2⟩
          · subst q
            have := of_decide_eq_true (bI_ne.mp h2)
            rw [c4] at this
            exact ⟨by omega, by rw [cp]; exact this⟩
        · rintro ⟨q1, q2⟩
          by_cases e : j = k
          · exact Or.inr e
          · exact Or.inl ⟨by omega, q2⟩
  exact main _ (fun _ _ _ _ _ _ _ _ _ _ _ _ _ _ _ _ _ _ _ _ _ _ _ _ _ _ _ _ h => h)
theorem c_Mo_contained (l : Launch) (D : va_G) (b : Nat → Nat) (cI cJ cZ : ClassId) (mki : Nat → Int32) (msz : Nat → Int64) (mle : Nat → Int32) (mel : Nat → Int32) (mme : Nat → Int32) (mal : Nat → Int32) (mic : Nat → Int32) (mil : Nat → Int32) (mio : Nat → Int32) (mab : Nat → Int32) (mae : Nat → Int32) (msa : Nat → Int32) (mlc : Nat → Int32) (mli : Nat → Int32) (mna : Nat → Int32) (mva : Nat → Int32) (mma : Nat → Int32) (mch : Nat → Int32) (mre : Nat → Int32) (mlv : Nat → Int32) (mwr : Nat → Int64) (msh : Nat → Int32) (mth : Int32) (mnv : Int32) (mns : Int32) (mfa : Int32) (mmo : Int32) (x : Int32) (y : Int32) (hpre : (∃ n0 m0 s0 v0 : Nat, mnv = nI n0 ∧ mns = nI m0 ∧ MSOK mki msz mle mel mme mic mio msa mlc mli mna mva n0 m0 ∧ (s0 < m0 ∧ v0 < n0 ∧ x = nI s0 ∧ y = nI v0) ∧ ¬ msa (s0 * 29 + 23) < 0)) : Wm (S := Int32) l y_Mo_contained b_Mo_contained 5 (some .int) 1 22 [.ref (b 0), .int x, .int y] D (tyA cI cJ cZ) (wM b cI cJ cZ mki msz mle mel mme mal mic mil mio mab mae msa mlc mli mna mva mma mch mre mlv mwr msh mth mnv mns mfa mmo) (fun uu => (∀ G : Sp, G = gM mki msz mle mel mme mal mic mil mio mab mae msa mlc mli mna mva mma mnv.toNatClampNeg → mki y.toNatClampNeg = 4 → ∀ i, i < 32 → (bt uu i = true ↔ MrkCo G x.toNatClampNeg y.toNatClampNeg i))) (fun uu => some (.int (uu))) (fun uu => (wM b cI cJ cZ mki msz mle mel mme mal mic mil mio mab mae msa mlc mli mna mva mma mch mre mlv mwr msh mth mnv mns mfa mmo)) :=
  wm_i (by decide) (fun _ _ => rfl) (Nat.le_of_ble_eq_true rfl) (fun p e s m below meth c ls Q A S hK hP hD hA hS hl hret => g_Mo_contained S (Nat.le_refl _) (Nat.le_refl _) ⟨Nat.le_refl _, Nat.le_refl _⟩ D b cI cJ cZ mki msz mle mel mme mal mic mil mio mab mae msa mlc mli mna mva mma mch mre mlv mwr msh mth mnv mns mfa mmo x y hK hP hD hA hS hl (v_Mo_contained mki msz mle mel mme mal mic mil mio mab mae msa mlc mli mna mva mma mch mre mlv mwr msh mth mnv mns mfa mmo x y hpre) (fun v mki' msz' mle' mel' mme' mal' mic' mil' mio' mab' mae' msa' mlc' mli' mna' mva' mma' mch' mre' mlv' mwr' msh' mth' mnv' mns' mfa' mmo' ls1 pc H1 locs1 hd hv hP1 hD1 hS1 => by obtain ⟨hp, rfl, rfl, rfl, rfl, rfl, rfl, rfl, rfl, rfl, rfl, rfl, rfl, rfl, rfl, rfl, rfl, rfl, rfl, rfl, rfl, rfl, rfl, rfl, rfl, rfl, rfl, rfl⟩ := hv; exact hret v _ ls1 pc H1 locs1 hd hp rfl hP1 hD1 hS1))
theorem hd_Mo_contained : y_Mo_contained.cls ≠ "java/lang/invoke/MethodHandle" ∧ y_Mo_contained.cls ≠ "java/lang/invoke/VarHandle" ∧ (parseMethodDescriptor y_Mo_contained.desc).map (fun d => d.parameters.length) = some 2 := ⟨by decide, by decide, by decide +kernel⟩
def V_Mo_turns (mki : Nat → Int32) (msz : Nat → Int64) (mle : Nat → Int32) (mel : Nat → Int32) (mme : Nat → Int32) (mal : Nat → Int32) (mic : Nat → Int32) (mil : Nat → Int32) (mio : Nat → Int32) (mab : Nat → Int32) (mae : Nat → Int32) (msa : Nat → Int32) (mlc : Nat → Int32) (mli : Nat → Int32) (mna : Nat → Int32) (mva : Nat → Int32) (mma : Nat → Int32) (mch : Nat → Int32) (mre : Nat → Int32) (mlv : Nat → Int32) (mwr : Nat → Int64) (msh : Nat → Int32) (mth : Int32) (mnv : Int32) (mns : Int32) (mfa : Int32) (mmo : Int32) (x : Int32) (y : Int32) (w : Int32) (post : Int32 → (Nat → Int32) → (Nat → Int64) → (Nat → Int32) → (Nat → Int32) → (Nat → Int32) → (Nat → Int32) → (Nat → Int32) → (Nat → Int32) → (Nat → Int32) → (Nat → Int32) → (Nat → Int32) → (Nat → Int32) → (Nat → Int32) → (Nat → Int32) → (Nat → Int32) → (Nat → Int32) → (Nat → Int32) → (Nat → Int32) → (Nat → Int32) → (Nat → Int32) → (Nat → Int64) → (Nat → Int32) → Int32 → Int32 → Int32 → Int32 → Int32 → Prop) : Prop :=
  (vp_in (29 * x + 18) 696 ∧ (((msa (29 * x + 18 : Int32).toNatClampNeg) < 0 → post 0 mki msz mle mel mme mal mic mil mio mab mae msa mlc mli mna mva mma mch mre mlv mwr msh mth mnv mns mfa mmo) ∧ (¬ (msa (29 * x + 18 : Int32).toNatClampNeg) < 0 → (vp_in (29 * x + 18) 696 ∧ ((vp_in (40 * (msa (29 * x + 18 : Int32).toNatClampNeg) + y) 960 ∧ (mva (40 * (msa (29 * x + 18 : Int32).toNatClampNeg) + y : Int32).toNatClampNeg = 0 ∨ mva (40 * (msa (29 * x + 18 : Int32).toNatClampNeg) + y : Int32).toNatClampNeg = 1)) ∧ (∃ J1 : Int32 → Prop, ((¬ w = 19 → J1 0) ∧ (w = 19 → J1 1)) ∧ (∀ (x2 : Int32), J1 x2 → ((¬ (bI (decide (¬ mva (40 * (msa (29 * x + 18 : Int32).toNatClampNeg) + y : Int32).toNatClampNeg = 0))) = x2 → post 0 mki msz mle mel mme mal mic mil mio mab mae msa mlc mli mna mva mma mch mre mlv mwr msh mth mnv mns mfa mmo) ∧ ((bI (decide (¬ mva (40 * (msa (29 * x + 18 : Int32).toNatClampNeg) + y : Int32).toNatClampNeg = 0))) = x2 → post 1 mki msz mle mel mme mal mic mil mio mab mae msa mlc mli mna mva mma mch mre mlv mwr msh mth mnv mns mfa mmo)))))))))
set_option maxHeartbeats 4000000 in
set_option maxRecDepth 100000 in
theorem g_Mo_turns {p : Program} {l : Launch} {e : Env} {R : Room} {s : State} {m : MethodId} {args : Array Value} {below : List Frame} {meth : Method} {c : Code} {H : Heap} {locs : List Loc} {cells slots : Nat} {Q : State → Prop} {ls : Array Slot} {A : Nat → Prop} (S : CallFix p m c b_Mo_turns 4 s args W0 R_Mo) (hRf : 1 ≤ R.frames) (hRl : 22 ≤ R.locals) (hRc : cells ≤ R.cells ∧ slots ≤ R.slots) (D : va_G) (b : Nat → Nat) (cI cJ cZ : ClassId) (mki : Nat → Int32) (msz : Nat → Int64) (mle : Nat → Int32) (mel : Nat → Int32) (mme : Nat → Int32) (mal : Nat → Int32) (mic : Nat → Int32) (mil : Nat → Int32) (mio : Nat → Int32) (mab : Nat → Int32) (mae : Nat → Int32) (msa : Nat → Int32) (mlc : Nat → Int32) (mli : Nat → Int32) (mna : Nat → Int32) (mva : Nat → Int32) (mma : Nat → Int32) (mch : Nat → Int32) (mre : Nat → Int32) (mlv : Nat → Int32) (mwr : Nat → Int64) (msh : Nat → Int32) (mth : Int32) (mnv : Int32) (mns : Int32) (mfa : Int32) (mmo : Int32) (x : Int32) (y : Int32) (w : Int32) (hK : va_K D vwCl (tyA cI cJ cZ) s) (hP : va_P D vwCl (wM b cI cJ cZ mki msz mle mel mme mal mic mil mio mab mae msa mlc mli mna mva mma mch mre mlv mwr msh mth mnv mns mfa mmo) H) (hD : va_D A (wM b cI cJ cZ mki msz mle mel mme mal mic mil mio mab mae msa mlc mli mna mva mma mch mre mlv mwr msh mth mnv mns mfa mmo)) (hA : ∀ q, s.heap.size ≤ q → A q) (hS : va_S A s.heap H locs) (hl : lv_has ls 4 [(0, .ref (b 0)), (1, .int x), (2, .int y), (3, .int w)]) {post : Int32 → (Nat → Int32) → (Nat → Int64) → (Nat → Int32) → (Nat → Int32) → (Nat → Int32) → (Nat → Int32) → (Nat → Int32) → (Nat → Int32) → (Nat → Int32) → (Nat → Int32) → (Nat → Int32) → (Nat → Int32) → (Nat → Int32) → (Nat → Int32) → (Nat → Int32) → (Nat → Int32) → (Nat → Int32) → (Nat → Int32) → (Nat → Int32) → (Nat → Int32) → (Nat → Int64) → (Nat → Int32) → Int32 → Int32 → Int32 → Int32 → Int32 → Prop} (vc : V_Mo_turns mki msz mle mel mme mal mic mil mio mab mae msa mlc mli mna mva mma mch mre mlv mwr msh mth mnv mns mfa mmo x y w post)
    (hret : ∀ (v : Int32) (mki : Nat → Int32) (msz : Nat → Int64) (mle : Nat → Int32) (mel : Nat → Int32) (mme : Nat → Int32) (mal : Nat → Int32) (mic : Nat → Int32) (mil : Nat → Int32) (mio : Nat → Int32) (mab : Nat → Int32) (mae : Nat → Int32) (msa : Nat → Int32) (mlc : Nat → Int32) (mli : Nat → Int32) (mna : Nat → Int32) (mva : Nat → Int32) (mma : Nat → Int32) (mch : Nat → Int32) (mre : Nat → Int32) (mlv : Nat → Int32) (mwr : Nat → Int64) (msh : Nat → Int32) (mth : Int32) (mnv : Int32) (mns : Int32) (mfa : Int32) (mmo : Int32) (ls : Array Slot) (pc : Nat) (H : Heap) (locs : List Loc), decode b_Mo_turns pc = .ok (.ireturn, 1) → post v mki msz mle mel mme mal mic mil mio mab mae msa mlc mli mna mva mma mch mre mlv mwr msh mth mnv mns mfa mmo → va_P D vwCl (wM b cI cJ cZ mki msz mle mel mme mal mic mil mio mab mae msa mlc mli mna mva mma mch mre mlv mwr msh mth mnv mns mfa mmo) H → va_D A (wM b cI cJ cZ mki msz mle mel mme mal mic mil mio mab mae msa mlc mli mna mva mma mch mre mlv mwr msh mth mnv mns mfa mmo) → va_S A s.heap H locs → W p l e R s m args below meth c H locs cells slots Q (F0 m pc ls [.int v])) : W p l e R s m args below meth c H locs cells slots Q (F0 m 0 ls []) := by
  have hx := S.1
  have hb := S.2.1
  have hown := S.2.2.2.1
  have hts := S.2.2.2.2
  unfold V_Mo_turns at vc
  refine lv_aload_n hx hb d_Mo_turns_0 rfl (lv_at hl 0 rfl) ?_
  refine lv_iload_n hx hb d_Mo_turns_1 rfl (lv_at hl 1 rfl) ?_
  refine lv_bipush (v := 18) hx hb d_Mo_turns_2 (by decide) ?_
  obtain ⟨hpre, vc⟩ := vc
  refine pc_V (As := [.int x, .int 18]) (rest := []) S (c_Mo_said l D b cI cJ cZ mki msz mle mel mme mal mic mil mio mab mae msa mlc mli mna mva mma mch mre mlv mwr msh mth mnv mns mfa mmo x 18 hpre) wB_blind k_Mo_said i_Mo_said e_Mo_said o_Mo ml_Mo_141 hd_Mo_said (Nat.le_trans (by decide) hRf) (Nat.le_trans (by decide) hRl) hRc (va_recv hK hP (q0 := 0) (ci := 6) rfl rfl) (wB_at hP hK) hl.1 rfl (Nat.le_of_ble_eq_true rfl) d_Mo_turns_4 ?_
  refine lv_if_lt (tgt := 40) hx hb d_Mo_turns_7 (by decide) (fun h => ?_) (fun h => ?_)
  · have vc := vc.1 h
    refine lv_iconst (v := 0) hx hb d_Mo_turns_40 (by decide) ?_
    exact hret _ _ _ _ _ _ _ _ _ _ _ _ _ _ _ _ _ _ _ _ _ _ _ _ _ _ _ _ ls _ H locs d_Mo_turns_41 vc hP hD hS
  · have vc := vc.2 h
    refine lv_aload_n hx hb d_Mo_turns_10 rfl (lv_at hl 0 rfl) ?_
    refine lv_aload_n hx hb d_Mo_turns_11 rfl (lv_at hl 0 rfl) ?_
    refine lv_iload_n hx hb d_Mo_turns_12 rfl (lv_at hl 1 rfl) ?_
    refine lv_bipush (v := 18) hx hb d_Mo_turns_13 (by decide) ?_
    obtain ⟨hpre, vc⟩ := vc
    refine pc_V (As := [.int x, .int 18]) (rest := [.ref (b 0)]) S (c_Mo_said l D b cI cJ cZ mki msz mle mel mme mal mic mil mio mab mae msa mlc mli mna mva mma mch mre mlv mwr msh mth mnv mns mfa mmo x 18 hpre) wB_blind k_Mo_said i_Mo_said e_Mo_said o_Mo ml_Mo_141 hd_Mo_said (Nat.le_trans (by decide) hRf) (Nat.le_trans (by decide) hRl) hRc (va_recv hK hP (q0 := 0) (ci := 6) rfl rfl) (wB_at hP hK) hl.1 rfl (Nat.le_of_ble_eq_true rfl) d_Mo_turns_15 ?_
    refine lv_iload_n hx hb d_Mo_turns_18 rfl (lv_at hl 2 rfl) ?_
    obtain ⟨hpre, vc⟩ := vc
    refine pc_V (As := [.int (msa (29 * x + 18 : Int32).toNatClampNeg), .int y]) (rest := []) S (c_Mo_isValid l D b cI cJ cZ mki msz mle mel mme mal mic mil mio mab mae msa mlc mli mna mva mma mch mre mlv mwr msh mth mnv mns mfa mmo (msa (29 * x + 18 : Int32).toNatClampNeg) y hpre) wB_blind k_Mo_isValid i_Mo_isValid e_Mo_isValid o_Mo ml_Mo_193 hd_Mo_isValid (Nat.le_trans (by decide) hRf) (Nat.le_trans (by decide) hRl) hRc (va_recv hK hP (q0 := 0) (ci := 6) rfl rfl) (wB_at hP hK) hl.1 rfl (Nat.le_of_ble_eq_true rfl) d_Mo_turns_19 ?_
    refine lv_iload_n hx hb d_Mo_turns_22 rfl (lv_at hl 3 rfl) ?_
    refine lv_bipush (v := 19) hx hb d_Mo_turns_23 (by decide) ?_
    obtain ⟨J1, vc, vc2⟩ := vc
    have jJ1 : ∀ (x2 : Int32) (ls : Array Slot) (H : Heap) (locs : List Loc), J1 x2 → lv_has ls 4 [(0, .ref (b 0)), (1, .int x), (2, .int y), (3, .int w)] → va_P D vwCl (wM b cI cJ cZ mki msz mle mel mme mal mic mil mio mab mae msa mlc mli mna mva mma mch mre mlv mwr msh mth mnv mns mfa mmo) H → va_D A (wM b cI cJ cZ mki msz mle mel mme mal mic mil mio mab mae msa mlc mli mna mva mma mch mre mlv mwr msh mth mnv mns mfa mmo) → va_S A s.heap H locs → W p l e R s m args below meth c H locs cells slots Q (F0 m 33 ls [.int x2, .int (bI (decide (¬ mva (40 * (msa (29 * x + 18 : Int32).toNatClampNeg) + y : Int32).toNatClampNeg = 0)))]) := by
      intro x2 ls H locs vc hl hP hD hS
      have vc := vc2 x2 vc
      refine lv_icmp_ne (tgt := 40) hx hb d_Mo_turns_33 (by decide) (fun h => ?_) (fun h => ?_)
      · have vc := vc.1 h
        refine lv_iconst (v := 0) hx hb d_Mo_turns_40 (by decide) ?_
        exact hret _ _ _ _ _ _ _ _ _ _ _ _ _ _ _ _ _ _ _ _ _ _ _ _ _ _ _ _ ls _ H locs d_Mo_turns_41 vc hP hD hS
      · have vc := vc.2 h
        refine lv_iconst (v := 1) hx hb d_Mo_turns_36 (by decide) ?_
        refine lv_goto (tgt := 41) hx hb d_Mo_turns_37 (by decide) ?_
        exact hret _ _ _ _ _ _ _ _ _ _ _ _ _ _ _ _ _ _ _ _ _ _ _ _ _ _ _ _ ls _ H locs d_Mo_turns_41 vc hP hD hS
    clear vc2
    refine lv_icmp_ne (tgt := 32) hx hb d_Mo_turns_25 (by decide) (fun h => ?_) (fun h => ?_)
    · have vc := vc.1 h
      refine lv_iconst (v := 0) hx hb d_Mo_turns_32 (by decide) ?_
      exact jJ1 0 ls H locs vc (lv_sub hl [0, 1, 2, 3] rfl) hP hD hS
    · have vc := vc.2 h
      refine lv_iconst (v := 1) hx hb d_Mo_turns_28 (by decide) ?_
      refine lv_goto (tgt := 33) hx hb d_Mo_turns_29 (by decide) ?_
      exact jJ1 1 ls H locs vc (lv_sub hl [0, 1, 2, 3] rfl) hP hD hS
set_option maxHeartbeats 4000000 in
theorem v_Mo_turns (mki : Nat → Int32) (msz : Nat → Int64) (mle : Nat → Int32) (mel : Nat → Int32) (mme : Nat → Int32) (mal : Nat → Int32) (mic : Nat → Int32) (mil : Nat → Int32) (mio : Nat → Int32) (mab : Nat → Int32) (mae : Nat → Int32) (msa : Nat → Int32) (mlc : Nat → Int32) (mli : Nat → Int32) (mna : Nat → Int32) (mva : Nat → Int32) (mma : Nat → Int32) (mch : Nat → Int32) (mre : Nat → Int32) (mlv : Nat → Int32) (mwr : Nat → Int64) (msh : Nat → Int32) (mth : Int32) (mnv : Int32) (mns : Int32) (mfa : Int32) (mmo : Int32) (x : Int32) (y : Int32) (w : Int32) (hpre : (∃ n0 m0 s0 v0 : Nat, mnv = nI n0 ∧ mns = nI m0 ∧ MSOK mki msz mle mel mme mic mio msa mlc mli mna mva n0 m0 ∧ (s0 < m0 ∧ v0 < n0 ∧ x = nI s0 ∧ y = nI v0) ∧ ∃ k0 : Nat, k0 < 36 ∧ w = nI k0)) : V_Mo_turns mki msz mle mel mme mal mic mil mio mab mae msa mlc mli mna mva mma mch mre mlv mwr msh mth mnv mns mfa mmo x y w (fun v mki' msz' mle' mel' mme' mal' mic' mil' mio' mab' mae' msa' mlc' mli' mna' mva' mma' mch' mre' mlv' mwr' msh' mth' mnv' mns' mfa' mmo' => ∃ rr : Bool, v = bI rr ∧ ((∀ G : Sp, G = gM mki msz mle mel mme mal mic mil mio mab mae msa mlc mli mna mva mma mnv.toNatClampNeg → (rr = true ↔ trn G x.toNatClampNeg y.toNatClampNeg w.toNatClampNeg))) ∧ mki' = mki ∧ msz' = msz ∧ mle' = mle ∧ mel' = mel ∧ mme' = mme ∧ mal' = mal ∧ mic' = mic ∧ mil' = mil ∧ mio' = mio ∧ mab' = mab ∧ mae' = mae ∧ msa' = msa ∧ mlc' = mlc ∧ mli' = mli ∧ mna' = mna ∧ mva' = mva ∧ mma' = mma ∧ mch' = mch ∧ mre' = mre ∧ mlv' = mlv ∧ mwr' = mwr ∧ msh' = msh ∧ mth' = mth ∧ mnv' = mnv ∧ mns' = mns ∧ mfa' = mfa ∧ mmo' = mmo) := by
  have main : ∀ post : Int32 → (Nat → Int32) → (Nat → Int64) → (Nat → Int32) → (Nat → Int32) → (Nat → Int32) → (Nat → Int32) → (Nat → Int32) → (Nat → Int32) → (Nat → Int32) → (Nat → Int32) → (Nat → Int32) → (Nat → Int32) → (Nat → Int32) → (Nat → Int32) → (Nat → Int32) → (Nat → Int32) → (Nat → Int32) → (Nat → Int32) → (Nat → Int32) → (Nat → Int32) → (Nat → Int64) → (Nat → Int32) → Int32 → Int32 → Int32 → Int32 → Int32 → Prop, (∀ v mki' msz' mle' mel' mme' mal' mic' mil' mio' mab' mae' msa' mlc' mli' mna' mva' mma' mch' mre' mlv' mwr' msh' mth' mnv' mns' mfa' mmo', (fun v mki' msz' mle' mel' mme' mal' mic' mil' mio' mab' mae' msa' mlc' mli' mna' mva' mma' mch' mre' mlv' mwr' msh' mth' mnv' mns' mfa' mmo' => ∃ rr : Bool, v = bI rr ∧ ((∀ G : Sp, G = gM mki msz mle mel mme mal mic mil mio mab mae msa mlc mli mna mva mma mnv.toNatClampNeg → (rr = true ↔ trn G x.toNatClampNeg y.toNatClampNeg w.toNatClampNeg))) ∧ mki' = mki ∧ msz' = msz ∧ mle' = mle ∧ mel' = mel ∧ mme' = mme ∧ mal' = mal ∧ mic' = mic ∧ mil' = mil ∧ mio' = mio ∧ mab' = mab ∧ mae' = mae ∧ msa' = msa ∧ mlc' = mlc ∧ mli' = mli ∧ mna' = mna ∧ mva' = mva ∧ mma' = mma ∧ mch' = mch ∧ mre' = mre ∧ mlv' = mlv ∧ mwr' = mwr ∧ msh' = msh ∧ mth' = mth ∧ mnv' = mnv ∧ mns' = mns ∧ mfa' = mfa ∧ mmo' = mmo) v mki' msz' mle' mel' mme' mal' mic' mil' mio' mab' mae' msa' mlc' mli' mna' mva' mma' mch' mre' mlv' mwr' msh' mth' mnv' mns' mfa' mmo' → post v mki' msz' mle' mel' mme' mal' mic' mil' mio' mab' mae' msa' mlc' mli' mna' mva' mma' mch' mre' mlv' mwr' msh' mth' mnv' mns' mfa' mmo') → V_Mo_turns mki msz mle mel mme mal mic mil mio mab mae msa mlc mli mna mva mma mch mre mlv mwr msh mth mnv mns mfa mmo x y w post := by
    intro post hpost
    unfold V_Mo_turns
    obtain ⟨n0, m0, s0, v0, hnv, hns, hS, ⟨hs, hv, rfl, rfl⟩, k0, hk, rfl⟩ := hpre
    have hm24 := hS.2.2.1
    have hn40 := hS.1.1
    have hs24 : s0 < 24 := by omega
    have hv40 : v0 < 40 := by omega
    have cs : (nI s0).toNatClampNeg = s0 := nI_clamp (by omega)
    have cv : (nI v0).toNatClampNeg = v0 := nI_clamp (by omega)
    have cn : mnv.toNatClampNeg = n0 := by rw [hnv]; exact nI_clamp (by omega)
    have hxv : vp_in (nI v0) 40 := vp_in_nI hv40 (by decide)
    obtain ⟨⟨kd, hkd, ekd⟩, ⟨L, hL, eL⟩, hpart, hmem, htxt⟩ := hS.1.2.2 v0 hv40
    have cL : (nI L).toNatClampNeg = L := nI_clamp (by omega)
    have hL8 : (mle v0).toNatClampNeg ≤ 8 := by rw [eL, cL]; exact hL
    have e18 : 29 * nI s0 + 18 = nI (s0 * 29 + 18) := jx29 (k := 18)
    have c18 : (nI (s0 * 29 + 18)).toNatClampNeg = s0 * 29 + 18 := nI_clamp (by omega)
    have ckk : (nI k0).toNatClampNeg = k0 := nI_clamp (by omega)
    have e19 : nI k0 = 19 ↔ k0 = 19 := nI_eqR (n := 19) (by decide) (by omega)
    simp only [cs, cv, cn, ckk, e18, c18, e19] at hpost ⊢
    have hi : vp_in (nI (s0 * 29 + 18)) 696 := vp_in_nI (by omega) (by decide)
    refine ⟨hi, fun h => (hpost _ _ _ _ _ _ _ _ _ _ _ _ _ _ _ _ _ _ _ _ _ _ _ _ _ _ _ _ ⟨false, rfl, fun G hG => ⟨fun q => absurd q (by decide), fun q => ?_⟩, rfl, rfl, rfl, rfl, rfl, rfl, rfl, rfl, rfl, rfl, rfl, rfl, rfl, rfl, rfl, rfl, rfl, rfl, rfl, rfl, rfl, rfl, rfl, rfl, rfl, rfl, rfl⟩), fun h => ?_⟩
    · have := q.1; unfold ruH at this; rw [(gM_eq hG).2.2.2.1] at this; exact absurd h this
    obtain ⟨x0, hx, ex⟩ := okx_nn ((hS.2.2.2.2.1 s0 hs24).1 18 (by decide) (by decide) (by decide) (by decide)) h
    rw [ex]
    have hva := va_ok hS (x := x0) (w := v0) (by omega) (by omega)
    have c4 := c40 (x := x0) (w := v0) (by omega) (by omega)
    refine ⟨hi, hva, jb_f ?_⟩
    rw [c4]
    have key : ∀ G : Sp, G = gM mki msz mle mel mme mal mic mil mio mab mae msa mlc mli mna mva mma n0 → (trn G s0 v0 k0 ↔ (decide (¬ mva (40 * x0 + v0) = 0) = decide (k0 = 19))) := fun G hG => by
      obtain ⟨gk, gpb, gpt, gru, _, _, _, _, gva, _⟩ := gM_eq hG
      have hrH : ruH G s0 18 := by unfold ruH; rw [gru, ex]; exact nI_pos (by omega)
      have hrV : ruV G s0 18 = x0 := by unfold ruV; rw [gru, ex]; exact nI_clamp (by omega)
      unfold trn
      rw [hrV, gva]
      constructor
      · rintro ⟨_, q⟩; exact decide_eq_decide.mpr q
      · intro q; exact ⟨hrH, decide_eq_decide.mp q⟩
    have bIe : ∀ b c : Bool, bI b = bI c ↔ b = c := by decide
    rw [bIe]
    exact ⟨fun h2 => (hpost _ _ _ _ _ _ _ _ _ _ _ _ _ _ _ _ _ _ _ _ _ _ _ _ _ _ _ _ ⟨false, rfl, fun G hG => ⟨fun q => absurd q (by decide), fun q => absurd ((key G hG).mp q) h2⟩, rfl, rfl, rfl, rfl, rfl, rfl, rfl, rfl, rfl, rfl, rfl, rfl, rfl, rfl, rfl, rfl, rfl, rfl, rfl, rfl, rfl, rfl, rfl, rfl, rfl, rfl, rfl⟩), fun h2 => (hpost _ _ _ _ _ _ _ _ _ _ _ _ _ _ _ _ _ _ _ _ _ _ _ _ _ _ _ _ ⟨true, rfl, fun G hG => ⟨fun _ => (key G hG).mpr h2, fun _ => rfl⟩, rfl, rfl, rfl, rfl, rfl, rfl, rfl, rfl, rfl, rfl, rfl, rfl, rfl, rfl, rfl, rfl, rfl, rfl, rfl, rfl, rfl, rfl, rfl, rfl, rfl, rfl, rfl⟩)⟩
  exact main _ (fun _ _ _ _ _ _ _ _ _ _ _ _ _ _ _ _ _ _ _ _ _ _ _ _ _ _ _ _ h => h)
theorem c_Mo_turns (l : Launch) (D : va_G) (b : Nat → Nat) (cI cJ cZ : ClassId) (mki : Nat → Int32) (msz : Nat → Int64) (mle : Nat → Int32) (mel : Nat → Int32) (mme : Nat → Int32) (mal : Nat → Int32) (mic : Nat → Int32) (mil : Nat → Int32) (mio : Nat → Int32) (mab : Nat → Int32) (mae : Nat → Int32) (msa : Nat → Int32) (mlc : Nat → Int32) (mli : Nat → Int32) (mna : Nat → Int32) (mva : Nat → Int32) (mma : Nat → Int32) (mch : Nat → Int32) (mre : Nat → Int32) (mlv : Nat → Int32) (mwr : Nat → Int64) (msh : Nat → Int32) (mth : Int32) (mnv : Int32) (mns : Int32) (mfa : Int32) (mmo : Int32) (x : Int32) (y : Int32) (w : Int32) (hpre : (∃ n0 m0 s0 v0 : Nat, mnv = nI n0 ∧ mns = nI m0 ∧ MSOK mki msz mle mel mme mic mio msa mlc mli mna mva n0 m0 ∧ (s0 < m0 ∧ v0 < n0 ∧ x = nI s0 ∧ y = nI v0) ∧ ∃ k0 : Nat, k0 < 36 ∧ w = nI k0)) : Wm (S := Bool) l y_Mo_turns b_Mo_turns 4 (some .boolean) 1 22 [.ref (b 0), .int x, .int y, .int w] D (tyA cI cJ cZ) (wM b cI cJ cZ mki msz mle mel mme mal mic mil mio mab mae msa mlc mli mna mva mma mch mre mlv mwr msh mth mnv mns mfa mmo) (fun uu => (∀ G : Sp, G = gM mki msz mle mel mme mal mic mil mio mab mae msa mlc mli mna mva mma mnv.toNatClampNeg → (uu = true ↔ trn G x.toNatClampNeg y.toNatClampNeg w.toNatClampNeg))) (fun uu => some (.int (bI uu))) (fun uu => (wM b cI cJ cZ mki msz mle mel mme mal mic mil mio mab mae msa mlc mli mna mva mma mch mre mlv mwr msh mth mnv mns mfa mmo)) :=
  wm_i (by decide) (fun _ _ => bI_nar _) (Nat.le_of_ble_eq_true rfl) (fun p e s m below meth c ls Q A S hK hP hD hA hS hl hret => g_Mo_turns S (Nat.le_refl _) (Nat.le_refl _) ⟨Nat.le_refl _, Nat.le_refl _⟩ D b cI cJ cZ mki msz mle mel mme mal mic mil mio mab mae msa mlc mli mna mva mma mch mre mlv mwr msh mth mnv mns mfa mmo x y w hK hP hD hA hS hl (v_Mo_turns mki msz mle mel mme mal mic mil mio mab mae msa mlc mli mna mva mma mch mre mlv mwr msh mth mnv mns mfa mmo x y w hpre) (fun v mki' msz' mle' mel' mme' mal' mic' mil' mio' mab' mae' msa' mlc' mli' mna' mva' mma' mch' mre' mlv' mwr' msh' mth' mnv' mns' mfa' mmo' ls1 pc H1 locs1 hd hv hP1 hD1 hS1 => by obtain ⟨rr, rfl, hp, rfl, rfl, rfl, rfl, rfl, rfl, rfl, rfl, rfl, rfl, rfl, rfl, rfl, rfl, rfl, rfl, rfl, rfl, rfl, rfl, rfl, rfl, rfl, rfl, rfl, rfl, rfl⟩ := hv; exact hret rr _ ls1 pc H1 locs1 hd hp rfl hP1 hD1 hS1))
theorem hd_Mo_turns : y_Mo_turns.cls ≠ "java/lang/invoke/MethodHandle" ∧ y_Mo_turns.cls ≠ "java/lang/invoke/VarHandle" ∧ (parseMethodDescriptor y_Mo_turns.desc).map (fun d => d.parameters.length) = some 3 := ⟨by decide, by decide, by decide +kernel⟩
def V_Mo_additional (mki : Nat → Int32) (msz : Nat → Int64) (mle : Nat → Int32) (mel : Nat → Int32) (mme : Nat → Int32) (mal : Nat → Int32) (mic : Nat → Int32) (mil : Nat → Int32) (mio : Nat → Int32) (mab : Nat → Int32) (mae : Nat → Int32) (msa : Nat → Int32) (mlc : Nat → Int32) (mli : Nat → Int32) (mna : Nat → Int32) (mva : Nat → Int32) (mma : Nat → Int32) (mch : Nat → Int32) (mre : Nat → Int32) (mlv : Nat → Int32) (mwr : Nat → Int64) (msh : Nat → Int32) (mth : Int32) (mnv : Int32) (mns : Int32) (mfa : Int32) (mmo : Int32) (x : Int32) (y : Int32) (post : Int32 → (Nat → Int32) → (Nat → Int64) → (Nat → Int32) → (Nat → Int32) → (Nat → Int32) → (Nat → Int32) → (Nat → Int32) → (Nat → Int32) → (Nat → Int32) → (Nat → Int32) → (Nat → Int32) → (Nat → Int32) → (Nat → Int32) → (Nat → Int32) → (Nat → Int32) → (Nat → Int32) → (Nat → Int32) → (Nat → Int32) → (Nat → Int32) → (Nat → Int32) → (Nat → Int64) → (Nat → Int32) → Int32 → Int32 → Int32 → Int32 → Int32 → Prop) : Prop :=
  (vp_in y 40 ∧ (∀ (x1 : Int32), ((∀ i, i < 32 → (bt x1 i = true ↔ i < 12 ∧ mki y.toNatClampNeg = 5 ∧ ¬ mme (12 * y.toNatClampNeg + i) < 0))) → (∃ (I5 : Int32 → Int32 → Prop) (mI5 : Int32 → Int32 → Nat), I5 x1 0 ∧ (∀ (x3 : Int32) (x4 : Int32), I5 x3 x4 → ((12 ≤ x4 → post x3 mki msz mle mel mme mal mic mil mio mab mae msa mlc mli mna mva mma mch mre mlv mwr msh mth mnv mns mfa mmo) ∧ (¬ 12 ≤ x4 → (vp_in (36 * x + 12 * (33 - 33) + x4) 864 ∧ (((mna (36 * x + 12 * (33 - 33) + x4 : Int32).toNatClampNeg) < 0 → (I5 x3 (x4 + 1) ∧ mI5 x3 (x4 + 1) < mI5 x3 x4)) ∧ (¬ (mna (36 * x + 12 * (33 - 33) + x4 : Int32).toNatClampNeg) < 0 → (I5 (x3 &&& ((1 <<< (x4 &&& 31)) ^^^ (-1))) (x4 + 1) ∧ mI5 (x3 &&& ((1 <<< (x4 &&& 31)) ^^^ (-1))) (x4 + 1) < mI5 x3 x4))))))))))
set_option maxHeartbeats 4000000 in
set_option maxRecDepth 100000 in
theorem g_Mo_additional {p : Program} {l : Launch} {e : Env} {R : Room} {s : State} {m : MethodId} {args : Array Value} {below : List Frame} {meth : Method} {c : Code} {H : Heap} {locs : List Loc} {cells slots : Nat} {Q : State → Prop} {ls : Array Slot} {A : Nat → Prop} (S : CallFix p m c b_Mo_additional 5 s args W0 R_Mo) (hRf : 2 ≤ R.frames) (hRl : 45 ≤ R.locals) (hRc : cells ≤ R.cells ∧ slots ≤ R.slots) (D : va_G) (b : Nat → Nat) (cI cJ cZ : ClassId) (mki : Nat → Int32) (msz : Nat → Int64) (mle : Nat → Int32) (mel : Nat → Int32) (mme : Nat → Int32) (mal : Nat → Int32) (mic : Nat → Int32) (mil : Nat → Int32) (mio : Nat → Int32) (mab : Nat → Int32) (mae : Nat → Int32) (msa : Nat → Int32) (mlc : Nat → Int32) (mli : Nat → Int32) (mna : Nat → Int32) (mva : Nat → Int32) (mma : Nat → Int32) (mch : Nat → Int32) (mre : Nat → Int32) (mlv : Nat → Int32) (mwr : Nat → Int64) (msh : Nat → Int32) (mth : Int32) (mnv : Int32) (mns : Int32) (mfa : Int32) (mmo : Int32) (x : Int32) (y : Int32) (hK : va_K D vwCl (tyA cI cJ cZ) s) (hP : va_P D vwCl (wM b cI cJ cZ mki msz mle mel mme mal mic mil mio mab mae msa mlc mli mna mva mma mch mre mlv mwr msh mth mnv mns mfa mmo) H) (hD : va_D A (wM b cI cJ cZ mki msz mle mel mme mal mic mil mio mab mae msa mlc mli mna mva mma mch mre mlv mwr msh mth mnv mns mfa mmo)) (hA : ∀ q, s.heap.size ≤ q → A q) (hS : va_S A s.heap H locs) (hl : lv_has ls 5 [(0, .ref (b 0)), (1, .int x), (2, .int y)]) {post : Int32 → (Nat → Int32) → (Nat → Int64) → (Nat → Int32) → (Nat → Int32) → (Nat → Int32) → (Nat → Int32) → (Nat → Int32) → (Nat → Int32) → (Nat → Int32) → (Nat → Int32) → (Nat → Int32) → (Nat → Int32) → (Nat → Int32) → (Nat → Int32) → (Nat → Int32) → (Nat → Int32) → (Nat → Int32) → (Nat → Int32) → (Nat → Int32) → (Nat → Int32) → (Nat → Int64) → (Nat → Int32) → Int32 → Int32 → Int32 → Int32 → Int32 → Prop} (vc : V_Mo_additional mki msz mle mel mme mal mic mil mio mab mae msa mlc mli mna mva mma mch mre mlv mwr msh mth mnv mns mfa mmo x y post)
    (hret : ∀ (v : Int32) (mki : Nat → Int32) (msz : Nat → Int64) (mle : Nat → Int32) (mel : Nat → Int32) (mme : Nat → Int32) (mal : Nat → Int32) (mic : Nat → Int32) (mil : Nat → Int32) (mio : Nat → Int32) (mab : Nat → Int32) (mae : Nat → Int32) (msa : Nat → Int32) (mlc : Nat → Int32) (mli : Nat → Int32) (mna : Nat → Int32) (mva : Nat → Int32) (mma : Nat → Int32) (mch : Nat → Int32) (mre : Nat → Int32) (mlv : Nat → Int32) (mwr : Nat → Int64) (msh : Nat → Int32) (mth : Int32) (mnv : Int32) (mns : Int32) (mfa : Int32) (mmo : Int32) (ls : Array Slot) (pc : Nat) (H : Heap) (locs : List Loc), decode b_Mo_additional pc = .ok (.ireturn, 1) → post v mki msz mle mel mme mal mic mil mio mab mae msa mlc mli mna mva mma mch mre mlv mwr msh mth mnv mns mfa mmo → va_P D vwCl (wM b cI cJ cZ mki msz mle mel mme mal mic mil mio mab mae msa mlc mli mna mva mma mch mre mlv mwr msh mth mnv mns mfa mmo) H → va_D A (wM b cI cJ cZ mki msz mle mel mme mal mic mil mio mab mae msa mlc mli mna mva mma mch mre mlv mwr msh mth mnv mns mfa mmo) → va_S A s.heap H locs → W p l e R s m args below meth c H locs cells slots Q (F0 m pc ls [.int v])) : W p l e R s m args below meth c H locs cells slots Q (F0 m 0 ls []) := by
  have hx := S.1
  have hb := S.2.1
  have hown := S.2.2.2.1
  have hts := S.2.2.2.2
  unfold V_Mo_additional at vc
  refine lv_aload_n hx hb d_Mo_additional_0 rfl (lv_at hl 0 rfl) ?_
  refine lv_iload_n hx hb d_Mo_additional_1 rfl (lv_at hl 2 rfl) ?_
  obtain ⟨hpre, vc⟩ := vc
  refine wc_V (As := [.int y]) (rest := []) (wr := ([] : va_W)) S (c_Mo_memberBits l D b cI cJ cZ mki msz mle mel mme mal mic mil mio mab mae msa mlc mli mna mva mma mch mre mlv mwr msh mth mnv mns mfa mmo y hpre) k_Mo_memberBits i_Mo_memberBits e_Mo_memberBits o_Mo ml_Mo_187 hd_Mo_memberBits (Nat.le_trans (by decide) hRf) (Nat.le_trans (by decide) hRl) hRc (va_recv hK hP (q0 := 0) (ci := 6) rfl rfl) hK hP hD hS hA [0, 1, 2, 3, 4, 5, 6, 7, 8, 9, 10, 11, 12, 13, 14, 15, 16, 17, 18, 19, 20, 21, 22] [] rfl rfl rfl (by decide) (by decide) (by decide) hl.1 rfl (Nat.le_of_ble_eq_true rfl) d_Mo_additional_2 (fun x1 H locs hu hP hD hS => ?_)
  have vc := vc x1 hu
  clear hu
  have hP : va_P D vwCl (wM b cI cJ cZ mki msz mle mel mme mal mic mil mio mab mae msa mlc mli mna mva mma mch mre mlv mwr msh mth mnv mns mfa mmo) H := hP
  have hD : va_D A (wM b cI cJ cZ mki msz mle mel mme mal mic mil mio mab mae msa mlc mli mna mva mma mch mre mlv mwr msh mth mnv mns mfa mmo) := hD
  refine lv_istore_n hx hb d_Mo_additional_5 rfl hl (by decide) (lv' := [(3, .int x1), (0, .ref (b 0)), (1, .int x), (2, .int y)]) rfl (fun ls hl => ?_)
  refine lv_iconst (v := 0) hx hb d_Mo_additional_6 (by decide) ?_
  refine lv_istore hx hb d_Mo_additional_7 hl (by decide) (lv' := [(4, .int 0), (3, .int x1), (0, .ref (b 0)), (1, .int x), (2, .int y)]) rfl (fun ls hl => ?_)
  obtain ⟨I5, mI5, vc0, vcs⟩ := vc
  have lI5 : ∀ n : Nat, ∀ (x3 : Int32) (x4 : Int32) (ls : Array Slot) (H : Heap) (locs : List Loc), I5 x3 x4 → mI5 x3 x4 < n → lv_has ls 5 [(0, .ref (b 0)), (1, .int x), (2, .int y), (3, .int x3), (4, .int x4)] → va_P D vwCl (wM b cI cJ cZ mki msz mle mel mme mal mic mil mio mab mae msa mlc mli mna mva mma mch mre mlv mwr msh mth mnv mns mfa mmo) H → va_D A (wM b cI cJ cZ mki msz mle mel mme mal mic mil mio mab mae msa mlc mli mna mva mma mch mre mlv mwr msh mth mnv mns mfa mmo) → va_S A s.heap H locs → W p l e R s m args below meth c H locs cells slots Q (F0 m 9 ls []) := by
    intro n
    induction n with
    | zero => intro x3 x4 ls H locs _ h; exact absurd h (Nat.not_lt_zero _)
    | succ n ihI5 =>
      intro x3 x4 ls H locs vc hmI5 hl hP hD hS
      have vc := vcs x3 x4 vc
      refine lv_iload hx hb d_Mo_additional_9 (lv_at hl 4 rfl) ?_
      refine lv_bipush (v := 12) hx hb d_Mo_additional_11 (by decide) ?_
      refine lv_icmp_ge (tgt := 47) hx hb d_Mo_additional_13 (by decide) (fun h => ?_) (fun h => ?_)
      · have vc := vc.1 h
        refine lv_iload_n hx hb d_Mo_additional_47 rfl (lv_at hl 3 rfl) ?_
        exact hret _ _ _ _ _ _ _ _ _ _ _ _ _ _ _ _ _ _ _ _ _ _ _ _ _ _ _ _ ls _ H locs d_Mo_additional_48 vc hP hD hS
      · have vc := vc.2 h
        refine lv_aload_n hx hb d_Mo_additional_16 rfl (lv_at hl 0 rfl) ?_
        refine lv_iload_n hx hb d_Mo_additional_17 rfl (lv_at hl 1 rfl) ?_
        refine lv_bipush (v := 33) hx hb d_Mo_additional_18 (by decide) ?_
        refine lv_iload hx hb d_Mo_additional_20 (lv_at hl 4 rfl) ?_
        obtain ⟨hpre, vc⟩ := vc
        refine pc_V (As := [.int x, .int 33, .int x4]) (rest := []) S (c_Mo_byName l D b cI cJ cZ mki msz mle mel mme mal mic mil mio mab mae msa mlc mli mna mva mma mch mre mlv mwr msh mth mnv mns mfa mmo x 33 x4 hpre) wB_blind k_Mo_byName i_Mo_byName e_Mo_byName o_Mo ml_Mo_154 hd_Mo_byName (Nat.le_trans (by decide) hRf) (Nat.le_trans (by decide) hRl) hRc (va_recv hK hP (q0 := 0) (ci := 6) rfl rfl) (wB_at hP hK) hl.1 rfl (Nat.le_of_ble_eq_true rfl) d_Mo_additional_22 ?_
        refine lv_if_lt (tgt := 39) hx hb d_Mo_additional_25 (by decide) (fun h => ?_) (fun h => ?_)
        · have vc := vc.1 h
          refine lv_iload_n hx hb d_Mo_additional_39 rfl (lv_at hl 3 rfl) ?_
          refine lv_istore_n hx hb d_Mo_additional_40 rfl hl (by decide) (lv' := [(3, .int x3), (0, .ref (b 0)), (1, .int x), (2, .int y), (4, .int x4)]) rfl (fun ls hl => ?_)
          refine lv_iinc (k := 4) (v := x4 + 1) hx hb d_Mo_additional_41 hl rfl rfl (by decide) (lv' := [(4, .int (x4 + 1)), (3, .int x3), (0, .ref (b 0)), (1, .int x), (2, .int y)]) rfl (fun ls hl => ?_)
          refine lv_goto (tgt := 9) hx hb d_Mo_additional_44 (by decide) ?_
          exact ihI5 x3 (x4 + 1) ls H locs vc.1 (Nat.lt_of_lt_of_le vc.2 (Nat.le_of_lt_succ hmI5)) (lv_sub hl [2, 3, 4, 1, 0] rfl) hP hD hS
        · have vc := vc.2 h
          refine lv_iload_n hx hb d_Mo_additional_28 rfl (lv_at hl 3 rfl) ?_
          refine lv_iconst (v := 1) hx hb d_Mo_additional_29 (by decide) ?_
          refine lv_iload hx hb d_Mo_additional_30 (lv_at hl 4 rfl) ?_
          refine lv_ishl hx hb d_Mo_additional_32 ?_
          refine lv_iconst (v := (-1)) hx hb d_Mo_additional_33 (by decide) ?_
          refine lv_ixor hx hb d_Mo_additional_34 ?_
          refine lv_iand hx hb d_Mo_additional_35 ?_
          refine lv_goto (tgt := 40) hx hb d_Mo_additional_36 (by decide) ?_
          refine lv_istore_n hx hb d_Mo_additional_40 rfl hl (by decide) (lv' := [(3, .int (x3 &&& ((1 <<< (x4 &&& 31)) ^^^ (-1)))), (0, .ref (b 0)), (1, .int x), (2, .int y), (4, .int x4)]) rfl (fun ls hl => ?_)
          refine lv_iinc (k := 4) (v := x4 + 1) hx hb d_Mo_additional_41 hl rfl rfl (by decide) (lv' := [(4, .int (x4 + 1)), (3, .int (x3 &&& ((1 <<< (x4 &&& 31)) ^^^ (-1)))), (0, .ref (b 0)), (1, .int x), (2, .int y)]) rfl (fun ls hl => ?_)
          refine lv_goto (tgt := 9) hx hb d_Mo_additional_44 (by decide) ?_
          exact ihI5 (x3 &&& ((1 <<< (x4 &&& 31)) ^^^ (-1))) (x4 + 1) ls H locs vc.1 (Nat.lt_of_lt_of_le vc.2 (Nat.le_of_lt_succ hmI5)) (lv_sub hl [2, 3, 4, 1, 0] rfl) hP hD hS
  exact lI5 _ x1 0 ls H locs vc0 (Nat.lt_succ_self _) (lv_sub hl [2, 3, 4, 1, 0] rfl) hP hD hS
set_option maxHeartbeats 4000000 in
theorem v_Mo_additional (mki : Nat → Int32) (msz : Nat → Int64) (mle : Nat → Int32) (mel : Nat → Int32) (mme : Nat → Int32) (mal : Nat → Int32) (mic : Nat → Int32) (mil : Nat → Int32) (mio : Nat → Int32) (mab : Nat → Int32) (mae : Nat → Int32) (msa : Nat → Int32) (mlc : Nat → Int32) (mli : Nat → Int32) (mna : Nat → Int32) (mva : Nat → Int32) (mma : Nat → Int32) (mch : Nat → Int32) (mre : Nat → Int32) (mlv : Nat → Int32) (mwr : Nat → Int64) (msh : Nat → Int32) (mth : Int32) (mnv : Int32) (mns : Int32) (mfa : Int32) (mmo : Int32) (x : Int32) (y : Int32) (hpre : (∃ n0 m0 s0 v0 : Nat, mnv = nI n0 ∧ mns = nI m0 ∧ MSOK mki msz mle mel mme mic mio msa mlc mli mna mva n0 m0 ∧ s0 < m0 ∧ v0 < n0 ∧ x = nI s0 ∧ y = nI v0)) : V_Mo_additional mki msz mle mel mme mal mic mil mio mab mae msa mlc mli mna mva mma mch mre mlv mwr msh mth mnv mns mfa mmo x y (fun v mki' msz' mle' mel' mme' mal' mic' mil' mio' mab' mae' msa' mlc' mli' mna' mva' mma' mch' mre' mlv' mwr' msh' mth' mnv' mns' mfa' mmo' => ((∀ i, i < 32 → (bt v i = true ↔ i < 12 ∧ mki y.toNatClampNeg = 5 ∧ ¬ mme (12 * y.toNatClampNeg + i) < 0 ∧ mna ((x.toNatClampNeg * 3 + 0) * 12 + i) < 0))) ∧ mki' = mki ∧ msz' = msz ∧ mle' = mle ∧ mel' = mel ∧ mme' = mme ∧ mal' = mal ∧ mic' = mic ∧ mil' = mil ∧ mio' = mio ∧ mab' = mab ∧ mae' = mae ∧ msa' = msa ∧ mlc' = mlc ∧ mli' = mli ∧ mna' = mna ∧ mva' = mva ∧ mma' = mma ∧ mch' = mch ∧ mre' = mre ∧ mlv' = mlv ∧ mwr' = mwr ∧ msh' = msh ∧ mth' = mth ∧ mnv' = mnv ∧ mns' = mns ∧ mfa' = mfa ∧ mmo' = mmo) := by
  have main : ∀ post : Int32 → (Nat → Int32) → (Nat → Int64) → (Nat → Int32) → (Nat → Int32) → (Nat → Int32) → (Nat → Int32) → (Nat → Int32) → (Nat → Int32) → (Nat → Int32) → (Nat → Int32) → (Nat → Int32) → (Nat → Int32) → (Nat → Int32) → (Nat → Int32) → (Nat → Int32) → (Nat → Int32) → (Nat → Int32) → (Nat → Int32) → (Nat → Int32) → (Nat → Int32) → (Nat → Int64) → (Nat → Int32) → Int32 → Int32 → Int32 → Int32 → Int32 → Prop, (∀ v mki' msz' mle' mel' mme' mal' mic' mil' mio' mab' mae' msa' mlc' mli' mna' mva' mma' mch' mre' mlv' mwr' msh' mth' mnv' mns' mfa' mmo', (fun v mki' msz' mle' mel' mme' mal' mic' mil' mio' mab' mae' msa' mlc' mli' mna' mva' mma' mch' mre' mlv' mwr' msh' mth' mnv' mns' mfa' mmo' => ((∀ i, i < 32 → (bt v i = true ↔ i < 12 ∧ mki y.toNatClampNeg = 5 ∧ ¬ mme (12 * y.toNatClampNeg + i) < 0 ∧ mna ((x.toNatClampNeg * 3 + 0) * 12 + i) < 0))) ∧ mki' = mki ∧ msz' = msz ∧ mle' = mle ∧ mel' = mel ∧ mme' = mme ∧ mal' = mal ∧ mic' = mic ∧ mil' = mil ∧ mio' = mio ∧ mab' = mab ∧ mae' = mae ∧ msa' = msa ∧ mlc' = mlc ∧ mli' = mli ∧ mna' = mna ∧ mva' = mva ∧ mma' = mma ∧ mch' = mch ∧ mre' = mre ∧ mlv' = mlv ∧ mwr' = mwr ∧ msh' = msh ∧ mth' = mth ∧ mnv' = mnv ∧ mns' = mns ∧ mfa' = mfa ∧ mmo' = mmo) v mki' msz' mle' mel' mme' mal' mic' mil' mio' mab' mae' msa' mlc' mli' mna' mva' mma' mch' mre' mlv' mwr' msh' mth' mnv' mns' mfa' mmo' → post v mki' msz' mle' mel' mme' mal' mic' mil' mio' mab' mae' msa' mlc' mli' mna' mva' mma' mch' mre' mlv' mwr' msh' mth' mnv' mns' mfa' mmo') → V_Mo_additional mki msz mle mel mme mal mic mil mio mab mae msa mlc mli mna mva mma mch mre mlv mwr msh mth mnv mns mfa mmo x y post := by
    intro post hpost
    unfold V_Mo_additional
    obtain ⟨n0, m0, s0, v0, hnv, hns, hS, hs, hv, rfl, rfl⟩ := hpre
    have hm24 := hS.2.2.1
    have hn40 := hS.1.1
    have hs24 : s0 < 24 := by omega
    have hv40 : v0 < 40 := by omega
    have cs : (nI s0).toNatClampNeg = s0 := nI_clamp (by omega)
    have cv : (nI v0).toNatClampNeg = v0 := nI_clamp (by omega)
    have cn : mnv.toNatClampNeg = n0 := by rw [hnv]; exact nI_clamp (by omega)
    have hxv : vp_in (nI v0) 40 := vp_in_nI hv40 (by decide)
    obtain ⟨⟨kd, hkd, ekd⟩, ⟨L, hL, eL⟩, hpart, hmem, htxt⟩ := hS.1.2.2 v0 hv40
    have cL : (nI L).toNatClampNeg = L := nI_clamp (by omega)
    have hL8 : (mle v0).toNatClampNeg ≤ 8 := by rw [eL, cL]; exact hL
    simp only [cs, cv, cn] at hpost ⊢
    refine ⟨hxv, fun b hb => ⟨fun z xi => ∃ k, k ≤ 12 ∧ xi = nI k ∧ ∀ j, j < 32 → (bt z j = true ↔ j < 12 ∧ mki v0 = 5 ∧ ¬ mme (12 * v0 + j) < 0 ∧ (j < k → mna ((s0 * 3 + 0) * 12 + j) < 0)), fun _ xi => 12 - xi.toInt.toNat, ⟨0, Nat.zero_le _, rfl, fun j hj => by rw [hb j hj]; exact ⟨fun q => ⟨q.1, q.2.1, q.2.2, fun w => absurd w (Nat.not_lt_zero _)⟩, fun q => ⟨q.1, q.2.1, q.2.2.1⟩⟩⟩, ?_⟩⟩
    rintro z xi ⟨k, hk, rfl, hz⟩
    refine ⟨fun h => ?_, fun h => ?_⟩
    · obtain rfl := fill_end (N := 12) h (by decide) hk
      exact (hpost _ _ _ _ _ _ _ _ _ _ _ _ _ _ _ _ _ _ _ _ _ _ _ _ _ _ _ _ ⟨fun j hj => by rw [hz j hj]; exact ⟨fun q => ⟨q.1, q.2.1, q.2.2.1, q.2.2.2 q.1⟩, fun q => ⟨q.1, q.2.1, q.2.2.1, fun _ => q.2.2.2⟩⟩, rfl, rfl, rfl, rfl, rfl, rfl, rfl, rfl, rfl, rfl, rfl, rfl, rfl, rfl, rfl, rfl, rfl, rfl, rfl, rfl, rfl, rfl, rfl, rfl, rfl, rfl, rfl⟩)
    · have hk2 := fill_step (N := 12) h (by decide) hk
      have mu := fill_mu (N := 12) hk2 (by decide)
      have cc : (nI ((s0 * 3 + 0) * 12 + k)).toNatClampNeg = (s0 * 3 + 0) * 12 + k := nI_clamp (by omega)
      rw [jx36, cc]
      refine ⟨vp_in_nI (by omega) (by decide), fun h2 => ⟨⟨k + 1, hk2, nI_1 k, fun j hj => ?_⟩, mu⟩, fun h2 => ⟨⟨k + 1, hk2, nI_1 k, fun j hj => ?_⟩, mu⟩⟩
      · rw [hz j hj]
        refine ⟨fun q => ⟨q.1, q.2.1, q.2.2.1, fun w => ?_⟩, fun q => ⟨q.1, q.2.1, q.2.2.1, fun w => q.2.2.2 (by omega)⟩⟩
        by_cases e : j = k
        · subst e; exact h2
        · exact q.2.2.2 (by omega)
      · rw [b_and, b_inv _ hj, b_shl1 (by omega), Bool.and_eq_true, hz j hj]
        constructor
        · rintro ⟨q, q2⟩
          refine ⟨q.1, q.2.1, q.2.2.1, fun w => ?_⟩
          by_cases e : j = k
          · subst e; simp at q2
          · exact q.2.2.2 (by omega)
        · rintro ⟨q1, q2, q3, q4⟩
          refine ⟨⟨q1, q2, q3, fun w => q4 (by omega)⟩, ?_⟩
          by_cases e : j = k
          · subst e; exact absurd (q4 (by omega)) h2
          · simp [e]
  exact main _ (fun _ _ _ _ _ _ _ _ _ _ _ _ _ _ _ _ _ _ _ _ _ _ _ _ _ _ _ _ h => h)
theorem c_Mo_additional (l : Launch) (D : va_G) (b : Nat → Nat) (cI cJ cZ : ClassId) (mki : Nat → Int32) (msz : Nat → Int64) (mle : Nat → Int32) (mel : Nat → Int32) (mme : Nat → Int32) (mal : Nat → Int32) (mic : Nat → Int32) (mil : Nat → Int32) (mio : Nat → Int32) (mab : Nat → Int32) (mae : Nat → Int32) (msa : Nat → Int32) (mlc : Nat → Int32) (mli : Nat → Int32) (mna : Nat → Int32) (mva : Nat → Int32) (mma : Nat → Int32) (mch : Nat → Int32) (mre : Nat → Int32) (mlv : Nat → Int32) (mwr : Nat → Int64) (msh : Nat → Int32) (mth : Int32) (mnv : Int32) (mns : Int32) (mfa : Int32) (mmo : Int32) (x : Int32) (y : Int32) (hpre : (∃ n0 m0 s0 v0 : Nat, mnv = nI n0 ∧ mns = nI m0 ∧ MSOK mki msz mle mel mme mic mio msa mlc mli mna mva n0 m0 ∧ s0 < m0 ∧ v0 < n0 ∧ x = nI s0 ∧ y = nI v0)) : Wm (S := Int32) l y_Mo_additional b_Mo_additional 5 (some .int) 2 45 [.ref (b 0), .int x, .int y] D (tyA cI cJ cZ) (wM b cI cJ cZ mki msz mle mel mme mal mic mil mio mab mae msa mlc mli mna mva mma mch mre mlv mwr msh mth mnv mns mfa mmo) (fun uu => (∀ i, i < 32 → (bt uu i = true ↔ i < 12 ∧ mki y.toNatClampNeg = 5 ∧ ¬ mme (12 * y.toNatClampNeg + i) < 0 ∧ mna ((x.toNatClampNeg * 3 + 0) * 12 + i) < 0))) (fun uu => some (.int (uu))) (fun uu => (wM b cI cJ cZ mki msz mle mel mme mal mic mil mio mab mae msa mlc mli mna mva mma mch mre mlv mwr msh mth mnv mns mfa mmo)) :=
  wm_i (by decide) (fun _ _ => rfl) (Nat.le_of_ble_eq_true rfl) (fun p e s m below meth c ls Q A S hK hP hD hA hS hl hret => g_Mo_additional S (Nat.le_refl _) (Nat.le_refl _) ⟨Nat.le_refl _, Nat.le_refl _⟩ D b cI cJ cZ mki msz mle mel mme mal mic mil mio mab mae msa mlc mli mna mva mma mch mre mlv mwr msh mth mnv mns mfa mmo x y hK hP hD hA hS hl (v_Mo_additional mki msz mle mel mme mal mic mil mio mab mae msa mlc mli mna mva mma mch mre mlv mwr msh mth mnv mns mfa mmo x y hpre) (fun v mki' msz' mle' mel' mme' mal' mic' mil' mio' mab' mae' msa' mlc' mli' mna' mva' mma' mch' mre' mlv' mwr' msh' mth' mnv' mns' mfa' mmo' ls1 pc H1 locs1 hd hv hP1 hD1 hS1 => by obtain ⟨hp, rfl, rfl, rfl, rfl, rfl, rfl, rfl, rfl, rfl, rfl, rfl, rfl, rfl, rfl, rfl, rfl, rfl, rfl, rfl, rfl, rfl, rfl, rfl, rfl, rfl, rfl, rfl⟩ := hv; exact hret v _ ls1 pc H1 locs1 hd hp rfl hP1 hD1 hS1))
theorem hd_Mo_additional : y_Mo_additional.cls ≠ "java/lang/invoke/MethodHandle" ∧ y_Mo_additional.cls ≠ "java/lang/invoke/VarHandle" ∧ (parseMethodDescriptor y_Mo_additional.desc).map (fun d => d.parameters.length) = some 2 := ⟨by decide, by decide, by decide +kernel⟩
def V_Mo_marksBy (mki : Nat → Int32) (msz : Nat → Int64) (mle : Nat → Int32) (mel : Nat → Int32) (mme : Nat → Int32) (mal : Nat → Int32) (mic : Nat → Int32) (mil : Nat → Int32) (mio : Nat → Int32) (mab : Nat → Int32) (mae : Nat → Int32) (msa : Nat → Int32) (mlc : Nat → Int32) (mli : Nat → Int32) (mna : Nat → Int32) (mva : Nat → Int32) (mma : Nat → Int32) (mch : Nat → Int32) (mre : Nat → Int32) (mlv : Nat → Int32) (mwr : Nat → Int64) (msh : Nat → Int32) (mth : Int32) (mnv : Int32) (mns : Int32) (mfa : Int32) (mmo : Int32) (x : Int32) (y : Int32) (post : Int32 → (Nat → Int32) → (Nat → Int64) → (Nat → Int32) → (Nat → Int32) → (Nat → Int32) → (Nat → Int32) → (Nat → Int32) → (Nat → Int32) → (Nat → Int32) → (Nat → Int32) → (Nat → Int32) → (Nat → Int32) → (Nat → Int32) → (Nat → Int32) → (Nat → Int32) → (Nat → Int32) → (Nat → Int32) → (Nat → Int32) → (Nat → Int32) → (Nat → Int32) → (Nat → Int64) → (Nat → Int32) → Int32 → Int32 → Int32 → Int32 → Int32 → Prop) : Prop :=
  ((x < 0 → post 0 mki msz mle mel mme mal mic mil mio mab mae msa mlc mli mna mva mma mch mre mlv mwr msh mth mnv mns mfa mmo) ∧ (¬ x < 0 → ((vp_in (40 * x + y) 960 ∧ (mva (40 * x + y : Int32).toNatClampNeg = 0 ∨ mva (40 * x + y : Int32).toNatClampNeg = 1)) ∧ (((bI (decide (¬ mva (40 * x + y : Int32).toNatClampNeg = 0))) = 0 → post 0 mki msz mle mel mme mal mic mil mio mab mae msa mlc mli mna mva mma mch mre mlv mwr msh mth mnv mns mfa mmo) ∧ (¬ (bI (decide (¬ mva (40 * x + y : Int32).toNatClampNeg = 0))) = 0 → (vp_in ((40 * x) + y) 960 ∧ post (mma ((40 * x) + y : Int32).toNatClampNeg) mki msz mle mel mme mal mic mil mio mab mae msa mlc mli mna mva mma mch mre mlv mwr msh mth mnv mns mfa mmo))))))
set_option maxHeartbeats 4000000 in
set_option maxRecDepth 100000 in
theorem g_Mo_marksBy {p : Program} {l : Launch} {e : Env} {R : Room} {s : State} {m : MethodId} {args : Array Value} {below : List Frame} {meth : Method} {c : Code} {H : Heap} {locs : List Loc} {cells slots : Nat} {Q : State → Prop} {ls : Array Slot} {A : Nat → Prop} (S : CallFix p m c b_Mo_marksBy 3 s args W0 R_Mo) (hRf : 1 ≤ R.frames) (hRl : 22 ≤ R.locals) (hRc : cells ≤ R.cells ∧ slots ≤ R.slots) (D : va_G) (b : Nat → Nat) (cI cJ cZ : ClassId) (mki : Nat → Int32) (msz : Nat → Int64) (mle : Nat → Int32) (mel : Nat → Int32) (mme : Nat → Int32) (mal : Nat → Int32) (mic : Nat → Int32) (mil : Nat → Int32) (mio : Nat → Int32) (mab : Nat → Int32) (mae : Nat → Int32) (msa : Nat → Int32) (mlc : Nat → Int32) (mli : Nat → Int32) (mna : Nat → Int32) (mva : Nat → Int32) (mma : Nat → Int32) (mch : Nat → Int32) (mre : Nat → Int32) (mlv : Nat → Int32) (mwr : Nat → Int64) (msh : Nat → Int32) (mth : Int32) (mnv : Int32) (mns : Int32) (mfa : Int32) (mmo : Int32) (x : Int32) (y : Int32) (hK : va_K D vwCl (tyA cI cJ cZ) s) (hP : va_P D vwCl (wM b cI cJ cZ mki msz mle mel mme mal mic mil mio mab mae msa mlc mli mna mva mma mch mre mlv mwr msh mth mnv mns mfa mmo) H) (hD : va_D A (wM b cI cJ cZ mki msz mle mel mme mal mic mil mio mab mae msa mlc mli mna mva mma mch mre mlv mwr msh mth mnv mns mfa mmo)) (hA : ∀ q, s.heap.size ≤ q → A q) (hS : va_S A s.heap H locs) (hl : lv_has ls 3 [(0, .ref (b 0)), (1, .int x), (2, .int y)]) {post : Int32 → (Nat → Int32) → (Nat → Int64) → (Nat → Int32) → (Nat → Int32) → (Nat → Int32) → (Nat → Int32) → (Nat → Int32) → (Nat → Int32) → (Nat → Int32) → (Nat → Int32) → (Nat → Int32) → (Nat → Int32) → (Nat → Int32) → (Nat → Int32) → (Nat → Int32) → (Nat → Int32) → (Nat → Int32) → (Nat → Int32) → (Nat → Int32) → (Nat → Int32) → (Nat → Int64) → (Nat → Int32) → Int32 → Int32 → Int32 → Int32 → Int32 → Prop} (vc : V_Mo_marksBy mki msz mle mel mme mal mic mil mio mab mae msa mlc mli mna mva mma mch mre mlv mwr msh mth mnv mns mfa mmo x y post)
    (hret : ∀ (v : Int32) (mki : Nat → Int32) (msz : Nat → Int64) (mle : Nat → Int32) (mel : Nat → Int32) (mme : Nat → Int32) (mal : Nat → Int32) (mic : Nat → Int32) (mil : Nat → Int32) (mio : Nat → Int32) (mab : Nat → Int32) (mae : Nat → Int32) (msa : Nat → Int32) (mlc : Nat → Int32) (mli : Nat → Int32) (mna : Nat → Int32) (mva : Nat → Int32) (mma : Nat → Int32) (mch : Nat → Int32) (mre : Nat → Int32) (mlv : Nat → Int32) (mwr : Nat → Int64) (msh : Nat → Int32) (mth : Int32) (mnv : Int32) (mns : Int32) (mfa : Int32) (mmo : Int32) (ls : Array Slot) (pc : Nat) (H : Heap) (locs : List Loc), decode b_Mo_marksBy pc = .ok (.ireturn, 1) → post v mki msz mle mel mme mal mic mil mio mab mae msa mlc mli mna mva mma mch mre mlv mwr msh mth mnv mns mfa mmo → va_P D vwCl (wM b cI cJ cZ mki msz mle mel mme mal mic mil mio mab mae msa mlc mli mna mva mma mch mre mlv mwr msh mth mnv mns mfa mmo) H → va_D A (wM b cI cJ cZ mki msz mle mel mme mal mic mil mio mab mae msa mlc mli mna mva mma mch mre mlv mwr msh mth mnv mns mfa mmo) → va_S A s.heap H locs → W p l e R s m args below meth c H locs cells slots Q (F0 m pc ls [.int v])) : W p l e R s m args below meth c H locs cells slots Q (F0 m 0 ls []) := by
  have hx := S.1
  have hb := S.2.1
  have hown := S.2.2.2.1
  have hts := S.2.2.2.2
  unfold V_Mo_marksBy at vc
  refine lv_iload_n hx hb d_Mo_marksBy_0 rfl (lv_at hl 1 rfl) ?_
  refine lv_if_lt (tgt := 27) hx hb d_Mo_marksBy_1 (by decide) (fun h => ?_) (fun h => ?_)
  · have vc := vc.1 h
    refine lv_iconst (v := 0) hx hb d_Mo_marksBy_27 (by decide) ?_
    exact hret _ _ _ _ _ _ _ _ _ _ _ _ _ _ _ _ _ _ _ _ _ _ _ _ _ _ _ _ ls _ H locs d_Mo_marksBy_28 vc hP hD hS
  · have vc := vc.2 h
    refine lv_aload_n hx hb d_Mo_marksBy_4 rfl (lv_at hl 0 rfl) ?_
    refine lv_iload_n hx hb d_Mo_marksBy_5 rfl (lv_at hl 1 rfl) ?_
    refine lv_iload_n hx hb d_Mo_marksBy_6 rfl (lv_at hl 2 rfl) ?_
    obtain ⟨hpre, vc⟩ := vc
    refine pc_V (As := [.int x, .int y]) (rest := []) S (c_Mo_isValid l D b cI cJ cZ mki msz mle mel mme mal mic mil mio mab mae msa mlc mli mna mva mma mch mre mlv mwr msh mth mnv mns mfa mmo x y hpre) wB_blind k_Mo_isValid i_Mo_isValid e_Mo_isValid o_Mo ml_Mo_193 hd_Mo_isValid (Nat.le_trans (by decide) hRf) (Nat.le_trans (by decide) hRl) hRc (va_recv hK hP (q0 := 0) (ci := 6) rfl rfl) (wB_at hP hK) hl.1 rfl (Nat.le_of_ble_eq_true rfl) d_Mo_marksBy_7 ?_
    refine lv_if_eq (tgt := 27) hx hb d_Mo_marksBy_10 (by decide) (fun h => ?_) (fun h => ?_)
    · have vc := vc.1 h
      refine lv_iconst (v := 0) hx hb d_Mo_marksBy_27 (by decide) ?_
      exact hret _ _ _ _ _ _ _ _ _ _ _ _ _ _ _ _ _ _ _ _ _ _ _ _ _ _ _ _ ls _ H locs d_Mo_marksBy_28 vc hP hD hS
    · have vc := vc.2 h
      refine lv_aload_n hx hb d_Mo_marksBy_13 rfl (lv_at hl 0 rfl) ?_
      refine va_get (D := D) (ci := 6) (v := .ref (b 17)) (C := R_Mo) (T := F_Mo) (N := 27) hx hb hts in_Mo hown hK hP 0 rfl rfl 19 (by decide) (hts _ fl_Mo_60) (fun _ h => h) rfl d_Mo_marksBy_14 ?_
      refine lv_bipush (v := 40) hx hb d_Mo_marksBy_17 (by decide) ?_
      refine lv_iload_n hx hb d_Mo_marksBy_19 rfl (lv_at hl 1 rfl) ?_
      refine lv_imul hx hb d_Mo_marksBy_20 ?_
      refine lv_iload_n hx hb d_Mo_marksBy_21 rfl (lv_at hl 2 rfl) ?_
      refine lv_iadd hx hb d_Mo_marksBy_22 ?_
      obtain ⟨vcb, vc⟩ := vc
      refine va_iald hx hb hK hP 17 0 rfl rfl vcb d_Mo_marksBy_23 ?_
      refine lv_goto (tgt := 28) hx hb d_Mo_marksBy_24 (by decide) ?_
      exact hret _ _ _ _ _ _ _ _ _ _ _ _ _ _ _ _ _ _ _ _ _ _ _ _ _ _ _ _ ls _ H locs d_Mo_marksBy_28 vc hP hD hS
set_option maxHeartbeats 4000000 in
theorem v_Mo_marksBy (mki : Nat → Int32) (msz : Nat → Int64) (mle : Nat → Int32) (mel : Nat → Int32) (mme : Nat → Int32) (mal : Nat → Int32) (mic : Nat → Int32) (mil : Nat → Int32) (mio : Nat → Int32) (mab : Nat → Int32) (mae : Nat → Int32) (msa : Nat → Int32) (mlc : Nat → Int32) (mli : Nat → Int32) (mna : Nat → Int32) (mva : Nat → Int32) (mma : Nat → Int32) (mch : Nat → Int32) (mre : Nat → Int32) (mlv : Nat → Int32) (mwr : Nat → Int64) (msh : Nat → Int32) (mth : Int32) (mnv : Int32) (mns : Int32) (mfa : Int32) (mmo : Int32) (x : Int32) (y : Int32) (hpre : (∃ n0 m0 s0 v0 : Nat, mnv = nI n0 ∧ mns = nI m0 ∧ MSOK mki msz mle mel mme mic mio msa mlc mli mna mva n0 m0 ∧ okx x m0 ∧ v0 < n0 ∧ y = nI v0)) : V_Mo_marksBy mki msz mle mel mme mal mic mil mio mab mae msa mlc mli mna mva mma mch mre mlv mwr msh mth mnv mns mfa mmo x y (fun v mki' msz' mle' mel' mme' mal' mic' mil' mio' mab' mae' msa' mlc' mli' mna' mva' mma' mch' mre' mlv' mwr' msh' mth' mnv' mns' mfa' mmo' => ((∀ G : Sp, G = gM mki msz mle mel mme mal mic mil mio mab mae msa mlc mli mna mva mma mnv.toNatClampNeg → ∀ i, i < 32 → (bt v i = true ↔ ¬ x < 0 ∧ gMk G x.toNatClampNeg y.toNatClampNeg i))) ∧ mki' = mki ∧ msz' = msz ∧ mle' = mle ∧ mel' = mel ∧ mme' = mme ∧ mal' = mal ∧ mic' = mic ∧ mil' = mil ∧ mio' = mio ∧ mab' = mab ∧ mae' = mae ∧ msa' = msa ∧ mlc' = mlc ∧ mli' = mli ∧ mna' = mna ∧ mva' = mva ∧ mma' = mma ∧ mch' = mch ∧ mre' = mre ∧ mlv' = mlv ∧ mwr' = mwr ∧ msh' = msh ∧ mth' = mth ∧ mnv' = mnv ∧ mns' = mns ∧ mfa' = mfa ∧ mmo' = mmo) := by
  have main : ∀ post : Int32 → (Nat → Int32) → (Nat → Int64) → (Nat → Int32) → (Nat → Int32) → (Nat → Int32) → (Nat → Int32) → (Nat → Int32) → (Nat → Int32) → (Nat → Int32) → (Nat → Int32) → (Nat → Int32) → (Nat → Int32) → (Nat → Int32) → (Nat → Int32) → (Nat → Int32) → (Nat → Int32) → (Nat → Int32) → (Nat → Int32) → (Nat → Int32) → (Nat → Int32) → (Nat → Int64) → (Nat → Int32) → Int32 → Int32 → Int32 → Int32 → Int32 → Prop, (∀ v mki' msz' mle' mel' mme' mal' mic' mil' mio' mab' mae' msa' mlc' mli' mna' mva' mma' mch' mre' mlv' mwr' msh' mth' mnv' mns' mfa' mmo', (fun v mki' msz' mle' mel' mme' mal' mic' mil' mio' mab' mae' msa' mlc' mli' mna' mva' mma' mch' mre' mlv' mwr' msh' mth' mnv' mns' mfa' mmo' => ((∀ G : Sp, G = gM mki msz mle mel mme mal mic mil mio mab mae msa mlc mli mna mva mma mnv.toNatClampNeg → ∀ i, i < 32 → (bt v i = true ↔ ¬ x < 0 ∧ gMk G x.toNatClampNeg y.toNatClampNeg i))) ∧ mki' = mki ∧ msz' = msz ∧ mle' = mle ∧ mel' = mel ∧ mme' = mme ∧ mal' = mal ∧ mic' = mic ∧ mil' = mil ∧ mio' = mio ∧ mab' = mab ∧ mae' = mae ∧ msa' = msa ∧ mlc' = mlc ∧ mli' = mli ∧ mna' = mna ∧ mva' = mva ∧ mma' = mma ∧ mch' = mch ∧ mre' = mre ∧ mlv' = mlv ∧ mwr' = mwr ∧ msh' = msh ∧ mth' = mth ∧ mnv' = mnv ∧ mns' = mns ∧ mfa' = mfa ∧ mmo' = mmo) v mki' msz' mle' mel' mme' mal' mic' mil' mio' mab' mae' msa' mlc' mli' mna' mva' mma' mch' mre' mlv' mwr' msh' mth' mnv' mns' mfa' mmo' → post v mki' msz' mle' mel' mme' mal' mic' mil' mio' mab' mae' msa' mlc' mli' mna' mva' mma' mch' mre' mlv' mwr' msh' mth' mnv' mns' mfa' mmo') → V_Mo_marksBy mki msz mle mel mme mal mic mil mio mab mae msa mlc mli mna mva mma mch mre mlv mwr msh mth mnv mns mfa mmo x y post := by
    intro post hpost
    unfold V_Mo_marksBy
    obtain ⟨n0, m0, s0, v0, hnv, hns, hS, hox, hv, rfl⟩ := hpre
    have hn40 := hS.1.1
    have hm24 := hS.2.2.1
    have cv : (nI v0).toNatClampNeg = v0 := nI_clamp (by omega)
    have cn : mnv.toNatClampNeg = n0 := by rw [hnv]; exact nI_clamp (by omega)
    simp only [cv, cn] at hpost ⊢
    refine ⟨fun h => (hpost _ _ _ _ _ _ _ _ _ _ _ _ _ _ _ _ _ _ _ _ _ _ _ _ _ _ _ _ ⟨fun G hG i hi => by rw [b_0]; exact ⟨fun q => absurd q (by decide), fun q => absurd h q.1⟩, rfl, rfl, rfl, rfl, rfl, rfl, rfl, rfl, rfl, rfl, rfl, rfl, rfl, rfl, rfl, rfl, rfl, rfl, rfl, rfl, rfl, rfl, rfl, rfl, rfl, rfl, rfl⟩), fun h => ?_⟩
    obtain ⟨x0, hx, rfl⟩ := okx_nn hox h
    have cx : (nI x0).toNatClampNeg = x0 := nI_clamp (by omega)
    have hva := va_ok hS (x := x0) (w := v0) (by omega) (by omega)
    have c4 := c40 (x := x0) (w := v0) (by omega) (by omega)
    simp only [cx] at hpost
    have hva2 := hva
    rw [c4] at hva2
    rw [c4]
    refine ⟨hva2, fun h2 => (hpost _ _ _ _ _ _ _ _ _ _ _ _ _ _ _ _ _ _ _ _ _ _ _ _ _ _ _ _ ⟨fun G hG i hi => ?_, rfl, rfl, rfl, rfl, rfl, rfl, rfl, rfl, rfl, rfl, rfl, rfl, rfl, rfl, rfl, rfl, rfl, rfl, rfl, rfl, rfl, rfl, rfl, rfl, rfl, rfl, rfl⟩), fun h2 => ⟨hva.1, (hpost _ _ _ _ _ _ _ _ _ _ _ _ _ _ _ _ _ _ _ _ _ _ _ _ _ _ _ _ ⟨fun G hG i hi => ?_, rfl, rfl, rfl, rfl, rfl, rfl, rfl, rfl, rfl, rfl, rfl, rfl, rfl, rfl, rfl, rfl, rfl, rfl, rfl, rfl, rfl, rfl, rfl, rfl, rfl, rfl, rfl⟩)⟩⟩
    · rw [b_0, (gM_eq hG).2.2.2.2.2.2.2.2.2]
      exact ⟨fun q => absurd q (by decide), fun q => absurd q.2.1 (of_decide_eq_false (bI0.mp h2))⟩
    · rw [(gM_eq hG).2.2.2.2.2.2.2.2.2]
      exact ⟨fun q => ⟨h, of_decide_eq_true (bI_ne.mp h2), q⟩, fun q => q.2.2⟩
  exact main _ (fun _ _ _ _ _ _ _ _ _ _ _ _ _ _ _ _ _ _ _ _ _ _ _ _ _ _ _ _ h => h)
theorem c_Mo_marksBy (l : Launch) (D : va_G) (b : Nat → Nat) (cI cJ cZ : ClassId) (mki : Nat → Int32) (msz : Nat → Int64) (mle : Nat → Int32) (mel : Nat → Int32) (mme : Nat → Int32) (mal : Nat → Int32) (mic : Nat → Int32) (mil : Nat → Int32) (mio : Nat → Int32) (mab : Nat → Int32) (mae : Nat → Int32) (msa : Nat → Int32) (mlc : Nat → Int32) (mli : Nat → Int32) (mna : Nat → Int32) (mva : Nat → Int32) (mma : Nat → Int32) (mch : Nat → Int32) (mre : Nat → Int32) (mlv : Nat → Int32) (mwr : Nat → Int64) (msh : Nat → Int32) (mth : Int32) (mnv : Int32) (mns : Int32) (mfa : Int32) (mmo : Int32) (x : Int32) (y : Int32) (hpre : (∃ n0 m0 s0 v0 : Nat, mnv = nI n0 ∧ mns = nI m0 ∧ MSOK mki msz mle mel mme mic mio msa mlc mli mna mva n0 m0 ∧ okx x m0 ∧ v0 < n0 ∧ y = nI v0)) : Wm (S := Int32) l y_Mo_marksBy b_Mo_marksBy 3 (some .int) 1 22 [.ref (b 0), .int x, .int y] D (tyA cI cJ cZ) (wM b cI cJ cZ mki msz mle mel mme mal mic mil mio mab mae msa mlc mli mna mva mma mch mre mlv mwr msh mth mnv mns mfa mmo) (fun uu => (∀ G : Sp, G = gM mki msz mle mel mme mal mic mil mio mab mae msa mlc mli mna mva mma mnv.toNatClampNeg → ∀ i, i < 32 → (bt uu i = true ↔ ¬ x < 0 ∧ gMk G x.toNatClampNeg y.toNatClampNeg i))) (fun uu => some (.int (uu))) (fun uu => (wM b cI cJ cZ mki msz mle mel mme mal mic mil mio mab mae msa mlc mli mna mva mma mch mre mlv mwr msh mth mnv mns mfa mmo)) :=
  wm_i (by decide) (fun _ _ => rfl) (Nat.le_of_ble_eq_true rfl) (fun p e s m below meth c ls Q A S hK hP hD hA hS hl hret => g_Mo_marksBy S (Nat.le_refl _) (Nat.le_refl _) ⟨Nat.le_refl _, Nat.le_refl _⟩ D b cI cJ cZ mki msz mle mel mme mal mic mil mio mab mae msa mlc mli mna mva mma mch mre mlv mwr msh mth mnv mns mfa mmo x y hK hP hD hA hS hl (v_Mo_marksBy mki msz mle mel mme mal mic mil mio mab mae msa mlc mli mna mva mma mch mre mlv mwr msh mth mnv mns mfa mmo x y hpre) (fun v mki' msz' mle' mel' mme' mal' mic' mil' mio' mab' mae' msa' mlc' mli' mna' mva' mma' mch' mre' mlv' mwr' msh' mth' mnv' mns' mfa' mmo' ls1 pc H1 locs1 hd hv hP1 hD1 hS1 => by obtain ⟨hp, rfl, rfl, rfl, rfl, rfl, rfl, rfl, rfl, rfl, rfl, rfl, rfl, rfl, rfl, rfl, rfl, rfl, rfl, rfl, rfl, rfl, rfl, rfl, rfl, rfl, rfl, rfl⟩ := hv; exact hret v _ ls1 pc H1 locs1 hd hp rfl hP1 hD1 hS1))
theorem hd_Mo_marksBy : y_Mo_marksBy.cls ≠ "java/lang/invoke/MethodHandle" ∧ y_Mo_marksBy.cls ≠ "java/lang/invoke/VarHandle" ∧ (parseMethodDescriptor y_Mo_marksBy.desc).map (fun d => d.parameters.length) = some 2 := ⟨by decide, by decide, by decide +kernel⟩
