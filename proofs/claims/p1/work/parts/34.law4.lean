def V_L10 (ki : Nat → Int32) (co : Nat → Int64) (pr : Nat → Int32) (pa : Nat → Int32) (tw : Nat → Int32) (nv : Int32) (sv : Int32) (pn : Nat → Int32) (pl : Nat → Int32) (po : Nat → Int32) (pf : Nat → Int32) (pt : Nat → Int32) (ru : Nat → Int32) (le : Nat → Int32) (li : Nat → Int32) (bn : Nat → Int32) (ip : Nat → Int32) (aw : Nat → Int32) (ns : Int32) (ch : Nat → Int32) (ma : Nat → Int32) (br : Nat → Int64) (tl : Int32) (ou : Nat → Int64) (mki : Nat → Int32) (msz : Nat → Int64) (mle : Nat → Int32) (mel : Nat → Int32) (mme : Nat → Int32) (mal : Nat → Int32) (mic : Nat → Int32) (mil : Nat → Int32) (mio : Nat → Int32) (mab : Nat → Int32) (mae : Nat → Int32) (msa : Nat → Int32) (mlc : Nat → Int32) (mli : Nat → Int32) (mna : Nat → Int32) (mva : Nat → Int32) (mma : Nat → Int32) (mch : Nat → Int32) (mre : Nat → Int32) (mlv : Nat → Int32) (mwr : Nat → Int64) (msh : Nat → Int32) (mth : Int32) (mnv : Int32) (mns : Int32) (mfa : Int32) (mmo : Int32) (k1 k2 k3 k4 : Int32) (post : (Nat → Int32) → (Nat → Int64) → (Nat → Int32) → (Nat → Int32) → (Nat → Int32) → Int32 → Int32 → (Nat → Int32) → (Nat → Int32) → (Nat → Int32) → (Nat → Int32) → (Nat → Int32) → (Nat → Int32) → (Nat → Int32) → (Nat → Int32) → (Nat → Int32) → (Nat → Int32) → (Nat → Int32) → Int32 → (Nat → Int32) → (Nat → Int32) → (Nat → Int64) → Int32 → (Nat → Int64) → (Nat → Int32) → (Nat → Int64) → (Nat → Int32) → (Nat → Int32) → (Nat → Int32) → (Nat → Int32) → (Nat → Int32) → (Nat → Int32) → (Nat → Int32) → (Nat → Int32) → (Nat → Int32) → (Nat → Int32) → (Nat → Int32) → (Nat → Int32) → (Nat → Int32) → (Nat → Int32) → (Nat → Int32) → (Nat → Int32) → (Nat → Int32) → (Nat → Int32) → (Nat → Int64) → (Nat → Int32) → Int32 → Int32 → Int32 → Int32 → Int32 → Prop) : Prop :=
  ((ns ≤ 24 ∧ ∀ j : Nat, j < 96 → ∃ b : Nat, b ≤ 3 ∧ le j = nI b) ∧ ((¬ (sHas ns k1 && (sIn k2 29 32 && sHas ns k3)) = true → ((mns ≤ 24 ∧ ∀ j : Nat, j < 96 → ∃ b : Nat, b ≤ 3 ∧ mlc j = nI b) ∧ ((¬ (sHas mns k1 && (sIn k2 29 32 && sHas mns k3)) = true → post ki co pr pa tw nv sv pn pl po pf pt ru le li bn ip aw ns ch ma br tl ou mki msz mle mel mme mal mic mil mio mab mae msa mlc mli mna mva mma mch mre mlv mwr msh 1 mnv mns mfa mmo) ∧ (¬ (¬ (sHas mns k1 && (sIn k2 29 32 && sHas mns k3)) = true) → ((mlc (4 * k1 + k2 - 29 : Int32).toNatClampNeg = 3 → False) ∧ (¬ (mlc (4 * k1 + k2 - 29 : Int32).toNatClampNeg = 3) → False)))))) ∧ (¬ (¬ (sHas ns k1 && (sIn k2 29 32 && sHas ns k3)) = true) → ((3 ≤ le (k1 * 4 + k2 - 29 : Int32).toNatClampNeg → ((mns ≤ 24 ∧ ∀ j : Nat, j < 96 → ∃ b : Nat, b ≤ 3 ∧ mlc j = nI b) ∧ ((¬ (sHas mns k1 && (sIn k2 29 32 && sHas mns k3)) = true → False) ∧ (¬ (¬ (sHas mns k1 && (sIn k2 29 32 && sHas mns k3)) = true) → ((mlc (4 * k1 + k2 - 29 : Int32).toNatClampNeg = 3 → post ki co pr pa tw nv sv pn pl po pf pt ru le li bn ip aw ns ch ma br tl ou mki msz mle mel mme mal mic mil mio mab mae msa mlc mli mna mva mma mch mre mlv mwr msh 2 mnv mns mfa mmo) ∧ (¬ (mlc (4 * k1 + k2 - 29 : Int32).toNatClampNeg = 3) → False)))))) ∧ (¬ (3 ≤ le (k1 * 4 + k2 - 29 : Int32).toNatClampNeg) → ((mns ≤ 24 ∧ ∀ j : Nat, j < 96 → ∃ b : Nat, b ≤ 3 ∧ mlc j = nI b) ∧ ((¬ (sHas mns k1 && (sIn k2 29 32 && sHas mns k3)) = true → False) ∧ (¬ (¬ (sHas mns k1 && (sIn k2 29 32 && sHas mns k3)) = true) → ((mlc (4 * k1 + k2 - 29 : Int32).toNatClampNeg = 3 → False) ∧ (¬ (mlc (4 * k1 + k2 - 29 : Int32).toNatClampNeg = 3) → (((lg_cmp ((vp_updL ou 0 ((le (k1 * 4 + k2 - 29 : Int32).toNatClampNeg + 1 : Int32).toInt64)) (0 : Int32).toNatClampNeg) ((mlc (4 * k1 + k2 - 29 : Int32).toNatClampNeg + 1 : Int32).toInt64)) = 0 → post ki co pr pa tw nv sv pn pl po pf pt ru (upd le (k1 * 4 + k2 - 29 : Int32).toNatClampNeg (le (k1 * 4 + k2 - 29 : Int32).toNatClampNeg + 1)) (upd li ((k1 * 4 + k2 - 29) * 3 + le (k1 * 4 + k2 - 29 : Int32).toNatClampNeg : Int32).toNatClampNeg k3) bn ip aw ns ch ma br tl (vp_updL ou 0 ((le (k1 * 4 + k2 - 29 : Int32).toNatClampNeg + 1 : Int32).toInt64)) mki msz mle mel mme mal mic mil mio mab mae msa (upd mlc (4 * k1 + k2 - 29 : Int32).toNatClampNeg (mlc (4 * k1 + k2 - 29 : Int32).toNatClampNeg + 1)) (upd mli (3 * (4 * k1 + k2 - 29) + mlc (4 * k1 + k2 - 29 : Int32).toNatClampNeg : Int32).toNatClampNeg k3) mna mva mma mch mre mlv mwr msh 0 mnv mns mfa mmo) ∧ (¬ (lg_cmp ((vp_updL ou 0 ((le (k1 * 4 + k2 - 29 : Int32).toNatClampNeg + 1 : Int32).toInt64)) (0 : Int32).toNatClampNeg) ((mlc (4 * k1 + k2 - 29 : Int32).toNatClampNeg + 1 : Int32).toInt64)) = 0 → False))))))))))))
set_option maxHeartbeats 4000000 in
set_option maxRecDepth 100000 in
theorem g_L10 {p : Program} {l : Launch} {e : Env} {R : Room} {s : State} {m : MethodId} {args : Array Value} {below : List Frame} {meth : Method} {c : Code} {H : Heap} {locs : List Loc} {cells slots : Nat} {Q : State → Prop} {ls : Array Slot} {A : Nat → Prop} (hls : l.stackTraces = false) (S : CallFix p m c code 7 s args W0 "SchemaJudgeLaw") (hN : eN s) (hRf : 8 ≤ R.frames) (hRl : 138 ≤ R.locals) (hRc : cells + 1 ≤ R.cells ∧ slots + 6 ≤ R.slots) (D : va_G) (a b : Nat → Nat) (cI cJ cZ : ClassId) (ki : Nat → Int32) (co : Nat → Int64) (pr : Nat → Int32) (pa : Nat → Int32) (tw : Nat → Int32) (nv : Int32) (sv : Int32) (pn : Nat → Int32) (pl : Nat → Int32) (po : Nat → Int32) (pf : Nat → Int32) (pt : Nat → Int32) (ru : Nat → Int32) (le : Nat → Int32) (li : Nat → Int32) (bn : Nat → Int32) (ip : Nat → Int32) (aw : Nat → Int32) (ns : Int32) (ch : Nat → Int32) (ma : Nat → Int32) (br : Nat → Int64) (tl : Int32) (ou : Nat → Int64) (mki : Nat → Int32) (msz : Nat → Int64) (mle : Nat → Int32) (mel : Nat → Int32) (mme : Nat → Int32) (mal : Nat → Int32) (mic : Nat → Int32) (mil : Nat → Int32) (mio : Nat → Int32) (mab : Nat → Int32) (mae : Nat → Int32) (msa : Nat → Int32) (mlc : Nat → Int32) (mli : Nat → Int32) (mna : Nat → Int32) (mva : Nat → Int32) (mma : Nat → Int32) (mch : Nat → Int32) (mre : Nat → Int32) (mlv : Nat → Int32) (mwr : Nat → Int64) (msh : Nat → Int32) (mth : Int32) (mnv : Int32) (mns : Int32) (mfa : Int32) (mmo : Int32) (k1 k2 k3 k4 : Int32) (sc L : Nat) (xs : Nat → Int32) (i : Int32) (hXs : va_X sc L xs s s.heap) (hbl : sc < s.heap.size) (hbA : ¬ A sc) (hi1 : vp_in (i + 1) L) (e1 : xs (i + 1 : Int32).toNatClampNeg = k1) (hi2 : vp_in (i + 2) L) (e2 : xs (i + 2 : Int32).toNatClampNeg = k2) (hi3 : vp_in (i + 3) L) (e3 : xs (i + 3 : Int32).toNatClampNeg = k3) (hi4 : vp_in (i + 4) L) (e4 : xs (i + 4 : Int32).toNatClampNeg = k4) (hK : va_K D vwCl (tyA cI cJ cZ) s) (hP : va_P D vwCl ((wX a ++ wV a cI cJ ki co pr pa tw nv sv ++ wP a cI cZ pn pl po pf pt ++ wS a cI ru le li bn ip aw ns ++ wL a ++ wJ a cI cJ ch ma br tl ++ wO a cJ ou) ++ (wM b cI cJ cZ mki msz mle mel mme mal mic mil mio mab mae msa mlc mli mna mva mma mch mre mlv mwr msh mth mnv mns mfa mmo)) H) (hD : va_D A ((wX a ++ wV a cI cJ ki co pr pa tw nv sv ++ wP a cI cZ pn pl po pf pt ++ wS a cI ru le li bn ip aw ns ++ wL a ++ wJ a cI cJ ch ma br tl ++ wO a cJ ou) ++ (wM b cI cJ cZ mki msz mle mel mme mal mic mil mio mab mae msa mlc mli mna mva mma mch mre mlv mwr msh mth mnv mns mfa mmo))) (hA : ∀ q, s.heap.size ≤ q → A q) (hS : va_S A s.heap H locs) (hX : eX A s s.heap) (hl : lv_has ls 7 [(4, .int i), (3, .ref (a 25)), (2, .ref (b 0)), (1, .ref (a 24)), (0, .ref sc)]) {post : (Nat → Int32) → (Nat → Int64) → (Nat → Int32) → (Nat → Int32) → (Nat → Int32) → Int32 → Int32 → (Nat → Int32) → (Nat → Int32) → (Nat → Int32) → (Nat → Int32) → (Nat → Int32) → (Nat → Int32) → (Nat → Int32) → (Nat → Int32) → (Nat → Int32) → (Nat → Int32) → (Nat → Int32) → Int32 → (Nat → Int32) → (Nat → Int32) → (Nat → Int64) → Int32 → (Nat → Int64) → (Nat → Int32) → (Nat → Int64) → (Nat → Int32) → (Nat → Int32) → (Nat → Int32) → (Nat → Int32) → (Nat → Int32) → (Nat → Int32) → (Nat → Int32) → (Nat → Int32) → (Nat → Int32) → (Nat → Int32) → (Nat → Int32) → (Nat → Int32) → (Nat → Int32) → (Nat → Int32) → (Nat → Int32) → (Nat → Int32) → (Nat → Int32) → (Nat → Int32) → (Nat → Int64) → (Nat → Int32) → Int32 → Int32 → Int32 → Int32 → Int32 → Prop} (vc : V_L10 ki co pr pa tw nv sv pn pl po pf pt ru le li bn ip aw ns ch ma br tl ou mki msz mle mel mme mal mic mil mio mab mae msa mlc mli mna mva mma mch mre mlv mwr msh mth mnv mns mfa mmo k1 k2 k3 k4 post)
    (hnext : ∀ (ki : Nat → Int32) (co : Nat → Int64) (pr : Nat → Int32) (pa : Nat → Int32) (tw : Nat → Int32) (nv : Int32) (sv : Int32) (pn : Nat → Int32) (pl : Nat → Int32) (po : Nat → Int32) (pf : Nat → Int32) (pt : Nat → Int32) (ru : Nat → Int32) (le : Nat → Int32) (li : Nat → Int32) (bn : Nat → Int32) (ip : Nat → Int32) (aw : Nat → Int32) (ns : Int32) (ch : Nat → Int32) (ma : Nat → Int32) (br : Nat → Int64) (tl : Int32) (ou : Nat → Int64) (mki : Nat → Int32) (msz : Nat → Int64) (mle : Nat → Int32) (mel : Nat → Int32) (mme : Nat → Int32) (mal : Nat → Int32) (mic : Nat → Int32) (mil : Nat → Int32) (mio : Nat → Int32) (mab : Nat → Int32) (mae : Nat → Int32) (msa : Nat → Int32) (mlc : Nat → Int32) (mli : Nat → Int32) (mna : Nat → Int32) (mva : Nat → Int32) (mma : Nat → Int32) (mch : Nat → Int32) (mre : Nat → Int32) (mlv : Nat → Int32) (mwr : Nat → Int64) (msh : Nat → Int32) (mth : Int32) (mnv : Int32) (mns : Int32) (mfa : Int32) (mmo : Int32) (ls : Array Slot) (H : Heap) (locs : List Loc), post ki co pr pa tw nv sv pn pl po pf pt ru le li bn ip aw ns ch ma br tl ou mki msz mle mel mme mal mic mil mio mab mae msa mlc mli mna mva mma mch mre mlv mwr msh mth mnv mns mfa mmo → lv_has ls 7 [(0, .ref sc), (1, .ref (a 24)), (2, .ref (b 0)), (3, .ref (a 25)), (4, .int i)] → va_P D vwCl ((wX a ++ wV a cI cJ ki co pr pa tw nv sv ++ wP a cI cZ pn pl po pf pt ++ wS a cI ru le li bn ip aw ns ++ wL a ++ wJ a cI cJ ch ma br tl ++ wO a cJ ou) ++ (wM b cI cJ cZ mki msz mle mel mme mal mic mil mio mab mae msa mlc mli mna mva mma mch mre mlv mwr msh mth mnv mns mfa mmo)) H → va_D A ((wX a ++ wV a cI cJ ki co pr pa tw nv sv ++ wP a cI cZ pn pl po pf pt ++ wS a cI ru le li bn ip aw ns ++ wL a ++ wJ a cI cJ ch ma br tl ++ wO a cJ ou) ++ (wM b cI cJ cZ mki msz mle mel mme mal mic mil mio mab mae msa mlc mli mna mva mma mch mre mlv mwr msh mth mnv mns mfa mmo)) → va_S A s.heap H locs → W p l e R s m args below meth c H locs (cells + 1) (slots + 6) Q (F0 m 1215 ls [])) : W p l e R s m args below meth c H locs cells slots Q (F0 m 776 ls []) := by
  have hx := S.1
  have hb := S.2.1
  have hown := S.2.2.2.1
  have hts := S.2.2.2.2
  have h01 : vp_in (0 : Int32) 1 := vp_in_nI (n := 0) (by decide) (by decide)
  unfold V_L10 at vc
  refine lv_aload_n hx hb d_La_law_776 rfl (lv_at hl 3 rfl) ?_
  refine lv_aload_n hx hb d_La_law_777 rfl (lv_at hl 4 rfl) ?_
  refine lv_iload hx hb d_La_law_778 (lv_at hl 0 rfl) ?_
  refine lv_iconst (v := 1) hx hb d_La_law_780 (by decide) ?_
  refine lv_iadd hx hb d_La_law_781 ?_
  refine va_sld hx hb hXs hbl hbA hS hi1 d_La_law_782 ?_
  rw [e1]
  refine lv_aload_n hx hb d_La_law_783 rfl (lv_at hl 4 rfl) ?_
  refine lv_iload hx hb d_La_law_784 (lv_at hl 0 rfl) ?_
  refine lv_iconst (v := 2) hx hb d_La_law_786 (by decide) ?_
  refine lv_iadd hx hb d_La_law_787 ?_
  refine va_sld hx hb hXs hbl hbA hS hi2 d_La_law_788 ?_
  rw [e2]
  refine lv_aload_n hx hb d_La_law_789 rfl (lv_at hl 4 rfl) ?_
  refine lv_iload hx hb d_La_law_790 (lv_at hl 0 rfl) ?_
  refine lv_iconst (v := 3) hx hb d_La_law_792 (by decide) ?_
  refine lv_iadd hx hb d_La_law_793 ?_
  refine va_sld hx hb hXs hbl hbA hS hi3 d_La_law_794 ?_
  rw [e3]
  refine lv_aload_n hx hb d_La_law_795 rfl (lv_at hl 1 rfl) ?_
  obtain ⟨hpre, vc⟩ := vc
  by_cases hv1 : ¬ (sHas ns k1 && (sIn k2 29 32 && sHas ns k3)) = true
  · have vc := vc.1 hv1
    refine hc_1 (As := [.ref (a 24), .int k1, .int k2, .int k3, .ref (a 25)]) (rest := []) S (c_La_list_1 l hls D a cI cJ cZ ki co pr pa tw nv sv pn pl po pf pt ru le li bn ip aw ns ch ma br tl ou k1 k2 k3 hpre hv1) kw_La_list s_La_list o_La ml_La_120 hd_La_list (Nat.le_trans (by decide) hRf) (Nat.le_trans (by decide) hRl) hRc hK hP hD hS hA hX hN hl.1 rfl (Nat.le_of_ble_eq_true rfl) d_La_law_796 (fun _ H locs _ hP hD hS => ?_)
    refine lv_istore hx hb d_La_law_799 hl (by decide) (lv' := [(5, .int 1), (4, .int i), (3, .ref (a 25)), (2, .ref (b 0)), (1, .ref (a 24)), (0, .ref sc)]) rfl (fun ls hl => ?_)
    refine lv_aload_n hx hb d_La_law_801 rfl (lv_at hl 3 rfl) ?_
    refine lv_aload_n hx hb d_La_law_802 rfl (lv_at hl 5 rfl) ?_
    refine lv_iload hx hb d_La_law_803 (lv_at hl 1 rfl) ?_
    refine lv_iconst (v := 1) hx hb d_La_law_805 (by decide) ?_
    refine lv_iadd hx hb d_La_law_806 ?_
    refine va_sld hx hb hXs hbl hbA hS hi1 d_La_law_807 ?_
    rw [e1]
    refine lv_aload_n hx hb d_La_law_808 rfl (lv_at hl 5 rfl) ?_
    refine lv_iload hx hb d_La_law_809 (lv_at hl 1 rfl) ?_
    refine lv_iconst (v := 2) hx hb d_La_law_811 (by decide) ?_
    refine lv_iadd hx hb d_La_law_812 ?_
    refine va_sld hx hb hXs hbl hbA hS hi2 d_La_law_813 ?_
    rw [e2]
    refine lv_aload_n hx hb d_La_law_814 rfl (lv_at hl 5 rfl) ?_
    refine lv_iload hx hb d_La_law_815 (lv_at hl 1 rfl) ?_
    refine lv_iconst (v := 3) hx hb d_La_law_817 (by decide) ?_
    refine lv_iadd hx hb d_La_law_818 ?_
    refine va_sld hx hb hXs hbl hbA hS hi3 d_La_law_819 ?_
    rw [e3]
    obtain ⟨hpre, vc⟩ := vc
    by_cases hv1 : ¬ (sHas mns k1 && (sIn k2 29 32 && sHas mns k3)) = true
    · have vc := vc.1 hv1
      refine wc_2 (As := [.int k1, .int k2, .int k3]) (rest := []) S (c_Mo_list_1 l D b cI cJ cZ mki msz mle mel mme mal mic mil mio mab mae msa mlc mli mna mva mma mch mre mlv mwr msh mth mnv mns mfa mmo k1 k2 k3 hpre hv1) k_Mo_list i_Mo_list e_Mo_list o_Mo ml_La_122 hd_Mo_list (Nat.le_trans (by decide) hRf) (Nat.le_trans (by decide) hRl) hRc (va_recv hK hP.r (q0 := 0) (ci := 6) rfl rfl) hK hP hD hS hA hl.1 rfl (Nat.le_of_ble_eq_true rfl) d_La_law_820 (fun _ H locs _ hP hD hS => ?_)
      refine lv_istore hx hb d_La_law_823 hl (by decide) (lv' := [(6, .int 0), (5, .int 1), (4, .int i), (3, .ref (a 25)), (2, .ref (b 0)), (1, .ref (a 24)), (0, .ref sc)]) rfl (fun ls hl => ?_)
      refine lv_aload_n hx hb d_La_law_825 rfl (lv_at hl 4 rfl) ?_
      refine pc_V (As := []) (rest := []) S (c_Mo_thrown l D b cI cJ cZ mki msz mle mel mme mal mic mil mio mab mae msa mlc mli mna mva mma mch mre mlv mwr msh 1 mnv mns mfa mmo) wB_blind k_Mo_thrown i_Mo_thrown e_Mo_thrown o_Mo ml_La_84 hd_Mo_thrown (Nat.le_trans (by decide) hRf) (Nat.le_trans (by decide) hRl) hRc (va_recv hK hP.r (q0 := 0) (ci := 6) rfl rfl) (wB_at hP.r hK) hl.1 rfl (Nat.le_of_ble_eq_true rfl) d_La_law_826 ?_
      refine lv_iload hx hb d_La_law_829 (lv_at hl 1 rfl) ?_
      refine lv_icmp_eq (tgt := 836) hx hb d_La_law_831 (by decide) (fun h => ?_) (fun h => ?_)
      · skip
        refine lv_iload hx hb d_La_law_836 (lv_at hl 1 rfl) ?_
        refine lv_if_ne (tgt := 853) hx hb d_La_law_838 (by decide) (fun h => ?_) (fun h => ?_)
        · skip
          refine lv_goto (tgt := 1215) hx hb d_La_law_853 (by decide) ?_
          exact hnext ki co pr pa tw nv sv pn pl po pf pt ru le li bn ip aw ns ch ma br tl ou mki msz mle mel mme mal mic mil mio mab mae msa mlc mli mna mva mma mch mre mlv mwr msh 1 mnv mns mfa mmo ls H locs vc (lv_sub hl [6, 5, 4, 3, 2] rfl) hP hD hS
        · exact absurd h (by decide)
      · exact absurd h (by decide)
    · have vc := vc.2 hv1
      by_cases hv2 : mlc (4 * k1 + k2 - 29 : Int32).toNatClampNeg = 3
      · have vc := vc.1 hv2
        refine wc_2 (As := [.int k1, .int k2, .int k3]) (rest := []) S (c_Mo_list_2 l D b cI cJ cZ mki msz mle mel mme mal mic mil mio mab mae msa mlc mli mna mva mma mch mre mlv mwr msh mth mnv mns mfa mmo k1 k2 k3 hpre hv1 hv2) k_Mo_list i_Mo_list e_Mo_list o_Mo ml_La_122 hd_Mo_list (Nat.le_trans (by decide) hRf) (Nat.le_trans (by decide) hRl) hRc (va_recv hK hP.r (q0 := 0) (ci := 6) rfl rfl) hK hP hD hS hA hl.1 rfl (Nat.le_of_ble_eq_true rfl) d_La_law_820 (fun _ H locs _ hP hD hS => ?_)
        refine lv_istore hx hb d_La_law_823 hl (by decide) (lv' := [(6, .int 0), (5, .int 1), (4, .int i), (3, .ref (a 25)), (2, .ref (b 0)), (1, .ref (a 24)), (0, .ref sc)]) rfl (fun ls hl => ?_)
        refine lv_aload_n hx hb d_La_law_825 rfl (lv_at hl 4 rfl) ?_
        refine pc_V (As := []) (rest := []) S (c_Mo_thrown l D b cI cJ cZ mki msz mle mel mme mal mic mil mio mab mae msa mlc mli mna mva mma mch mre mlv mwr msh 2 mnv mns mfa mmo) wB_blind k_Mo_thrown i_Mo_thrown e_Mo_thrown o_Mo ml_La_84 hd_Mo_thrown (Nat.le_trans (by decide) hRf) (Nat.le_trans (by decide) hRl) hRc (va_recv hK hP.r (q0 := 0) (ci := 6) rfl rfl) (wB_at hP.r hK) hl.1 rfl (Nat.le_of_ble_eq_true rfl) d_La_law_826 ?_
        refine lv_iload hx hb d_La_law_829 (lv_at hl 1 rfl) ?_
        refine lv_icmp_eq (tgt := 836) hx hb d_La_law_831 (by decide) (fun h => ?_) (fun h => ?_)
        · exact absurd h (by decide)
        · skip
          refine lv_iconst (v := 0) hx hb d_La_law_834 (by decide) ?_
          exact vc.elim
      · have vc := vc.2 hv2
        refine wc_2 (As := [.int k1, .int k2, .int k3]) (rest := []) S (c_Mo_list_3 l D b cI cJ cZ mki msz mle mel mme mal mic mil mio mab mae msa mlc mli mna mva mma mch mre mlv mwr msh mth mnv mns mfa mmo k1 k2 k3 hpre hv1 hv2) k_Mo_list i_Mo_list e_Mo_list o_Mo ml_La_122 hd_Mo_list (Nat.le_trans (by decide) hRf) (Nat.le_trans (by decide) hRl) hRc (va_recv hK hP.r (q0 := 0) (ci := 6) rfl rfl) hK hP hD hS hA hl.1 rfl (Nat.le_of_ble_eq_true rfl) d_La_law_820 (fun _ H locs _ hP hD hS => ?_)
        refine lv_istore hx hb d_La_law_823 hl (by decide) (lv' := [(6, .int (mlc (4 * k1 + k2 - 29 : Int32).toNatClampNeg + 1)), (5, .int 1), (4, .int i), (3, .ref (a 25)), (2, .ref (b 0)), (1, .ref (a 24)), (0, .ref sc)]) rfl (fun ls hl => ?_)
        refine lv_aload_n hx hb d_La_law_825 rfl (lv_at hl 4 rfl) ?_
        refine pc_V (As := []) (rest := []) S (c_Mo_thrown l D b cI cJ cZ mki msz mle mel mme mal mic mil mio mab mae msa (upd mlc (4 * k1 + k2 - 29 : Int32).toNatClampNeg (mlc (4 * k1 + k2 - 29 : Int32).toNatClampNeg + 1)) (upd mli (3 * (4 * k1 + k2 - 29) + mlc (4 * k1 + k2 - 29 : Int32).toNatClampNeg : Int32).toNatClampNeg k3) mna mva mma mch mre mlv mwr msh 0 mnv mns mfa mmo) wB_blind k_Mo_thrown i_Mo_thrown e_Mo_thrown o_Mo ml_La_84 hd_Mo_thrown (Nat.le_trans (by decide) hRf) (Nat.le_trans (by decide) hRl) hRc (va_recv hK hP.r (q0 := 0) (ci := 6) rfl rfl) (wB_at hP.r hK) hl.1 rfl (Nat.le_of_ble_eq_true rfl) d_La_law_826 ?_
        refine lv_iload hx hb d_La_law_829 (lv_at hl 1 rfl) ?_
        refine lv_icmp_eq (tgt := 836) hx hb d_La_law_831 (by decide) (fun h => ?_) (fun h => ?_)
        · exact absurd h (by decide)
        · skip
          refine lv_iconst (v := 0) hx hb d_La_law_834 (by decide) ?_
          exact vc.elim
  · have vc := vc.2 hv1
    by_cases hv2 : 3 ≤ le (k1 * 4 + k2 - 29 : Int32).toNatClampNeg
    · have vc := vc.1 hv2
      refine hc_1 (As := [.ref (a 24), .int k1, .int k2, .int k3, .ref (a 25)]) (rest := []) S (c_La_list_2 l hls D a cI cJ cZ ki co pr pa tw nv sv pn pl po pf pt ru le li bn ip aw ns ch ma br tl ou k1 k2 k3 hpre hv1 hv2) kw_La_list s_La_list o_La ml_La_120 hd_La_list (Nat.le_trans (by decide) hRf) (Nat.le_trans (by decide) hRl) hRc hK hP hD hS hA hX hN hl.1 rfl (Nat.le_of_ble_eq_true rfl) d_La_law_796 (fun _ H locs _ hP hD hS => ?_)
      refine lv_istore hx hb d_La_law_799 hl (by decide) (lv' := [(5, .int 2), (4, .int i), (3, .ref (a 25)), (2, .ref (b 0)), (1, .ref (a 24)), (0, .ref sc)]) rfl (fun ls hl => ?_)
      refine lv_aload_n hx hb d_La_law_801 rfl (lv_at hl 3 rfl) ?_
      refine lv_aload_n hx hb d_La_law_802 rfl (lv_at hl 5 rfl) ?_
      refine lv_iload hx hb d_La_law_803 (lv_at hl 1 rfl) ?_
      refine lv_iconst (v := 1) hx hb d_La_law_805 (by decide) ?_
      refine lv_iadd hx hb d_La_law_806 ?_
      refine va_sld hx hb hXs hbl hbA hS hi1 d_La_law_807 ?_
      rw [e1]
      refine lv_aload_n hx hb d_La_law_808 rfl (lv_at hl 5 rfl) ?_
      refine lv_iload hx hb d_La_law_809 (lv_at hl 1 rfl) ?_
      refine lv_iconst (v := 2) hx hb d_La_law_811 (by decide) ?_
      refine lv_iadd hx hb d_La_law_812 ?_
      refine va_sld hx hb hXs hbl hbA hS hi2 d_La_law_813 ?_
      rw [e2]
      refine lv_aload_n hx hb d_La_law_814 rfl (lv_at hl 5 rfl) ?_
      refine lv_iload hx hb d_La_law_815 (lv_at hl 1 rfl) ?_
      refine lv_iconst (v := 3) hx hb d_La_law_817 (by decide) ?_
      refine lv_iadd hx hb d_La_law_818 ?_
      refine va_sld hx hb hXs hbl hbA hS hi3 d_La_law_819 ?_
      rw [e3]
      obtain ⟨hpre, vc⟩ := vc
      by_cases hv1 : ¬ (sHas mns k1 && (sIn k2 29 32 && sHas mns k3)) = true
      · have vc := vc.1 hv1
        refine wc_2 (As := [.int k1, .int k2, .int k3]) (rest := []) S (c_Mo_list_1 l D b cI cJ cZ mki msz mle mel mme mal mic mil mio mab mae msa mlc mli mna mva mma mch mre mlv mwr msh mth mnv mns mfa mmo k1 k2 k3 hpre hv1) k_Mo_list i_Mo_list e_Mo_list o_Mo ml_La_122 hd_Mo_list (Nat.le_trans (by decide) hRf) (Nat.le_trans (by decide) hRl) hRc (va_recv hK hP.r (q0 := 0) (ci := 6) rfl rfl) hK hP hD hS hA hl.1 rfl (Nat.le_of_ble_eq_true rfl) d_La_law_820 (fun _ H locs _ hP hD hS => ?_)
        refine lv_istore hx hb d_La_law_823 hl (by decide) (lv' := [(6, .int 0), (5, .int 2), (4, .int i), (3, .ref (a 25)), (2, .ref (b 0)), (1, .ref (a 24)), (0, .ref sc)]) rfl (fun ls hl => ?_)
        refine lv_aload_n hx hb d_La_law_825 rfl (lv_at hl 4 rfl) ?_
        refine pc_V (As := []) (rest := []) S (c_Mo_thrown l D b cI cJ cZ mki msz mle mel mme mal mic mil mio mab mae msa mlc mli mna mva mma mch mre mlv mwr msh 1 mnv mns mfa mmo) wB_blind k_Mo_thrown i_Mo_thrown e_Mo_thrown o_Mo ml_La_84 hd_Mo_thrown (Nat.le_trans (by decide) hRf) (Nat.le_trans (by decide) hRl) hRc (va_recv hK hP.r (q0 := 0) (ci := 6) rfl rfl) (wB_at hP.r hK) hl.1 rfl (Nat.le_of_ble_eq_true rfl) d_La_law_826 ?_
        refine lv_iload hx hb d_La_law_829 (lv_at hl 1 rfl) ?_
        refine lv_icmp_eq (tgt := 836) hx hb d_La_law_831 (by decide) (fun h => ?_) (fun h => ?_)
        · exact absurd h (by decide)
        · skip
          refine lv_iconst (v := 0) hx hb d_La_law_834 (by decide) ?_
          exact vc.elim
      · have vc := vc.2 hv1
        by_cases hv2 : mlc (4 * k1 + k2 - 29 : Int32).toNatClampNeg = 3
        · have vc := vc.1 hv2
          refine wc_2 (As := [.int k1, .int k2, .int k3]) (rest := []) S (c_Mo_list_2 l D b cI cJ cZ mki msz mle mel mme mal mic mil mio mab mae msa mlc mli mna mva mma mch mre mlv mwr msh mth mnv mns mfa mmo k1 k2 k3 hpre hv1 hv2) k_Mo_list i_Mo_list e_Mo_list o_Mo ml_La_122 hd_Mo_list (Nat.le_trans (by decide) hRf) (Nat.le_trans (by decide) hRl) hRc (va_recv hK hP.r (q0 := 0) (ci := 6) rfl rfl) hK hP hD hS hA hl.1 rfl (Nat.le_of_ble_eq_true rfl) d_La_law_820 (fun _ H locs _ hP hD hS => ?_)
          refine lv_istore hx hb d_La_law_823 hl (by decide) (lv' := [(6, .int 0), (5, .int 2), (4, .int i), (3, .ref (a 25)), (2, .ref (b 0)), (1, .ref (a 24)), (0, .ref sc)]) rfl (fun ls hl => ?_)
          refine lv_aload_n hx hb d_La_law_825 rfl (lv_at hl 4 rfl) ?_
          refine pc_V (As := []) (rest := []) S (c_Mo_thrown l D b cI cJ cZ mki msz mle mel mme mal mic mil mio mab mae msa mlc mli mna mva mma mch mre mlv mwr msh 2 mnv mns mfa mmo) wB_blind k_Mo_thrown i_Mo_thrown e_Mo_thrown o_Mo ml_La_84 hd_Mo_thrown (Nat.le_trans (by decide) hRf) (Nat.le_trans (by decide) hRl) hRc (va_recv hK hP.r (q0 := 0) (ci := 6) rfl rfl) (wB_at hP.r hK) hl.1 rfl (Nat.le_of_ble_eq_true rfl) d_La_law_826 ?_
          refine lv_iload hx hb d_La_law_829 (lv_at hl 1 rfl) ?_
          refine lv_icmp_eq (tgt := 836) hx hb d_La_law_831 (by decide) (fun h => ?_) (fun h => ?_)
          · skip
            refine lv_iload hx hb d_La_law_836 (lv_at hl 1 rfl) ?_
            refine lv_if_ne (tgt := 853) hx hb d_La_law_838 (by decide) (fun h => ?_) (fun h => ?_)
            · skip
              refine lv_goto (tgt := 1215) hx hb d_La_law_853 (by decide) ?_
              exact hnext ki co pr pa tw nv sv pn pl po pf pt ru le li bn ip aw ns ch ma br tl ou mki msz mle mel mme mal mic mil mio mab mae msa mlc mli mna mva mma mch mre mlv mwr msh 2 mnv mns mfa mmo ls H locs vc (lv_sub hl [6, 5, 4, 3, 2] rfl) hP hD hS
            · exact absurd h (by decide)
          · exact absurd h (by decide)
        · have vc := vc.2 hv2
          refine wc_2 (As := [.int k1, .int k2, .int k3]) (rest := []) S (c_Mo_list_3 l D b cI cJ cZ mki msz mle mel mme mal mic mil mio mab mae msa mlc mli mna mva mma mch mre mlv mwr msh mth mnv mns mfa mmo k1 k2 k3 hpre hv1 hv2) k_Mo_list i_Mo_list e_Mo_list o_Mo ml_La_122 hd_Mo_list (Nat.le_trans (by decide) hRf) (Nat.le_trans (by decide) hRl) hRc (va_recv hK hP.r (q0 := 0) (ci := 6) rfl rfl) hK hP hD hS hA hl.1 rfl (Nat.le_of_ble_eq_true rfl) d_La_law_820 (fun _ H locs _ hP hD hS => ?_)
          refine lv_istore hx hb d_La_law_823 hl (by decide) (lv' := [(6, .int (mlc (4 * k1 + k2 - 29 : Int32).toNatClampNeg + 1)), (5, .int 2), (4, .int i), (3, .ref (a 25)), (2, .ref (b 0)), (1, .ref (a 24)), (0, .ref sc)]) rfl (fun ls hl => ?_)
          refine lv_aload_n hx hb d_La_law_825 rfl (lv_at hl 4 rfl) ?_
          refine pc_V (As := []) (rest := []) S (c_Mo_thrown l D b cI cJ cZ mki msz mle mel mme mal mic mil mio mab mae msa (upd mlc (4 * k1 + k2 - 29 : Int32).toNatClampNeg (mlc (4 * k1 + k2 - 29 : Int32).toNatClampNeg + 1)) (upd mli (3 * (4 * k1 + k2 - 29) + mlc (4 * k1 + k2 - 29 : Int32).toNatClampNeg : Int32).toNatClampNeg k3) mna mva mma mch mre mlv mwr msh 0 mnv mns mfa mmo) wB_blind k_Mo_thrown i_Mo_thrown e_Mo_thrown o_Mo ml_La_84 hd_Mo_thrown (Nat.le_trans (by decide) hRf) (Nat.le_trans (by decide) hRl) hRc (va_recv hK hP.r (q0 := 0) (ci := 6) rfl rfl) (wB_at hP.r hK) hl.1 rfl (Nat.le_of_ble_eq_true rfl) d_La_law_826 ?_
          refine lv_iload hx hb d_La_law_829 (lv_at hl 1 rfl) ?_
          refine lv_icmp_eq (tgt := 836) hx hb d_La_law_831 (by decide) (fun h => ?_) (fun h => ?_)
          · exact absurd h (by decide)
          · skip
            refine lv_iconst (v := 0) hx hb d_La_law_834 (by decide) ?_
            exact vc.elim
    · have vc := vc.2 hv2
      refine hc_1 (As := [.ref (a 24), .int k1, .int k2, .int k3, .ref (a 25)]) (rest := []) S (c_La_list_3 l hls D a cI cJ cZ ki co pr pa tw nv sv pn pl po pf pt ru le li bn ip aw ns ch ma br tl ou k1 k2 k3 hpre hv1 hv2) kw_La_list s_La_list o_La ml_La_120 hd_La_list (Nat.le_trans (by decide) hRf) (Nat.le_trans (by decide) hRl) hRc hK hP hD hS hA hX hN hl.1 rfl (Nat.le_of_ble_eq_true rfl) d_La_law_796 (fun _ H locs _ hP hD hS => ?_)
      refine lv_istore hx hb d_La_law_799 hl (by decide) (lv' := [(5, .int 0), (4, .int i), (3, .ref (a 25)), (2, .ref (b 0)), (1, .ref (a 24)), (0, .ref sc)]) rfl (fun ls hl => ?_)
      refine lv_aload_n hx hb d_La_law_801 rfl (lv_at hl 3 rfl) ?_
      refine lv_aload_n hx hb d_La_law_802 rfl (lv_at hl 5 rfl) ?_
      refine lv_iload hx hb d_La_law_803 (lv_at hl 1 rfl) ?_
      refine lv_iconst (v := 1) hx hb d_La_law_805 (by decide) ?_
      refine lv_iadd hx hb d_La_law_806 ?_
      refine va_sld hx hb hXs hbl hbA hS hi1 d_La_law_807 ?_
      rw [e1]
      refine lv_aload_n hx hb d_La_law_808 rfl (lv_at hl 5 rfl) ?_
      refine lv_iload hx hb d_La_law_809 (lv_at hl 1 rfl) ?_
      refine lv_iconst (v := 2) hx hb d_La_law_811 (by decide) ?_
      refine lv_iadd hx hb d_La_law_812 ?_
      refine va_sld hx hb hXs hbl hbA hS hi2 d_La_law_813 ?_
      rw [e2]
      refine lv_aload_n hx hb d_La_law_814 rfl (lv_at hl 5 rfl) ?_
      refine lv_iload hx hb d_La_law_815 (lv_at hl 1 rfl) ?_
      refine lv_iconst (v := 3) hx hb d_La_law_817 (by decide) ?_
      refine lv_iadd hx hb d_La_law_818 ?_
      refine va_sld hx hb hXs hbl hbA hS hi3 d_La_law_819 ?_
      rw [e3]
      obtain ⟨hpre, vc⟩ := vc
      by_cases hv1 : ¬ (sHas mns k1 && (sIn k2 29 32 && sHas mns k3)) = true
      · have vc := vc.1 hv1
        refine wc_2 (As := [.int k1, .int k2, .int k3]) (rest := []) S (c_Mo_list_1 l D b cI cJ cZ mki msz mle mel mme mal mic mil mio mab mae msa mlc mli mna mva mma mch mre mlv mwr msh mth mnv mns mfa mmo k1 k2 k3 hpre hv1) k_Mo_list i_Mo_list e_Mo_list o_Mo ml_La_122 hd_Mo_list (Nat.le_trans (by decide) hRf) (Nat.le_trans (by decide) hRl) hRc (va_recv hK hP.r (q0 := 0) (ci := 6) rfl rfl) hK hP hD hS hA hl.1 rfl (Nat.le_of_ble_eq_true rfl) d_La_law_820 (fun _ H locs _ hP hD hS => ?_)
        refine lv_istore hx hb d_La_law_823 hl (by decide) (lv' := [(6, .int 0), (5, .int 0), (4, .int i), (3, .ref (a 25)), (2, .ref (b 0)), (1, .ref (a 24)), (0, .ref sc)]) rfl (fun ls hl => ?_)
        refine lv_aload_n hx hb d_La_law_825 rfl (lv_at hl 4 rfl) ?_
        refine pc_V (As := []) (rest := []) S (c_Mo_thrown l D b cI cJ cZ mki msz mle mel mme mal mic mil mio mab mae msa mlc mli mna mva mma mch mre mlv mwr msh 1 mnv mns mfa mmo) wB_blind k_Mo_thrown i_Mo_thrown e_Mo_thrown o_Mo ml_La_84 hd_Mo_thrown (Nat.le_trans (by decide) hRf) (Nat.le_trans (by decide) hRl) hRc (va_recv hK hP.r (q0 := 0) (ci := 6) rfl rfl) (wB_at hP.r hK) hl.1 rfl (Nat.le_of_ble_eq_true rfl) d_La_law_826 ?_
        refine lv_iload hx hb d_La_law_829 (lv_at hl 1 rfl) ?_
        refine lv_icmp_eq (tgt := 836) hx hb d_La_law_831 (by decide) (fun h => ?_) (fun h => ?_)
        · exact absurd h (by decide)
        · skip
          refine lv_iconst (v := 0) hx hb d_La_law_834 (by decide) ?_
          exact vc.elim
      · have vc := vc.2 hv1
        by_cases hv2 : mlc (4 * k1 + k2 - 29 : Int32).toNatClampNeg = 3
        · have vc := vc.1 hv2
          refine wc_2 (As := [.int k1, .int k2, .int k3]) (rest := []) S (c_Mo_list_2 l D b cI cJ cZ mki msz mle mel mme mal mic mil mio mab mae msa mlc mli mna mva mma mch mre mlv mwr msh mth mnv mns mfa mmo k1 k2 k3 hpre hv1 hv2) k_Mo_list i_Mo_list e_Mo_list o_Mo ml_La_122 hd_Mo_list (Nat.le_trans (by decide) hRf) (Nat.le_trans (by decide) hRl) hRc (va_recv hK hP.r (q0 := 0) (ci := 6) rfl rfl) hK hP hD hS hA hl.1 rfl (Nat.le_of_ble_eq_true rfl) d_La_law_820 (fun _ H locs _ hP hD hS => ?_)
          refine lv_istore hx hb d_La_law_823 hl (by decide) (lv' := [(6, .int 0), (5, .int 0), (4, .int i), (3, .ref (a 25)), (2, .ref (b 0)), (1, .ref (a 24)), (0, .ref sc)]) rfl (fun ls hl => ?_)
          refine lv_aload_n hx hb d_La_law_825 rfl (lv_at hl 4 rfl) ?_
          refine pc_V (As := []) (rest := []) S (c_Mo_thrown l D b cI cJ cZ mki msz mle mel mme mal mic mil mio mab mae msa mlc mli mna mva mma mch mre mlv mwr msh 2 mnv mns mfa mmo) wB_blind k_Mo_thrown i_Mo_thrown e_Mo_thrown o_Mo ml_La_84 hd_Mo_thrown (Nat.le_trans (by decide) hRf) (Nat.le_trans (by decide) hRl) hRc (va_recv hK hP.r (q0 := 0) (ci := 6) rfl rfl) (wB_at hP.r hK) hl.1 rfl (Nat.le_of_ble_eq_true rfl) d_La_law_826 ?_
          refine lv_iload hx hb d_La_law_829 (lv_at hl 1 rfl) ?_
          refine lv_icmp_eq (tgt := 836) hx hb d_La_law_831 (by decide) (fun h => ?_) (fun h => ?_)
          · exact absurd h (by decide)
          · skip
            refine lv_iconst (v := 0) hx hb d_La_law_834 (by decide) ?_
            exact vc.elim
        · have vc := vc.2 hv2
          refine wc_2 (As := [.int k1, .int k2, .int k3]) (rest := []) S (c_Mo_list_3 l D b cI cJ cZ mki msz mle mel mme mal mic mil mio mab mae msa mlc mli mna mva mma mch mre mlv mwr msh mth mnv mns mfa mmo k1 k2 k3 hpre hv1 hv2) k_Mo_list i_Mo_list e_Mo_list o_Mo ml_La_122 hd_Mo_list (Nat.le_trans (by decide) hRf) (Nat.le_trans (by decide) hRl) hRc (va_recv hK hP.r (q0 := 0) (ci := 6) rfl rfl) hK hP hD hS hA hl.1 rfl (Nat.le_of_ble_eq_true rfl) d_La_law_820 (fun _ H locs _ hP hD hS => ?_)
          refine lv_istore hx hb d_La_law_823 hl (by decide) (lv' := [(6, .int (mlc (4 * k1 + k2 - 29 : Int32).toNatClampNeg + 1)), (5, .int 0), (4, .int i), (3, .ref (a 25)), (2, .ref (b 0)), (1, .ref (a 24)), (0, .ref sc)]) rfl (fun ls hl => ?_)
          refine lv_aload_n hx hb d_La_law_825 rfl (lv_at hl 4 rfl) ?_
          refine pc_V (As := []) (rest := []) S (c_Mo_thrown l D b cI cJ cZ mki msz mle mel mme mal mic mil mio mab mae msa (upd mlc (4 * k1 + k2 - 29 : Int32).toNatClampNeg (mlc (4 * k1 + k2 - 29 : Int32).toNatClampNeg + 1)) (upd mli (3 * (4 * k1 + k2 - 29) + mlc (4 * k1 + k2 - 29 : Int32).toNatClampNeg : Int32).toNatClampNeg k3) mna mva mma mch mre mlv mwr msh 0 mnv mns mfa mmo) wB_blind k_Mo_thrown i_Mo_thrown e_Mo_thrown o_Mo ml_La_84 hd_Mo_thrown (Nat.le_trans (by decide) hRf) (Nat.le_trans (by decide) hRl) hRc (va_recv hK hP.r (q0 := 0) (ci := 6) rfl rfl) (wB_at hP.r hK) hl.1 rfl (Nat.le_of_ble_eq_true rfl) d_La_law_826 ?_
          refine lv_iload hx hb d_La_law_829 (lv_at hl 1 rfl) ?_
          refine lv_icmp_eq (tgt := 836) hx hb d_La_law_831 (by decide) (fun h => ?_) (fun h => ?_)
          · skip
            refine lv_iload hx hb d_La_law_836 (lv_at hl 1 rfl) ?_
            refine lv_if_ne (tgt := 853) hx hb d_La_law_838 (by decide) (fun h => ?_) (fun h => ?_)
            · exact absurd h (by decide)
            · skip
              refine lv_aload_n hx hb d_La_law_841 rfl (lv_at hl 3 rfl) ?_
              refine lv_iconst (v := 0) hx hb d_La_law_842 (by decide) ?_
              refine va_lald hx hb hK hP.l 25 1 rfl rfl h01 d_La_law_843 ?_
              refine lv_iload hx hb d_La_law_844 (lv_at hl 0 rfl) ?_
              refine lv_i2l hx hb d_La_law_846 rfl ?_
              refine W.lcmp hx hb d_La_law_847 ?_
              refine lv_if_eq (tgt := 853) hx hb d_La_law_848 (by decide) (fun h => ?_) (fun h => ?_)
              · have vc := vc.1 h
                refine lv_goto (tgt := 1215) hx hb d_La_law_853 (by decide) ?_
                exact hnext ki co pr pa tw nv sv pn pl po pf pt ru (upd le (k1 * 4 + k2 - 29 : Int32).toNatClampNeg (le (k1 * 4 + k2 - 29 : Int32).toNatClampNeg + 1)) (upd li ((k1 * 4 + k2 - 29) * 3 + le (k1 * 4 + k2 - 29 : Int32).toNatClampNeg : Int32).toNatClampNeg k3) bn ip aw ns ch ma br tl (vp_updL ou 0 ((le (k1 * 4 + k2 - 29 : Int32).toNatClampNeg + 1 : Int32).toInt64)) mki msz mle mel mme mal mic mil mio mab mae msa (upd mlc (4 * k1 + k2 - 29 : Int32).toNatClampNeg (mlc (4 * k1 + k2 - 29 : Int32).toNatClampNeg + 1)) (upd mli (3 * (4 * k1 + k2 - 29) + mlc (4 * k1 + k2 - 29 : Int32).toNatClampNeg : Int32).toNatClampNeg k3) mna mva mma mch mre mlv mwr msh 0 mnv mns mfa mmo ls H locs vc (lv_sub hl [6, 5, 4, 3, 2] rfl) hP hD hS
              · have vc := vc.2 h
                refine lv_iconst (v := 0) hx hb d_La_law_851 (by decide) ?_
                exact vc.elim
          · exact absurd h (by decide)
def V_L11 (ki : Nat → Int32) (co : Nat → Int64) (pr : Nat → Int32) (pa : Nat → Int32) (tw : Nat → Int32) (nv : Int32) (sv : Int32) (pn : Nat → Int32) (pl : Nat → Int32) (po : Nat → Int32) (pf : Nat → Int32) (pt : Nat → Int32) (ru : Nat → Int32) (le : Nat → Int32) (li : Nat → Int32) (bn : Nat → Int32) (ip : Nat → Int32) (aw : Nat → Int32) (ns : Int32) (ch : Nat → Int32) (ma : Nat → Int32) (br : Nat → Int64) (tl : Int32) (ou : Nat → Int64) (mki : Nat → Int32) (msz : Nat → Int64) (mle : Nat → Int32) (mel : Nat → Int32) (mme : Nat → Int32) (mal : Nat → Int32) (mic : Nat → Int32) (mil : Nat → Int32) (mio : Nat → Int32) (mab : Nat → Int32) (mae : Nat → Int32) (msa : Nat → Int32) (mlc : Nat → Int32) (mli : Nat → Int32) (mna : Nat → Int32) (mva : Nat → Int32) (mma : Nat → Int32) (mch : Nat → Int32) (mre : Nat → Int32) (mlv : Nat → Int32) (mwr : Nat → Int64) (msh : Nat → Int32) (mth : Int32) (mnv : Int32) (mns : Int32) (mfa : Int32) (mmo : Int32) (k1 k2 k3 k4 : Int32) (post : (Nat → Int32) → (Nat → Int64) → (Nat → Int32) → (Nat → Int32) → (Nat → Int32) → Int32 → Int32 → (Nat → Int32) → (Nat → Int32) → (Nat → Int32) → (Nat → Int32) → (Nat → Int32) → (Nat → Int32) → (Nat → Int32) → (Nat → Int32) → (Nat → Int32) → (Nat → Int32) → (Nat → Int32) → Int32 → (Nat → Int32) → (Nat → Int32) → (Nat → Int64) → Int32 → (Nat → Int64) → (Nat → Int32) → (Nat → Int64) → (Nat → Int32) → (Nat → Int32) → (Nat → Int32) → (Nat → Int32) → (Nat → Int32) → (Nat → Int32) → (Nat → Int32) → (Nat → Int32) → (Nat → Int32) → (Nat → Int32) → (Nat → Int32) → (Nat → Int32) → (Nat → Int32) → (Nat → Int32) → (Nat → Int32) → (Nat → Int32) → (Nat → Int32) → (Nat → Int32) → (Nat → Int64) → (Nat → Int32) → Int32 → Int32 → Int32 → Int32 → Int32 → Prop) : Prop :=
  (ns ≤ 24 ∧ ((¬ ((sHas ns k1 && (sIn k2 33 35 && sIn k3 0 11)) = true ∧ (k4 = -1 ∨ (if k2 = 35 then sIn k4 0 4095 else sHas ns k4) = true)) → (mns ≤ 24 ∧ ((¬ ((sHas mns k1 && (sIn k2 33 35 && sIn k3 0 11)) = true ∧ (k4 = -1 ∨ (if k2 = 35 then sIn k4 0 4095 else sHas mns k4) = true)) → post ki co pr pa tw nv sv pn pl po pf pt ru le li bn ip aw ns ch ma br tl ou mki msz mle mel mme mal mic mil mio mab mae msa mlc mli mna mva mma mch mre mlv mwr msh 1 mnv mns mfa mmo) ∧ (¬ (¬ ((sHas mns k1 && (sIn k2 33 35 && sIn k3 0 11)) = true ∧ (k4 = -1 ∨ (if k2 = 35 then sIn k4 0 4095 else sHas mns k4) = true))) → False)))) ∧ (¬ (¬ ((sHas ns k1 && (sIn k2 33 35 && sIn k3 0 11)) = true ∧ (k4 = -1 ∨ (if k2 = 35 then sIn k4 0 4095 else sHas ns k4) = true))) → (mns ≤ 24 ∧ ((¬ ((sHas mns k1 && (sIn k2 33 35 && sIn k3 0 11)) = true ∧ (k4 = -1 ∨ (if k2 = 35 then sIn k4 0 4095 else sHas mns k4) = true)) → False) ∧ (¬ (¬ ((sHas mns k1 && (sIn k2 33 35 && sIn k3 0 11)) = true ∧ (k4 = -1 ∨ (if k2 = 35 then sIn k4 0 4095 else sHas mns k4) = true))) → post ki co pr pa tw nv sv pn pl po pf pt ru le li (upd bn ((k1 * 3 + k2 - 33) * 12 + k3 : Int32).toNatClampNeg k4) ip aw ns ch ma br tl ou mki msz mle mel mme mal mic mil mio mab mae msa mlc mli (upd mna (36 * k1 + 12 * (k2 - 33) + k3 : Int32).toNatClampNeg k4) mva mma mch mre mlv mwr msh 0 mnv mns mfa mmo))))))
set_option maxHeartbeats 4000000 in
set_option maxRecDepth 100000 in
theorem g_L11 {p : Program} {l : Launch} {e : Env} {R : Room} {s : State} {m : MethodId} {args : Array Value} {below : List Frame} {meth : Method} {c : Code} {H : Heap} {locs : List Loc} {cells slots : Nat} {Q : State → Prop} {ls : Array Slot} {A : Nat → Prop} (hls : l.stackTraces = false) (S : CallFix p m c code 7 s args W0 "SchemaJudgeLaw") (hN : eN s) (hRf : 8 ≤ R.frames) (hRl : 140 ≤ R.locals) (hRc : cells + 1 ≤ R.cells ∧ slots + 6 ≤ R.slots) (D : va_G) (a b : Nat → Nat) (cI cJ cZ : ClassId) (ki : Nat → Int32) (co : Nat → Int64) (pr : Nat → Int32) (pa : Nat → Int32) (tw : Nat → Int32) (nv : Int32) (sv : Int32) (pn : Nat → Int32) (pl : Nat → Int32) (po : Nat → Int32) (pf : Nat → Int32) (pt : Nat → Int32) (ru : Nat → Int32) (le : Nat → Int32) (li : Nat → Int32) (bn : Nat → Int32) (ip : Nat → Int32) (aw : Nat → Int32) (ns : Int32) (ch : Nat → Int32) (ma : Nat → Int32) (br : Nat → Int64) (tl : Int32) (ou : Nat → Int64) (mki : Nat → Int32) (msz : Nat → Int64) (mle : Nat → Int32) (mel : Nat → Int32) (mme : Nat → Int32) (mal : Nat → Int32) (mic : Nat → Int32) (mil : Nat → Int32) (mio : Nat → Int32) (mab : Nat → Int32) (mae : Nat → Int32) (msa : Nat → Int32) (mlc : Nat → Int32) (mli : Nat → Int32) (mna : Nat → Int32) (mva : Nat → Int32) (mma : Nat → Int32) (mch : Nat → Int32) (mre : Nat → Int32) (mlv : Nat → Int32) (mwr : Nat → Int64) (msh : Nat → Int32) (mth : Int32) (mnv : Int32) (mns : Int32) (mfa : Int32) (mmo : Int32) (k1 k2 k3 k4 : Int32) (sc L : Nat) (xs : Nat → Int32) (i : Int32) (hXs : va_X sc L xs s s.heap) (hbl : sc < s.heap.size) (hbA : ¬ A sc) (hi1 : vp_in (i + 1) L) (e1 : xs (i + 1 : Int32).toNatClampNeg = k1) (hi2 : vp_in (i + 2) L) (e2 : xs (i + 2 : Int32).toNatClampNeg = k2) (hi3 : vp_in (i + 3) L) (e3 : xs (i + 3 : Int32).toNatClampNeg = k3) (hi4 : vp_in (i + 4) L) (e4 : xs (i + 4 : Int32).toNatClampNeg = k4) (hK : va_K D vwCl (tyA cI cJ cZ) s) (hP : va_P D vwCl ((wX a ++ wV a cI cJ ki co pr pa tw nv sv ++ wP a cI cZ pn pl po pf pt ++ wS a cI ru le li bn ip aw ns ++ wL a ++ wJ a cI cJ ch ma br tl ++ wO a cJ ou) ++ (wM b cI cJ cZ mki msz mle mel mme mal mic mil mio mab mae msa mlc mli mna mva mma mch mre mlv mwr msh mth mnv mns mfa mmo)) H) (hD : va_D A ((wX a ++ wV a cI cJ ki co pr pa tw nv sv ++ wP a cI cZ pn pl po pf pt ++ wS a cI ru le li bn ip aw ns ++ wL a ++ wJ a cI cJ ch ma br tl ++ wO a cJ ou) ++ (wM b cI cJ cZ mki msz mle mel mme mal mic mil mio mab mae msa mlc mli mna mva mma mch mre mlv mwr msh mth mnv mns mfa mmo))) (hA : ∀ q, s.heap.size ≤ q → A q) (hS : va_S A s.heap H locs) (hX : eX A s s.heap) (hl : lv_has ls 7 [(4, .int i), (3, .ref (a 25)), (2, .ref (b 0)), (1, .ref (a 24)), (0, .ref sc)]) {post : (Nat → Int32) → (Nat → Int64) → (Nat → Int32) → (Nat → Int32) → (Nat → Int32) → Int32 → Int32 → (Nat → Int32) → (Nat → Int32) → (Nat → Int32) → (Nat → Int32) → (Nat → Int32) → (Nat → Int32) → (Nat → Int32) → (Nat → Int32) → (Nat → Int32) → (Nat → Int32) → (Nat → Int32) → Int32 → (Nat → Int32) → (Nat → Int32) → (Nat → Int64) → Int32 → (Nat → Int64) → (Nat → Int32) → (Nat → Int64) → (Nat → Int32) → (Nat → Int32) → (Nat → Int32) → (Nat → Int32) → (Nat → Int32) → (Nat → Int32) → (Nat → Int32) → (Nat → Int32) → (Nat → Int32) → (Nat → Int32) → (Nat → Int32) → (Nat → Int32) → (Nat → Int32) → (Nat → Int32) → (Nat → Int32) → (Nat → Int32) → (Nat → Int32) → (Nat → Int32) → (Nat → Int64) → (Nat → Int32) → Int32 → Int32 → Int32 → Int32 → Int32 → Prop} (vc : V_L11 ki co pr pa tw nv sv pn pl po pf pt ru le li bn ip aw ns ch ma br tl ou mki msz mle mel mme mal mic mil mio mab mae msa mlc mli mna mva mma mch mre mlv mwr msh mth mnv mns mfa mmo k1 k2 k3 k4 post)
    (hnext : ∀ (ki : Nat → Int32) (co : Nat → Int64) (pr : Nat → Int32) (pa : Nat → Int32) (tw : Nat → Int32) (nv : Int32) (sv : Int32) (pn : Nat → Int32) (pl : Nat → Int32) (po : Nat → Int32) (pf : Nat → Int32) (pt : Nat → Int32) (ru : Nat → Int32) (le : Nat → Int32) (li : Nat → Int32) (bn : Nat → Int32) (ip : Nat → Int32) (aw : Nat → Int32) (ns : Int32) (ch : Nat → Int32) (ma : Nat → Int32) (br : Nat → Int64) (tl : Int32) (ou : Nat → Int64) (mki : Nat → Int32) (msz : Nat → Int64) (mle : Nat → Int32) (mel : Nat → Int32) (mme : Nat → Int32) (mal : Nat → Int32) (mic : Nat → Int32) (mil : Nat → Int32) (mio : Nat → Int32) (mab : Nat → Int32) (mae : Nat → Int32) (msa : Nat → Int32) (mlc : Nat → Int32) (mli : Nat → Int32) (mna : Nat → Int32) (mva : Nat → Int32) (mma : Nat → Int32) (mch : Nat → Int32) (mre : Nat → Int32) (mlv : Nat → Int32) (mwr : Nat → Int64) (msh : Nat → Int32) (mth : Int32) (mnv : Int32) (mns : Int32) (mfa : Int32) (mmo : Int32) (ls : Array Slot) (H : Heap) (locs : List Loc), post ki co pr pa tw nv sv pn pl po pf pt ru le li bn ip aw ns ch ma br tl ou mki msz mle mel mme mal mic mil mio mab mae msa mlc mli mna mva mma mch mre mlv mwr msh mth mnv mns mfa mmo → lv_has ls 7 [(0, .ref sc), (1, .ref (a 24)), (2, .ref (b 0)), (3, .ref (a 25)), (4, .int i)] → va_P D vwCl ((wX a ++ wV a cI cJ ki co pr pa tw nv sv ++ wP a cI cZ pn pl po pf pt ++ wS a cI ru le li bn ip aw ns ++ wL a ++ wJ a cI cJ ch ma br tl ++ wO a cJ ou) ++ (wM b cI cJ cZ mki msz mle mel mme mal mic mil mio mab mae msa mlc mli mna mva mma mch mre mlv mwr msh mth mnv mns mfa mmo)) H → va_D A ((wX a ++ wV a cI cJ ki co pr pa tw nv sv ++ wP a cI cZ pn pl po pf pt ++ wS a cI ru le li bn ip aw ns ++ wL a ++ wJ a cI cJ ch ma br tl ++ wO a cJ ou) ++ (wM b cI cJ cZ mki msz mle mel mme mal mic mil mio mab mae msa mlc mli mna mva mma mch mre mlv mwr msh mth mnv mns mfa mmo)) → va_S A s.heap H locs → W p l e R s m args below meth c H locs (cells + 1) (slots + 6) Q (F0 m 1215 ls [])) : W p l e R s m args below meth c H locs cells slots Q (F0 m 856 ls []) := by
  have hx := S.1
  have hb := S.2.1
  have hown := S.2.2.2.1
  have hts := S.2.2.2.2
  have h01 : vp_in (0 : Int32) 1 := vp_in_nI (n := 0) (by decide) (by decide)
  unfold V_L11 at vc
  refine lv_aload_n hx hb d_La_law_856 rfl (lv_at hl 3 rfl) ?_
  refine lv_aload_n hx hb d_La_law_857 rfl (lv_at hl 4 rfl) ?_
  refine lv_iload hx hb d_La_law_858 (lv_at hl 0 rfl) ?_
  refine lv_iconst (v := 1) hx hb d_La_law_860 (by decide) ?_
  refine lv_iadd hx hb d_La_law_861 ?_
  refine va_sld hx hb hXs hbl hbA hS hi1 d_La_law_862 ?_
  rw [e1]
  refine lv_aload_n hx hb d_La_law_863 rfl (lv_at hl 4 rfl) ?_
  refine lv_iload hx hb d_La_law_864 (lv_at hl 0 rfl) ?_
  refine lv_iconst (v := 2) hx hb d_La_law_866 (by decide) ?_
  refine lv_iadd hx hb d_La_law_867 ?_
  refine va_sld hx hb hXs hbl hbA hS hi2 d_La_law_868 ?_
  rw [e2]
  refine lv_aload_n hx hb d_La_law_869 rfl (lv_at hl 4 rfl) ?_
  refine lv_iload hx hb d_La_law_870 (lv_at hl 0 rfl) ?_
  refine lv_iconst (v := 3) hx hb d_La_law_872 (by decide) ?_
  refine lv_iadd hx hb d_La_law_873 ?_
  refine va_sld hx hb hXs hbl hbA hS hi3 d_La_law_874 ?_
  rw [e3]
  refine lv_aload_n hx hb d_La_law_875 rfl (lv_at hl 4 rfl) ?_
  refine lv_iload hx hb d_La_law_876 (lv_at hl 0 rfl) ?_
  refine lv_iconst (v := 4) hx hb d_La_law_878 (by decide) ?_
  refine lv_iadd hx hb d_La_law_879 ?_
  refine va_sld hx hb hXs hbl hbA hS hi4 d_La_law_880 ?_
  rw [e4]
  obtain ⟨hpre, vc⟩ := vc
  by_cases hv1 : ¬ ((sHas ns k1 && (sIn k2 33 35 && sIn k3 0 11)) = true ∧ (k4 = -1 ∨ (if k2 = 35 then sIn k4 0 4095 else sHas ns k4) = true))
  · have vc := vc.1 hv1
    refine hc_1 (As := [.ref (a 24), .int k1, .int k2, .int k3, .int k4]) (rest := []) S (c_La_named_1 l hls D a cI cJ cZ ki co pr pa tw nv sv pn pl po pf pt ru le li bn ip aw ns ch ma br tl ou k1 k2 k3 k4 hpre hv1) kw_La_named s_La_named o_La ml_La_123 hd_La_named (Nat.le_trans (by decide) hRf) (Nat.le_trans (by decide) hRl) hRc hK hP hD hS hA hX hN hl.1 rfl (Nat.le_of_ble_eq_true rfl) d_La_law_881 (fun _ H locs _ hP hD hS => ?_)
    refine lv_istore hx hb d_La_law_884 hl (by decide) (lv' := [(5, .int 1), (4, .int i), (3, .ref (a 25)), (2, .ref (b 0)), (1, .ref (a 24)), (0, .ref sc)]) rfl (fun ls hl => ?_)
    refine lv_aload_n hx hb d_La_law_886 rfl (lv_at hl 3 rfl) ?_
    refine lv_aload_n hx hb d_La_law_887 rfl (lv_at hl 5 rfl) ?_
    refine lv_iload hx hb d_La_law_888 (lv_at hl 1 rfl) ?_
    refine lv_iconst (v := 1) hx hb d_La_law_890 (by decide) ?_
    refine lv_iadd hx hb d_La_law_891 ?_
    refine va_sld hx hb hXs hbl hbA hS hi1 d_La_law_892 ?_
    rw [e1]
    refine lv_aload_n hx hb d_La_law_893 rfl (lv_at hl 5 rfl) ?_
    refine lv_iload hx hb d_La_law_894 (lv_at hl 1 rfl) ?_
    refine lv_iconst (v := 2) hx hb d_La_law_896 (by decide) ?_
    refine lv_iadd hx hb d_La_law_897 ?_
    refine va_sld hx hb hXs hbl hbA hS hi2 d_La_law_898 ?_
    rw [e2]
    refine lv_aload_n hx hb d_La_law_899 rfl (lv_at hl 5 rfl) ?_
    refine lv_iload hx hb d_La_law_900 (lv_at hl 1 rfl) ?_
    refine lv_iconst (v := 3) hx hb d_La_law_902 (by decide) ?_
    refine lv_iadd hx hb d_La_law_903 ?_
    refine va_sld hx hb hXs hbl hbA hS hi3 d_La_law_904 ?_
    rw [e3]
    refine lv_aload_n hx hb d_La_law_905 rfl (lv_at hl 5 rfl) ?_
    refine lv_iload hx hb d_La_law_906 (lv_at hl 1 rfl) ?_
    refine lv_iconst (v := 4) hx hb d_La_law_908 (by decide) ?_
    refine lv_iadd hx hb d_La_law_909 ?_
    refine va_sld hx hb hXs hbl hbA hS hi4 d_La_law_910 ?_
    rw [e4]
    obtain ⟨hpre, vc⟩ := vc
    by_cases hv1 : ¬ ((sHas mns k1 && (sIn k2 33 35 && sIn k3 0 11)) = true ∧ (k4 = -1 ∨ (if k2 = 35 then sIn k4 0 4095 else sHas mns k4) = true))
    · have vc := vc.1 hv1
      refine wc_2 (As := [.int k1, .int k2, .int k3, .int k4]) (rest := []) S (c_Mo_named_1 l D b cI cJ cZ mki msz mle mel mme mal mic mil mio mab mae msa mlc mli mna mva mma mch mre mlv mwr msh mth mnv mns mfa mmo k1 k2 k3 k4 hpre hv1) k_Mo_named i_Mo_named e_Mo_named o_Mo ml_La_126 hd_Mo_named (Nat.le_trans (by decide) hRf) (Nat.le_trans (by decide) hRl) hRc (va_recv hK hP.r (q0 := 0) (ci := 6) rfl rfl) hK hP hD hS hA hl.1 rfl (Nat.le_of_ble_eq_true rfl) d_La_law_911 (fun _ H locs _ hP hD hS => ?_)
      refine lv_aload_n hx hb d_La_law_914 rfl (lv_at hl 3 rfl) ?_
      refine pc_V (As := []) (rest := []) S (c_Mo_thrown l D b cI cJ cZ mki msz mle mel mme mal mic mil mio mab mae msa mlc mli mna mva mma mch mre mlv mwr msh 1 mnv mns mfa mmo) wB_blind k_Mo_thrown i_Mo_thrown e_Mo_thrown o_Mo ml_La_84 hd_Mo_thrown (Nat.le_trans (by decide) hRf) (Nat.le_trans (by decide) hRl) hRc (va_recv hK hP.r (q0 := 0) (ci := 6) rfl rfl) (wB_at hP.r hK) hl.1 rfl (Nat.le_of_ble_eq_true rfl) d_La_law_915 ?_
      refine lv_iload hx hb d_La_law_918 (lv_at hl 0 rfl) ?_
      refine lv_icmp_eq (tgt := 925) hx hb d_La_law_920 (by decide) (fun h => ?_) (fun h => ?_)
      · skip
        refine lv_goto (tgt := 1215) hx hb d_La_law_925 (by decide) ?_
        exact hnext ki co pr pa tw nv sv pn pl po pf pt ru le li bn ip aw ns ch ma br tl ou mki msz mle mel mme mal mic mil mio mab mae msa mlc mli mna mva mma mch mre mlv mwr msh 1 mnv mns mfa mmo ls H locs vc (lv_sub hl [5, 4, 3, 2, 1] rfl) hP hD hS
      · exact absurd h (by decide)
    · have vc := vc.2 hv1
      refine wc_2 (As := [.int k1, .int k2, .int k3, .int k4]) (rest := []) S (c_Mo_named_2 l D b cI cJ cZ mki msz mle mel mme mal mic mil mio mab mae msa mlc mli mna mva mma mch mre mlv mwr msh mth mnv mns mfa mmo k1 k2 k3 k4 hpre hv1) k_Mo_named i_Mo_named e_Mo_named o_Mo ml_La_126 hd_Mo_named (Nat.le_trans (by decide) hRf) (Nat.le_trans (by decide) hRl) hRc (va_recv hK hP.r (q0 := 0) (ci := 6) rfl rfl) hK hP hD hS hA hl.1 rfl (Nat.le_of_ble_eq_true rfl) d_La_law_911 (fun _ H locs _ hP hD hS => ?_)
      refine lv_aload_n hx hb d_La_law_914 rfl (lv_at hl 3 rfl) ?_
      refine pc_V (As := []) (rest := []) S (c_Mo_thrown l D b cI cJ cZ mki msz mle mel mme mal mic mil mio mab mae msa mlc mli (upd mna (36 * k1 + 12 * (k2 - 33) + k3 : Int32).toNatClampNeg k4) mva mma mch mre mlv mwr msh 0 mnv mns mfa mmo) wB_blind k_Mo_thrown i_Mo_thrown e_Mo_thrown o_Mo ml_La_84 hd_Mo_thrown (Nat.le_trans (by decide) hRf) (Nat.le_trans (by decide) hRl) hRc (va_recv hK hP.r (q0 := 0) (ci := 6) rfl rfl) (wB_at hP.r hK) hl.1 rfl (Nat.le_of_ble_eq_true rfl) d_La_law_915 ?_
      refine lv_iload hx hb d_La_law_918 (lv_at hl 0 rfl) ?_
      refine lv_icmp_eq (tgt := 925) hx hb d_La_law_920 (by decide) (fun h => ?_) (fun h => ?_)
      · exact absurd h (by decide)
      · skip
        refine lv_iconst (v := 0) hx hb d_La_law_923 (by decide) ?_
        exact vc.elim
  · have vc := vc.2 hv1
    refine hc_1 (As := [.ref (a 24), .int k1, .int k2, .int k3, .int k4]) (rest := []) S (c_La_named_2 l hls D a cI cJ cZ ki co pr pa tw nv sv pn pl po pf pt ru le li bn ip aw ns ch ma br tl ou k1 k2 k3 k4 hpre hv1) kw_La_named s_La_named o_La ml_La_123 hd_La_named (Nat.le_trans (by decide) hRf) (Nat.le_trans (by decide) hRl) hRc hK hP hD hS hA hX hN hl.1 rfl (Nat.le_of_ble_eq_true rfl) d_La_law_881 (fun _ H locs _ hP hD hS => ?_)
    refine lv_istore hx hb d_La_law_884 hl (by decide) (lv' := [(5, .int 0), (4, .int i), (3, .ref (a 25)), (2, .ref (b 0)), (1, .ref (a 24)), (0, .ref sc)]) rfl (fun ls hl => ?_)
    refine lv_aload_n hx hb d_La_law_886 rfl (lv_at hl 3 rfl) ?_
    refine lv_aload_n hx hb d_La_law_887 rfl (lv_at hl 5 rfl) ?_
    refine lv_iload hx hb d_La_law_888 (lv_at hl 1 rfl) ?_
    refine lv_iconst (v := 1) hx hb d_La_law_890 (by decide) ?_
    refine lv_iadd hx hb d_La_law_891 ?_
    refine va_sld hx hb hXs hbl hbA hS hi1 d_La_law_892 ?_
    rw [e1]
    refine lv_aload_n hx hb d_La_law_893 rfl (lv_at hl 5 rfl) ?_
    refine lv_iload hx hb d_La_law_894 (lv_at hl 1 rfl) ?_
    refine lv_iconst (v := 2) hx hb d_La_law_896 (by decide) ?_
    refine lv_iadd hx hb d_La_law_897 ?_
    refine va_sld hx hb hXs hbl hbA hS hi2 d_La_law_898 ?_
    rw [e2]
    refine lv_aload_n hx hb d_La_law_899 rfl (lv_at hl 5 rfl) ?_
    refine lv_iload hx hb d_La_law_900 (lv_at hl 1 rfl) ?_
    refine lv_iconst (v := 3) hx hb d_La_law_902 (by decide) ?_
    refine lv_iadd hx hb d_La_law_903 ?_
    refine va_sld hx hb hXs hbl hbA hS hi3 d_La_law_904 ?_
    rw [e3]
    refine lv_aload_n hx hb d_La_law_905 rfl (lv_at hl 5 rfl) ?_
    refine lv_iload hx hb d_La_law_906 (lv_at hl 1 rfl) ?_
    refine lv_iconst (v := 4) hx hb d_La_law_908 (by decide) ?_
    refine lv_iadd hx hb d_La_law_909 ?_
    refine va_sld hx hb hXs hbl hbA hS hi4 d_La_law_910 ?_
    rw [e4]
    obtain ⟨hpre, vc⟩ := vc
    by_cases hv1 : ¬ ((sHas mns k1 && (sIn k2 33 35 && sIn k3 0 11)) = true ∧ (k4 = -1 ∨ (if k2 = 35 then sIn k4 0 4095 else sHas mns k4) = true))
    · have vc := vc.1 hv1
      refine wc_2 (As := [.int k1, .int k2, .int k3, .int k4]) (rest := []) S (c_Mo_named_1 l D b cI cJ cZ mki msz mle mel mme mal mic mil mio mab mae msa mlc mli mna mva mma mch mre mlv mwr msh mth mnv mns mfa mmo k1 k2 k3 k4 hpre hv1) k_Mo_named i_Mo_named e_Mo_named o_Mo ml_La_126 hd_Mo_named (Nat.le_trans (by decide) hRf) (Nat.le_trans (by decide) hRl) hRc (va_recv hK hP.r (q0 := 0) (ci := 6) rfl rfl) hK hP hD hS hA hl.1 rfl (Nat.le_of_ble_eq_true rfl) d_La_law_911 (fun _ H locs _ hP hD hS => ?_)
      refine lv_aload_n hx hb d_La_law_914 rfl (lv_at hl 3 rfl) ?_
      refine pc_V (As := []) (rest := []) S (c_Mo_thrown l D b cI cJ cZ mki msz mle mel mme mal mic mil mio mab mae msa mlc mli mna mva mma mch mre mlv mwr msh 1 mnv mns mfa mmo) wB_blind k_Mo_thrown i_Mo_thrown e_Mo_thrown o_Mo ml_La_84 hd_Mo_thrown (Nat.le_trans (by decide) hRf) (Nat.le_trans (by decide) hRl) hRc (va_recv hK hP.r (q0 := 0) (ci := 6) rfl rfl) (wB_at hP.r hK) hl.1 rfl (Nat.le_of_ble_eq_true rfl) d_La_law_915 ?_
      refine lv_iload hx hb d_La_law_918 (lv_at hl 0 rfl) ?_
      refine lv_icmp_eq (tgt := 925) hx hb d_La_law_920 (by decide) (fun h => ?_) (fun h => ?_)
      · exact absurd h (by decide)
      · skip
        refine lv_iconst (v := 0) hx hb d_La_law_923 (by decide) ?_
        exact vc.elim
    · have vc := vc.2 hv1
      refine wc_2 (As := [.int k1, .int k2, .int k3, .int k4]) (rest := []) S (c_Mo_named_2 l D b cI cJ cZ mki msz mle mel mme mal mic mil mio mab mae msa mlc mli mna mva mma mch mre mlv mwr msh mth mnv mns mfa mmo k1 k2 k3 k4 hpre hv1) k_Mo_named i_Mo_named e_Mo_named o_Mo ml_La_126 hd_Mo_named (Nat.le_trans (by decide) hRf) (Nat.le_trans (by decide) hRl) hRc (va_recv hK hP.r (q0 := 0) (ci := 6) rfl rfl) hK hP hD hS hA hl.1 rfl (Nat.le_of_ble_eq_true rfl) d_La_law_911 (fun _ H locs _ hP hD hS => ?_)
      refine lv_aload_n hx hb d_La_law_914 rfl (lv_at hl 3 rfl) ?_
      refine pc_V (As := []) (rest := []) S (c_Mo_thrown l D b cI cJ cZ mki msz mle mel mme mal mic mil mio mab mae msa mlc mli (upd mna (36 * k1 + 12 * (k2 - 33) + k3 : Int32).toNatClampNeg k4) mva mma mch mre mlv mwr msh 0 mnv mns mfa mmo) wB_blind k_Mo_thrown i_Mo_thrown e_Mo_thrown o_Mo ml_La_84 hd_Mo_thrown (Nat.le_trans (by decide) hRf) (Nat.le_trans (by decide) hRl) hRc (va_recv hK hP.r (q0 := 0) (ci := 6) rfl rfl) (wB_at hP.r hK) hl.1 rfl (Nat.le_of_ble_eq_true rfl) d_La_law_915 ?_
      refine lv_iload hx hb d_La_law_918 (lv_at hl 0 rfl) ?_
      refine lv_icmp_eq (tgt := 925) hx hb d_La_law_920 (by decide) (fun h => ?_) (fun h => ?_)
      · skip
        refine lv_goto (tgt := 1215) hx hb d_La_law_925 (by decide) ?_
        exact hnext ki co pr pa tw nv sv pn pl po pf pt ru le li (upd bn ((k1 * 3 + k2 - 33) * 12 + k3 : Int32).toNatClampNeg k4) ip aw ns ch ma br tl ou mki msz mle mel mme mal mic mil mio mab mae msa mlc mli (upd mna (36 * k1 + 12 * (k2 - 33) + k3 : Int32).toNatClampNeg k4) mva mma mch mre mlv mwr msh 0 mnv mns mfa mmo ls H locs vc (lv_sub hl [5, 4, 3, 2, 1] rfl) hP hD hS
      · exact absurd h (by decide)
def V_L12 (ki : Nat → Int32) (co : Nat → Int64) (pr : Nat → Int32) (pa : Nat → Int32) (tw : Nat → Int32) (nv : Int32) (sv : Int32) (pn : Nat → Int32) (pl : Nat → Int32) (po : Nat → Int32) (pf : Nat → Int32) (pt : Nat → Int32) (ru : Nat → Int32) (le : Nat → Int32) (li : Nat → Int32) (bn : Nat → Int32) (ip : Nat → Int32) (aw : Nat → Int32) (ns : Int32) (ch : Nat → Int32) (ma : Nat → Int32) (br : Nat → Int64) (tl : Int32) (ou : Nat → Int64) (mki : Nat → Int32) (msz : Nat → Int64) (mle : Nat → Int32) (mel : Nat → Int32) (mme : Nat → Int32) (mal : Nat → Int32) (mic : Nat → Int32) (mil : Nat → Int32) (mio : Nat → Int32) (mab : Nat → Int32) (mae : Nat → Int32) (msa : Nat → Int32) (mlc : Nat → Int32) (mli : Nat → Int32) (mna : Nat → Int32) (mva : Nat → Int32) (mma : Nat → Int32) (mch : Nat → Int32) (mre : Nat → Int32) (mlv : Nat → Int32) (mwr : Nat → Int64) (msh : Nat → Int32) (mth : Int32) (mnv : Int32) (mns : Int32) (mfa : Int32) (mmo : Int32) (k1 k2 k3 k4 : Int32) (post : (Nat → Int32) → (Nat → Int64) → (Nat → Int32) → (Nat → Int32) → (Nat → Int32) → Int32 → Int32 → (Nat → Int32) → (Nat → Int32) → (Nat → Int32) → (Nat → Int32) → (Nat → Int32) → (Nat → Int32) → (Nat → Int32) → (Nat → Int32) → (Nat → Int32) → (Nat → Int32) → (Nat → Int32) → Int32 → (Nat → Int32) → (Nat → Int32) → (Nat → Int64) → Int32 → (Nat → Int64) → (Nat → Int32) → (Nat → Int64) → (Nat → Int32) → (Nat → Int32) → (Nat → Int32) → (Nat → Int32) → (Nat → Int32) → (Nat → Int32) → (Nat → Int32) → (Nat → Int32) → (Nat → Int32) → (Nat → Int32) → (Nat → Int32) → (Nat → Int32) → (Nat → Int32) → (Nat → Int32) → (Nat → Int32) → (Nat → Int32) → (Nat → Int32) → (Nat → Int32) → (Nat → Int64) → (Nat → Int32) → Int32 → Int32 → Int32 → Int32 → Int32 → Prop) : Prop :=
  ((¬ (sHas ns k1 && sHas nv k2) = true → ((¬ (sHas mns k1 && sHas mnv k2) = true → post ki co pr pa tw nv sv pn pl po pf pt ru le li bn ip aw ns ch ma br tl ou mki msz mle mel mme mal mic mil mio mab mae msa mlc mli mna mva mma mch mre mlv mwr msh 1 mnv mns mfa mmo) ∧ (¬ (¬ (sHas mns k1 && sHas mnv k2) = true) → False))) ∧ (¬ (¬ (sHas ns k1 && sHas nv k2) = true) → False))
set_option maxHeartbeats 4000000 in
set_option maxRecDepth 100000 in
theorem g_L12 {p : Program} {l : Launch} {e : Env} {R : Room} {s : State} {m : MethodId} {args : Array Value} {below : List Frame} {meth : Method} {c : Code} {H : Heap} {locs : List Loc} {cells slots : Nat} {Q : State → Prop} {ls : Array Slot} {A : Nat → Prop} (hls : l.stackTraces = false) (S : CallFix p m c code 7 s args W0 "SchemaJudgeLaw") (hN : eN s) (hRf : 8 ≤ R.frames) (hRl : 136 ≤ R.locals) (hRc : cells + 1 ≤ R.cells ∧ slots + 6 ≤ R.slots) (D : va_G) (a b : Nat → Nat) (cI cJ cZ : ClassId) (ki : Nat → Int32) (co : Nat → Int64) (pr : Nat → Int32) (pa : Nat → Int32) (tw : Nat → Int32) (nv : Int32) (sv : Int32) (pn : Nat → Int32) (pl : Nat → Int32) (po : Nat → Int32) (pf : Nat → Int32) (pt : Nat → Int32) (ru : Nat → Int32) (le : Nat → Int32) (li : Nat → Int32) (bn : Nat → Int32) (ip : Nat → Int32) (aw : Nat → Int32) (ns : Int32) (ch : Nat → Int32) (ma : Nat → Int32) (br : Nat → Int64) (tl : Int32) (ou : Nat → Int64) (mki : Nat → Int32) (msz : Nat → Int64) (mle : Nat → Int32) (mel : Nat → Int32) (mme : Nat → Int32) (mal : Nat → Int32) (mic : Nat → Int32) (mil : Nat → Int32) (mio : Nat → Int32) (mab : Nat → Int32) (mae : Nat → Int32) (msa : Nat → Int32) (mlc : Nat → Int32) (mli : Nat → Int32) (mna : Nat → Int32) (mva : Nat → Int32) (mma : Nat → Int32) (mch : Nat → Int32) (mre : Nat → Int32) (mlv : Nat → Int32) (mwr : Nat → Int64) (msh : Nat → Int32) (mth : Int32) (mnv : Int32) (mns : Int32) (mfa : Int32) (mmo : Int32) (k1 k2 k3 k4 : Int32) (sc L : Nat) (xs : Nat → Int32) (i : Int32) (hXs : va_X sc L xs s s.heap) (hbl : sc < s.heap.size) (hbA : ¬ A sc) (hi1 : vp_in (i + 1) L) (e1 : xs (i + 1 : Int32).toNatClampNeg = k1) (hi2 : vp_in (i + 2) L) (e2 : xs (i + 2 : Int32).toNatClampNeg = k2) (hi3 : vp_in (i + 3) L) (e3 : xs (i + 3 : Int32).toNatClampNeg = k3) (hi4 : vp_in (i + 4) L) (e4 : xs (i + 4 : Int32).toNatClampNeg = k4) (hK : va_K D vwCl (tyA cI cJ cZ) s) (hP : va_P D vwCl ((wX a ++ wV a cI cJ ki co pr pa tw nv sv ++ wP a cI cZ pn pl po pf pt ++ wS a cI ru le li bn ip aw ns ++ wL a ++ wJ a cI cJ ch ma br tl ++ wO a cJ ou) ++ (wM b cI cJ cZ mki msz mle mel mme mal mic mil mio mab mae msa mlc mli mna mva mma mch mre mlv mwr msh mth mnv mns mfa mmo)) H) (hD : va_D A ((wX a ++ wV a cI cJ ki co pr pa tw nv sv ++ wP a cI cZ pn pl po pf pt ++ wS a cI ru le li bn ip aw ns ++ wL a ++ wJ a cI cJ ch ma br tl ++ wO a cJ ou) ++ (wM b cI cJ cZ mki msz mle mel mme mal mic mil mio mab mae msa mlc mli mna mva mma mch mre mlv mwr msh mth mnv mns mfa mmo))) (hA : ∀ q, s.heap.size ≤ q → A q) (hS : va_S A s.heap H locs) (hX : eX A s s.heap) (hl : lv_has ls 7 [(4, .int i), (3, .ref (a 25)), (2, .ref (b 0)), (1, .ref (a 24)), (0, .ref sc)]) {post : (Nat → Int32) → (Nat → Int64) → (Nat → Int32) → (Nat → Int32) → (Nat → Int32) → Int32 → Int32 → (Nat → Int32) → (Nat → Int32) → (Nat → Int32) → (Nat → Int32) → (Nat → Int32) → (Nat → Int32) → (Nat → Int32) → (Nat → Int32) → (Nat → Int32) → (Nat → Int32) → (Nat → Int32) → Int32 → (Nat → Int32) → (Nat → Int32) → (Nat → Int64) → Int32 → (Nat → Int64) → (Nat → Int32) → (Nat → Int64) → (Nat → Int32) → (Nat → Int32) → (Nat → Int32) → (Nat → Int32) → (Nat → Int32) → (Nat → Int32) → (Nat → Int32) → (Nat → Int32) → (Nat → Int32) → (Nat → Int32) → (Nat → Int32) → (Nat → Int32) → (Nat → Int32) → (Nat → Int32) → (Nat → Int32) → (Nat → Int32) → (Nat → Int32) → (Nat → Int32) → (Nat → Int64) → (Nat → Int32) → Int32 → Int32 → Int32 → Int32 → Int32 → Prop} (vc : V_L12 ki co pr pa tw nv sv pn pl po pf pt ru le li bn ip aw ns ch ma br tl ou mki msz mle mel mme mal mic mil mio mab mae msa mlc mli mna mva mma mch mre mlv mwr msh mth mnv mns mfa mmo k1 k2 k3 k4 post)
    (hnext : ∀ (ki : Nat → Int32) (co : Nat → Int64) (pr : Nat → Int32) (pa : Nat → Int32) (tw : Nat → Int32) (nv : Int32) (sv : Int32) (pn : Nat → Int32) (pl : Nat → Int32) (po : Nat → Int32) (pf : Nat → Int32) (pt : Nat → Int32) (ru : Nat → Int32) (le : Nat → Int32) (li : Nat → Int32) (bn : Nat → Int32) (ip : Nat → Int32) (aw : Nat → Int32) (ns : Int32) (ch : Nat → Int32) (ma : Nat → Int32) (br : Nat → Int64) (tl : Int32) (ou : Nat → Int64) (mki : Nat → Int32) (msz : Nat → Int64) (mle : Nat → Int32) (mel : Nat → Int32) (mme : Nat → Int32) (mal : Nat → Int32) (mic : Nat → Int32) (mil : Nat → Int32) (mio : Nat → Int32) (mab : Nat → Int32) (mae : Nat → Int32) (msa : Nat → Int32) (mlc : Nat → Int32) (mli : Nat → Int32) (mna : Nat → Int32) (mva : Nat → Int32) (mma : Nat → Int32) (mch : Nat → Int32) (mre : Nat → Int32) (mlv : Nat → Int32) (mwr : Nat → Int64) (msh : Nat → Int32) (mth : Int32) (mnv : Int32) (mns : Int32) (mfa : Int32) (mmo : Int32) (ls : Array Slot) (H : Heap) (locs : List Loc), post ki co pr pa tw nv sv pn pl po pf pt ru le li bn ip aw ns ch ma br tl ou mki msz mle mel mme mal mic mil mio mab mae msa mlc mli mna mva mma mch mre mlv mwr msh mth mnv mns mfa mmo → lv_has ls 7 [(0, .ref sc), (1, .ref (a 24)), (2, .ref (b 0)), (3, .ref (a 25)), (4, .int i)] → va_P D vwCl ((wX a ++ wV a cI cJ ki co pr pa tw nv sv ++ wP a cI cZ pn pl po pf pt ++ wS a cI ru le li bn ip aw ns ++ wL a ++ wJ a cI cJ ch ma br tl ++ wO a cJ ou) ++ (wM b cI cJ cZ mki msz mle mel mme mal mic mil mio mab mae msa mlc mli mna mva mma mch mre mlv mwr msh mth mnv mns mfa mmo)) H → va_D A ((wX a ++ wV a cI cJ ki co pr pa tw nv sv ++ wP a cI cZ pn pl po pf pt ++ wS a cI ru le li bn ip aw ns ++ wL a ++ wJ a cI cJ ch ma br tl ++ wO a cJ ou) ++ (wM b cI cJ cZ mki msz mle mel mme mal mic mil mio mab mae msa mlc mli mna mva mma mch mre mlv mwr msh mth mnv mns mfa mmo)) → va_S A s.heap H locs → W p l e R s m args below meth c H locs (cells + 1) (slots + 6) Q (F0 m 1215 ls [])) : W p l e R s m args below meth c H locs cells slots Q (F0 m 928 ls []) := by
  have hx := S.1
  have hb := S.2.1
  have hown := S.2.2.2.1
  have hts := S.2.2.2.2
  have h01 : vp_in (0 : Int32) 1 := vp_in_nI (n := 0) (by decide) (by decide)
  unfold V_L12 at vc
  refine lv_aload_n hx hb d_La_law_928 rfl (lv_at hl 3 rfl) ?_
  refine lv_aload_n hx hb d_La_law_929 rfl (lv_at hl 4 rfl) ?_
  refine lv_iload hx hb d_La_law_930 (lv_at hl 0 rfl) ?_
  refine lv_iconst (v := 1) hx hb d_La_law_932 (by decide) ?_
  refine lv_iadd hx hb d_La_law_933 ?_
  refine va_sld hx hb hXs hbl hbA hS hi1 d_La_law_934 ?_
  rw [e1]
  refine lv_aload_n hx hb d_La_law_935 rfl (lv_at hl 4 rfl) ?_
  refine lv_iload hx hb d_La_law_936 (lv_at hl 0 rfl) ?_
  refine lv_iconst (v := 2) hx hb d_La_law_938 (by decide) ?_
  refine lv_iadd hx hb d_La_law_939 ?_
  refine va_sld hx hb hXs hbl hbA hS hi2 d_La_law_940 ?_
  rw [e2]
  refine lv_aload_n hx hb d_La_law_941 rfl (lv_at hl 1 rfl) ?_
  by_cases hv1 : ¬ (sHas ns k1 && sHas nv k2) = true
  · have vc := vc.1 hv1
    refine hc_1 (As := [.ref (a 24), .int k1, .int k2, .ref (a 25)]) (rest := []) S (c_La_judge_1 l hls D a cI cJ cZ ki co pr pa tw nv sv pn pl po pf pt ru le li bn ip aw ns ch ma br tl ou k1 k2 hv1) kw_La_judge s_La_judge o_La ml_La_127 hd_La_judge (Nat.le_trans (by decide) hRf) (Nat.le_trans (by decide) hRl) hRc hK hP hD hS hA hX hN hl.1 rfl (Nat.le_of_ble_eq_true rfl) d_La_law_942 (fun _ H locs _ hP hD hS => ?_)
    refine lv_istore hx hb d_La_law_945 hl (by decide) (lv' := [(5, .int 1), (4, .int i), (3, .ref (a 25)), (2, .ref (b 0)), (1, .ref (a 24)), (0, .ref sc)]) rfl (fun ls hl => ?_)
    refine lv_aload_n hx hb d_La_law_947 rfl (lv_at hl 3 rfl) ?_
    refine lv_aload_n hx hb d_La_law_948 rfl (lv_at hl 5 rfl) ?_
    refine lv_iload hx hb d_La_law_949 (lv_at hl 1 rfl) ?_
    refine lv_iconst (v := 1) hx hb d_La_law_951 (by decide) ?_
    refine lv_iadd hx hb d_La_law_952 ?_
    refine va_sld hx hb hXs hbl hbA hS hi1 d_La_law_953 ?_
    rw [e1]
    refine lv_aload_n hx hb d_La_law_954 rfl (lv_at hl 5 rfl) ?_
    refine lv_iload hx hb d_La_law_955 (lv_at hl 1 rfl) ?_
    refine lv_iconst (v := 2) hx hb d_La_law_957 (by decide) ?_
    refine lv_iadd hx hb d_La_law_958 ?_
    refine va_sld hx hb hXs hbl hbA hS hi2 d_La_law_959 ?_
    rw [e2]
    by_cases hv1 : ¬ (sHas mns k1 && sHas mnv k2) = true
    · have vc := vc.1 hv1
      refine wc_2 (As := [.int k1, .int k2]) (rest := []) S (c_Mo_judge_1 l D b cI cJ cZ mki msz mle mel mme mal mic mil mio mab mae msa mlc mli mna mva mma mch mre mlv mwr msh mth mnv mns mfa mmo k1 k2 hv1) k_Mo_judge i_Mo_judge e_Mo_judge o_Mo ml_La_129 hd_Mo_judge (Nat.le_trans (by decide) hRf) (Nat.le_trans (by decide) hRl) hRc (va_recv hK hP.r (q0 := 0) (ci := 6) rfl rfl) hK hP hD hS hA hl.1 rfl (Nat.le_of_ble_eq_true rfl) d_La_law_960 (fun _ H locs _ hP hD hS => ?_)
      refine lv_istore hx hb d_La_law_963 hl (by decide) (lv' := [(6, .int (bI false)), (5, .int 1), (4, .int i), (3, .ref (a 25)), (2, .ref (b 0)), (1, .ref (a 24)), (0, .ref sc)]) rfl (fun ls hl => ?_)
      refine lv_aload_n hx hb d_La_law_965 rfl (lv_at hl 4 rfl) ?_
      refine pc_V (As := []) (rest := []) S (c_Mo_thrown l D b cI cJ cZ mki msz mle mel mme mal mic mil mio mab mae msa mlc mli mna mva mma mch mre mlv mwr msh 1 mnv mns mfa mmo) wB_blind k_Mo_thrown i_Mo_thrown e_Mo_thrown o_Mo ml_La_84 hd_Mo_thrown (Nat.le_trans (by decide) hRf) (Nat.le_trans (by decide) hRl) hRc (va_recv hK hP.r (q0 := 0) (ci := 6) rfl rfl) (wB_at hP.r hK) hl.1 rfl (Nat.le_of_ble_eq_true rfl) d_La_law_966 ?_
      refine lv_iload hx hb d_La_law_969 (lv_at hl 1 rfl) ?_
      refine lv_icmp_eq (tgt := 976) hx hb d_La_law_971 (by decide) (fun h => ?_) (fun h => ?_)
      · skip
        refine lv_iload hx hb d_La_law_976 (lv_at hl 1 rfl) ?_
        refine lv_if_ne (tgt := 1000) hx hb d_La_law_978 (by decide) (fun h => ?_) (fun h => ?_)
        · skip
          refine lv_goto (tgt := 1215) hx hb d_La_law_1000 (by decide) ?_
          exact hnext ki co pr pa tw nv sv pn pl po pf pt ru le li bn ip aw ns ch ma br tl ou mki msz mle mel mme mal mic mil mio mab mae msa mlc mli mna mva mma mch mre mlv mwr msh 1 mnv mns mfa mmo ls H locs vc (lv_sub hl [6, 5, 4, 3, 2] rfl) hP hD hS
        · exact absurd h (by decide)
      · exact absurd h (by decide)
    · have vc := vc.2 hv1
      exact vc.elim
  · have vc := vc.2 hv1
    exact vc.elim
def V_L13 (ki : Nat → Int32) (co : Nat → Int64) (pr : Nat → Int32) (pa : Nat → Int32) (tw : Nat → Int32) (nv : Int32) (sv : Int32) (pn : Nat → Int32) (pl : Nat → Int32) (po : Nat → Int32) (pf : Nat → Int32) (pt : Nat → Int32) (ru : Nat → Int32) (le : Nat → Int32) (li : Nat → Int32) (bn : Nat → Int32) (ip : Nat → Int32) (aw : Nat → Int32) (ns : Int32) (ch : Nat → Int32) (ma : Nat → Int32) (br : Nat → Int64) (tl : Int32) (ou : Nat → Int64) (mki : Nat → Int32) (msz : Nat → Int64) (mle : Nat → Int32) (mel : Nat → Int32) (mme : Nat → Int32) (mal : Nat → Int32) (mic : Nat → Int32) (mil : Nat → Int32) (mio : Nat → Int32) (mab : Nat → Int32) (mae : Nat → Int32) (msa : Nat → Int32) (mlc : Nat → Int32) (mli : Nat → Int32) (mna : Nat → Int32) (mva : Nat → Int32) (mma : Nat → Int32) (mch : Nat → Int32) (mre : Nat → Int32) (mlv : Nat → Int32) (mwr : Nat → Int64) (msh : Nat → Int32) (mth : Int32) (mnv : Int32) (mns : Int32) (mfa : Int32) (mmo : Int32) (k1 k2 k3 k4 : Int32) (post : (Nat → Int32) → (Nat → Int64) → (Nat → Int32) → (Nat → Int32) → (Nat → Int32) → Int32 → Int32 → (Nat → Int32) → (Nat → Int32) → (Nat → Int32) → (Nat → Int32) → (Nat → Int32) → (Nat → Int32) → (Nat → Int32) → (Nat → Int32) → (Nat → Int32) → (Nat → Int32) → (Nat → Int32) → Int32 → (Nat → Int32) → (Nat → Int32) → (Nat → Int64) → Int32 → (Nat → Int64) → (Nat → Int32) → (Nat → Int64) → (Nat → Int32) → (Nat → Int32) → (Nat → Int32) → (Nat → Int32) → (Nat → Int32) → (Nat → Int32) → (Nat → Int32) → (Nat → Int32) → (Nat → Int32) → (Nat → Int32) → (Nat → Int32) → (Nat → Int32) → (Nat → Int32) → (Nat → Int32) → (Nat → Int32) → (Nat → Int32) → (Nat → Int32) → (Nat → Int32) → (Nat → Int64) → (Nat → Int32) → Int32 → Int32 → Int32 → Int32 → Int32 → Prop) : Prop :=
  ((nv ≤ 40 ∧ ns ≤ 24) ∧ ((¬ (sHas ns k1 && sHas nv k2) = true → ((mnv ≤ 40 ∧ mns ≤ 24) ∧ ((¬ (sHas mns k1 && sHas mnv k2) = true → post ki co pr pa tw nv sv pn pl po pf pt ru le li bn ip aw ns ch ma br tl ou mki msz mle mel mme mal mic mil mio mab mae msa mlc mli mna mva mma mch mre mlv mwr msh 1 mnv mns mfa mmo) ∧ (¬ (¬ (sHas mns k1 && sHas mnv k2) = true) → ((mch (40 * k1 + k2 : Int32).toNatClampNeg = 0 → False) ∧ (¬ (mch (40 * k1 + k2 : Int32).toNatClampNeg = 0) → False)))))) ∧ (¬ (¬ (sHas ns k1 && sHas nv k2) = true) → ((mnv ≤ 40 ∧ mns ≤ 24) ∧ ((¬ (sHas mns k1 && sHas mnv k2) = true → False) ∧ (¬ (¬ (sHas mns k1 && sHas mnv k2) = true) → ((mch (40 * k1 + k2 : Int32).toNatClampNeg = 0 → (((lg_cmp ((vp_updL ou 0 ((if ch (k2 * 24 + k1 : Int32).toNatClampNeg = 0 then -1 else ma (k2 * 24 + k1 : Int32).toNatClampNeg : Int32).toInt64)) (0 : Int32).toNatClampNeg) (((-1) : Int32).toInt64)) = 0 → post ki co pr pa tw nv sv pn pl po pf pt ru le li bn ip aw ns ch ma br tl (vp_updL ou 0 ((if ch (k2 * 24 + k1 : Int32).toNatClampNeg = 0 then -1 else ma (k2 * 24 + k1 : Int32).toNatClampNeg : Int32).toInt64)) mki msz mle mel mme mal mic mil mio mab mae msa mlc mli mna mva mma mch mre mlv mwr msh 0 mnv mns mfa mmo) ∧ (¬ (lg_cmp ((vp_updL ou 0 ((if ch (k2 * 24 + k1 : Int32).toNatClampNeg = 0 then -1 else ma (k2 * 24 + k1 : Int32).toNatClampNeg : Int32).toInt64)) (0 : Int32).toNatClampNeg) (((-1) : Int32).toInt64)) = 0 → False))) ∧ (¬ (mch (40 * k1 + k2 : Int32).toNatClampNeg = 0) → (((lg_cmp ((vp_updL ou 0 ((if ch (k2 * 24 + k1 : Int32).toNatClampNeg = 0 then -1 else ma (k2 * 24 + k1 : Int32).toNatClampNeg : Int32).toInt64)) (0 : Int32).toNatClampNeg) ((msh (40 * k1 + k2 : Int32).toNatClampNeg : Int32).toInt64)) = 0 → post ki co pr pa tw nv sv pn pl po pf pt ru le li bn ip aw ns ch ma br tl (vp_updL ou 0 ((if ch (k2 * 24 + k1 : Int32).toNatClampNeg = 0 then -1 else ma (k2 * 24 + k1 : Int32).toNatClampNeg : Int32).toInt64)) mki msz mle mel mme mal mic mil mio mab mae msa mlc mli mna mva mma mch mre mlv mwr msh 0 mnv mns mfa mmo) ∧ (¬ (lg_cmp ((vp_updL ou 0 ((if ch (k2 * 24 + k1 : Int32).toNatClampNeg = 0 then -1 else ma (k2 * 24 + k1 : Int32).toNatClampNeg : Int32).toInt64)) (0 : Int32).toNatClampNeg) ((msh (40 * k1 + k2 : Int32).toNatClampNeg : Int32).toInt64)) = 0 → False))))))))))
set_option maxHeartbeats 4000000 in
set_option maxRecDepth 100000 in
theorem g_L13 {p : Program} {l : Launch} {e : Env} {R : Room} {s : State} {m : MethodId} {args : Array Value} {below : List Frame} {meth : Method} {c : Code} {H : Heap} {locs : List Loc} {cells slots : Nat} {Q : State → Prop} {ls : Array Slot} {A : Nat → Prop} (hls : l.stackTraces = false) (S : CallFix p m c code 7 s args W0 "SchemaJudgeLaw") (hN : eN s) (hRf : 8 ≤ R.frames) (hRl : 136 ≤ R.locals) (hRc : cells + 1 ≤ R.cells ∧ slots + 6 ≤ R.slots) (D : va_G) (a b : Nat → Nat) (cI cJ cZ : ClassId) (ki : Nat → Int32) (co : Nat → Int64) (pr : Nat → Int32) (pa : Nat → Int32) (tw : Nat → Int32) (nv : Int32) (sv : Int32) (pn : Nat → Int32) (pl : Nat → Int32) (po : Nat → Int32) (pf : Nat → Int32) (pt : Nat → Int32) (ru : Nat → Int32) (le : Nat → Int32) (li : Nat → Int32) (bn : Nat → Int32) (ip : Nat → Int32) (aw : Nat → Int32) (ns : Int32) (ch : Nat → Int32) (ma : Nat → Int32) (br : Nat → Int64) (tl : Int32) (ou : Nat → Int64) (mki : Nat → Int32) (msz : Nat → Int64) (mle : Nat → Int32) (mel : Nat → Int32) (mme : Nat → Int32) (mal : Nat → Int32) (mic : Nat → Int32) (mil : Nat → Int32) (mio : Nat → Int32) (mab : Nat → Int32) (mae : Nat → Int32) (msa : Nat → Int32) (mlc : Nat → Int32) (mli : Nat → Int32) (mna : Nat → Int32) (mva : Nat → Int32) (mma : Nat → Int32) (mch : Nat → Int32) (mre : Nat → Int32) (mlv : Nat → Int32) (mwr : Nat → Int64) (msh : Nat → Int32) (mth : Int32) (mnv : Int32) (mns : Int32) (mfa : Int32) (mmo : Int32) (k1 k2 k3 k4 : Int32) (sc L : Nat) (xs : Nat → Int32) (i : Int32) (hXs : va_X sc L xs s s.heap) (hbl : sc < s.heap.size) (hbA : ¬ A sc) (hi1 : vp_in (i + 1) L) (e1 : xs (i + 1 : Int32).toNatClampNeg = k1) (hi2 : vp_in (i + 2) L) (e2 : xs (i + 2 : Int32).toNatClampNeg = k2) (hi3 : vp_in (i + 3) L) (e3 : xs (i + 3 : Int32).toNatClampNeg = k3) (hi4 : vp_in (i + 4) L) (e4 : xs (i + 4 : Int32).toNatClampNeg = k4) (hK : va_K D vwCl (tyA cI cJ cZ) s) (hP : va_P D vwCl ((wX a ++ wV a cI cJ ki co pr pa tw nv sv ++ wP a cI cZ pn pl po pf pt ++ wS a cI ru le li bn ip aw ns ++ wL a ++ wJ a cI cJ ch ma br tl ++ wO a cJ ou) ++ (wM b cI cJ cZ mki msz mle mel mme mal mic mil mio mab mae msa mlc mli mna mva mma mch mre mlv mwr msh mth mnv mns mfa mmo)) H) (hD : va_D A ((wX a ++ wV a cI cJ ki co pr pa tw nv sv ++ wP a cI cZ pn pl po pf pt ++ wS a cI ru le li bn ip aw ns ++ wL a ++ wJ a cI cJ ch ma br tl ++ wO a cJ ou) ++ (wM b cI cJ cZ mki msz mle mel mme mal mic mil mio mab mae msa mlc mli mna mva mma mch mre mlv mwr msh mth mnv mns mfa mmo))) (hA : ∀ q, s.heap.size ≤ q → A q) (hS : va_S A s.heap H locs) (hX : eX A s s.heap) (hl : lv_has ls 7 [(4, .int i), (3, .ref (a 25)), (2, .ref (b 0)), (1, .ref (a 24)), (0, .ref sc)]) {post : (Nat → Int32) → (Nat → Int64) → (Nat → Int32) → (Nat → Int32) → (Nat → Int32) → Int32 → Int32 → (Nat → Int32) → (Nat → Int32) → (Nat → Int32) → (Nat → Int32) → (Nat → Int32) → (Nat → Int32) → (Nat → Int32) → (Nat → Int32) → (Nat → Int32) → (Nat → Int32) → (Nat → Int32) → Int32 → (Nat → Int32) → (Nat → Int32) → (Nat → Int64) → Int32 → (Nat → Int64) → (Nat → Int32) → (Nat → Int64) → (Nat → Int32) → (Nat → Int32) → (Nat → Int32) → (Nat → Int32) → (Nat → Int32) → (Nat → Int32) → (Nat → Int32) → (Nat → Int32) → (Nat → Int32) → (Nat → Int32) → (Nat → Int32) → (Nat → Int32) → (Nat → Int32) → (Nat → Int32) → (Nat → Int32) → (Nat → Int32) → (Nat → Int32) → (Nat → Int32) → (Nat → Int64) → (Nat → Int32) → Int32 → Int32 → Int32 → Int32 → Int32 → Prop} (vc : V_L13 ki co pr pa tw nv sv pn pl po pf pt ru le li bn ip aw ns ch ma br tl ou mki msz mle mel mme mal mic mil mio mab mae msa mlc mli mna mva mma mch mre mlv mwr msh mth mnv mns mfa mmo k1 k2 k3 k4 post)
    (hnext : ∀ (ki : Nat → Int32) (co : Nat → Int64) (pr : Nat → Int32) (pa : Nat → Int32) (tw : Nat → Int32) (nv : Int32) (sv : Int32) (pn : Nat → Int32) (pl : Nat → Int32) (po : Nat → Int32) (pf : Nat → Int32) (pt : Nat → Int32) (ru : Nat → Int32) (le : Nat → Int32) (li : Nat → Int32) (bn : Nat → Int32) (ip : Nat → Int32) (aw : Nat → Int32) (ns : Int32) (ch : Nat → Int32) (ma : Nat → Int32) (br : Nat → Int64) (tl : Int32) (ou : Nat → Int64) (mki : Nat → Int32) (msz : Nat → Int64) (mle : Nat → Int32) (mel : Nat → Int32) (mme : Nat → Int32) (mal : Nat → Int32) (mic : Nat → Int32) (mil : Nat → Int32) (mio : Nat → Int32) (mab : Nat → Int32) (mae : Nat → Int32) (msa : Nat → Int32) (mlc : Nat → Int32) (mli : Nat → Int32) (mna : Nat → Int32) (mva : Nat → Int32) (mma : Nat → Int32) (mch : Nat → Int32) (mre : Nat → Int32) (mlv : Nat → Int32) (mwr : Nat → Int64) (msh : Nat → Int32) (mth : Int32) (mnv : Int32) (mns : Int32) (mfa : Int32) (mmo : Int32) (ls : Array Slot) (H : Heap) (locs : List Loc), post ki co pr pa tw nv sv pn pl po pf pt ru le li bn ip aw ns ch ma br tl ou mki msz mle mel mme mal mic mil mio mab mae msa mlc mli mna mva mma mch mre mlv mwr msh mth mnv mns mfa mmo → lv_has ls 7 [(0, .ref sc), (1, .ref (a 24)), (2, .ref (b 0)), (3, .ref (a 25)), (4, .int i)] → va_P D vwCl ((wX a ++ wV a cI cJ ki co pr pa tw nv sv ++ wP a cI cZ pn pl po pf pt ++ wS a cI ru le li bn ip aw ns ++ wL a ++ wJ a cI cJ ch ma br tl ++ wO a cJ ou) ++ (wM b cI cJ cZ mki msz mle mel mme mal mic mil mio mab mae msa mlc mli mna mva mma mch mre mlv mwr msh mth mnv mns mfa mmo)) H → va_D A ((wX a ++ wV a cI cJ ki co pr pa tw nv sv ++ wP a cI cZ pn pl po pf pt ++ wS a cI ru le li bn ip aw ns ++ wL a ++ wJ a cI cJ ch ma br tl ++ wO a cJ ou) ++ (wM b cI cJ cZ mki msz mle mel mme mal mic mil mio mab mae msa mlc mli mna mva mma mch mre mlv mwr msh mth mnv mns mfa mmo)) → va_S A s.heap H locs → W p l e R s m args below meth c H locs (cells + 1) (slots + 6) Q (F0 m 1215 ls [])) : W p l e R s m args below meth c H locs cells slots Q (F0 m 1003 ls []) := by
  have hx := S.1
  have hb := S.2.1
  have hown := S.2.2.2.1
  have hts := S.2.2.2.2
  have h01 : vp_in (0 : Int32) 1 := vp_in_nI (n := 0) (by decide) (by decide)
  unfold V_L13 at vc
  refine lv_aload_n hx hb d_La_law_1003 rfl (lv_at hl 3 rfl) ?_
  refine lv_aload_n hx hb d_La_law_1004 rfl (lv_at hl 4 rfl) ?_
  refine lv_iload hx hb d_La_law_1005 (lv_at hl 0 rfl) ?_
  refine lv_iconst (v := 1) hx hb d_La_law_1007 (by decide) ?_
  refine lv_iadd hx hb d_La_law_1008 ?_
  refine va_sld hx hb hXs hbl hbA hS hi1 d_La_law_1009 ?_
  rw [e1]
  refine lv_aload_n hx hb d_La_law_1010 rfl (lv_at hl 4 rfl) ?_
  refine lv_iload hx hb d_La_law_1011 (lv_at hl 0 rfl) ?_
  refine lv_iconst (v := 2) hx hb d_La_law_1013 (by decide) ?_
  refine lv_iadd hx hb d_La_law_1014 ?_
  refine va_sld hx hb hXs hbl hbA hS hi2 d_La_law_1015 ?_
  rw [e2]
  refine lv_aload_n hx hb d_La_law_1016 rfl (lv_at hl 1 rfl) ?_
  obtain ⟨hpre, vc⟩ := vc
  by_cases hv1 : ¬ (sHas ns k1 && sHas nv k2) = true
  · have vc := vc.1 hv1
    refine hc_1 (As := [.ref (a 24), .int k1, .int k2, .ref (a 25)]) (rest := []) S (c_La_marks_1 l hls D a cI cJ cZ ki co pr pa tw nv sv pn pl po pf pt ru le li bn ip aw ns ch ma br tl ou k1 k2 hpre hv1) kw_La_marks s_La_marks o_La ml_La_130 hd_La_marks (Nat.le_trans (by decide) hRf) (Nat.le_trans (by decide) hRl) hRc hK hP hD hS hA hX hN hl.1 rfl (Nat.le_of_ble_eq_true rfl) d_La_law_1017 (fun _ H locs _ hP hD hS => ?_)
    refine lv_istore hx hb d_La_law_1020 hl (by decide) (lv' := [(5, .int 1), (4, .int i), (3, .ref (a 25)), (2, .ref (b 0)), (1, .ref (a 24)), (0, .ref sc)]) rfl (fun ls hl => ?_)
    refine lv_aload_n hx hb d_La_law_1022 rfl (lv_at hl 3 rfl) ?_
    refine lv_aload_n hx hb d_La_law_1023 rfl (lv_at hl 5 rfl) ?_
    refine lv_iload hx hb d_La_law_1024 (lv_at hl 1 rfl) ?_
    refine lv_iconst (v := 1) hx hb d_La_law_1026 (by decide) ?_
    refine lv_iadd hx hb d_La_law_1027 ?_
    refine va_sld hx hb hXs hbl hbA hS hi1 d_La_law_1028 ?_
    rw [e1]
    refine lv_aload_n hx hb d_La_law_1029 rfl (lv_at hl 5 rfl) ?_
    refine lv_iload hx hb d_La_law_1030 (lv_at hl 1 rfl) ?_
    refine lv_iconst (v := 2) hx hb d_La_law_1032 (by decide) ?_
    refine lv_iadd hx hb d_La_law_1033 ?_
    refine va_sld hx hb hXs hbl hbA hS hi2 d_La_law_1034 ?_
    rw [e2]
    obtain ⟨hpre, vc⟩ := vc
    by_cases hv1 : ¬ (sHas mns k1 && sHas mnv k2) = true
    · have vc := vc.1 hv1
      refine wc_2 (As := [.int k1, .int k2]) (rest := []) S (c_Mo_marks_1 l D b cI cJ cZ mki msz mle mel mme mal mic mil mio mab mae msa mlc mli mna mva mma mch mre mlv mwr msh mth mnv mns mfa mmo k1 k2 hpre hv1) k_Mo_marks i_Mo_marks e_Mo_marks o_Mo ml_La_132 hd_Mo_marks (Nat.le_trans (by decide) hRf) (Nat.le_trans (by decide) hRl) hRc (va_recv hK hP.r (q0 := 0) (ci := 6) rfl rfl) hK hP hD hS hA hl.1 rfl (Nat.le_of_ble_eq_true rfl) d_La_law_1035 (fun _ H locs _ hP hD hS => ?_)
      refine lv_istore hx hb d_La_law_1038 hl (by decide) (lv' := [(6, .int 0), (5, .int 1), (4, .int i), (3, .ref (a 25)), (2, .ref (b 0)), (1, .ref (a 24)), (0, .ref sc)]) rfl (fun ls hl => ?_)
      refine lv_aload_n hx hb d_La_law_1040 rfl (lv_at hl 4 rfl) ?_
      refine pc_V (As := []) (rest := []) S (c_Mo_thrown l D b cI cJ cZ mki msz mle mel mme mal mic mil mio mab mae msa mlc mli mna mva mma mch mre mlv mwr msh 1 mnv mns mfa mmo) wB_blind k_Mo_thrown i_Mo_thrown e_Mo_thrown o_Mo ml_La_84 hd_Mo_thrown (Nat.le_trans (by decide) hRf) (Nat.le_trans (by decide) hRl) hRc (va_recv hK hP.r (q0 := 0) (ci := 6) rfl rfl) (wB_at hP.r hK) hl.1 rfl (Nat.le_of_ble_eq_true rfl) d_La_law_1041 ?_
      refine lv_iload hx hb d_La_law_1044 (lv_at hl 1 rfl) ?_
      refine lv_icmp_eq (tgt := 1051) hx hb d_La_law_1046 (by decide) (fun h => ?_) (fun h => ?_)
      · skip
        refine lv_iload hx hb d_La_law_1051 (lv_at hl 1 rfl) ?_
        refine lv_if_ne (tgt := 1068) hx hb d_La_law_1053 (by decide) (fun h => ?_) (fun h => ?_)
        · skip
          refine lv_goto (tgt := 1215) hx hb d_La_law_1068 (by decide) ?_
          exact hnext ki co pr pa tw nv sv pn pl po pf pt ru le li bn ip aw ns ch ma br tl ou mki msz mle mel mme mal mic mil mio mab mae msa mlc mli mna mva mma mch mre mlv mwr msh 1 mnv mns mfa mmo ls H locs vc (lv_sub hl [6, 5, 4, 3, 2] rfl) hP hD hS
        · exact absurd h (by decide)
      · exact absurd h (by decide)
    · have vc := vc.2 hv1
      by_cases hv2 : mch (40 * k1 + k2 : Int32).toNatClampNeg = 0
      · have vc := vc.1 hv2
        refine wc_2 (As := [.int k1, .int k2]) (rest := []) S (c_Mo_marks_2 l D b cI cJ cZ mki msz mle mel mme mal mic mil mio mab mae msa mlc mli mna mva mma mch mre mlv mwr msh mth mnv mns mfa mmo k1 k2 hpre hv1 hv2) k_Mo_marks i_Mo_marks e_Mo_marks o_Mo ml_La_132 hd_Mo_marks (Nat.le_trans (by decide) hRf) (Nat.le_trans (by decide) hRl) hRc (va_recv hK hP.r (q0 := 0) (ci := 6) rfl rfl) hK hP hD hS hA hl.1 rfl (Nat.le_of_ble_eq_true rfl) d_La_law_1035 (fun _ H locs _ hP hD hS => ?_)
        refine lv_istore hx hb d_La_law_1038 hl (by decide) (lv' := [(6, .int (-1)), (5, .int 1), (4, .int i), (3, .ref (a 25)), (2, .ref (b 0)), (1, .ref (a 24)), (0, .ref sc)]) rfl (fun ls hl => ?_)
        refine lv_aload_n hx hb d_La_law_1040 rfl (lv_at hl 4 rfl) ?_
        refine pc_V (As := []) (rest := []) S (c_Mo_thrown l D b cI cJ cZ mki msz mle mel mme mal mic mil mio mab mae msa mlc mli mna mva mma mch mre mlv mwr msh 0 mnv mns mfa mmo) wB_blind k_Mo_thrown i_Mo_thrown e_Mo_thrown o_Mo ml_La_84 hd_Mo_thrown (Nat.le_trans (by decide) hRf) (Nat.le_trans (by decide) hRl) hRc (va_recv hK hP.r (q0 := 0) (ci := 6) rfl rfl) (wB_at hP.r hK) hl.1 rfl (Nat.le_of_ble_eq_true rfl) d_La_law_1041 ?_
        refine lv_iload hx hb d_La_law_1044 (lv_at hl 1 rfl) ?_
        refine lv_icmp_eq (tgt := 1051) hx hb d_La_law_1046 (by decide) (fun h => ?_) (fun h => ?_)
        · exact absurd h (by decide)
        · skip
          refine lv_iconst (v := 0) hx hb d_La_law_1049 (by decide) ?_
          exact vc.elim
      · have vc := vc.2 hv2
        refine wc_2 (As := [.int k1, .int k2]) (rest := []) S (c_Mo_marks_3 l D b cI cJ cZ mki msz mle mel mme mal mic mil mio mab mae msa mlc mli mna mva mma mch mre mlv mwr msh mth mnv mns mfa mmo k1 k2 hpre hv1 hv2) k_Mo_marks i_Mo_marks e_Mo_marks o_Mo ml_La_132 hd_Mo_marks (Nat.le_trans (by decide) hRf) (Nat.le_trans (by decide) hRl) hRc (va_recv hK hP.r (q0 := 0) (ci := 6) rfl rfl) hK hP hD hS hA hl.1 rfl (Nat.le_of_ble_eq_true rfl) d_La_law_1035 (fun _ H locs _ hP hD hS => ?_)
        refine lv_istore hx hb d_La_law_1038 hl (by decide) (lv' := [(6, .int (msh (40 * k1 + k2 : Int32).toNatClampNeg)), (5, .int 1), (4, .int i), (3, .ref (a 25)), (2, .ref (b 0)), (1, .ref (a 24)), (0, .ref sc)]) rfl (fun ls hl => ?_)
        refine lv_aload_n hx hb d_La_law_1040 rfl (lv_at hl 4 rfl) ?_
        refine pc_V (As := []) (rest := []) S (c_Mo_thrown l D b cI cJ cZ mki msz mle mel mme mal mic mil mio mab mae msa mlc mli mna mva mma mch mre mlv mwr msh 0 mnv mns mfa mmo) wB_blind k_Mo_thrown i_Mo_thrown e_Mo_thrown o_Mo ml_La_84 hd_Mo_thrown (Nat.le_trans (by decide) hRf) (Nat.le_trans (by decide) hRl) hRc (va_recv hK hP.r (q0 := 0) (ci := 6) rfl rfl) (wB_at hP.r hK) hl.1 rfl (Nat.le_of_ble_eq_true rfl) d_La_law_1041 ?_
        refine lv_iload hx hb d_La_law_1044 (lv_at hl 1 rfl) ?_
        refine lv_icmp_eq (tgt := 1051) hx hb d_La_law_1046 (by decide) (fun h => ?_) (fun h => ?_)
        · exact absurd h (by decide)
        · skip
          refine lv_iconst (v := 0) hx hb d_La_law_1049 (by decide) ?_
          exact vc.elim
  · have vc := vc.2 hv1
    refine hc_1 (As := [.ref (a 24), .int k1, .int k2, .ref (a 25)]) (rest := []) S (c_La_marks_2 l hls D a cI cJ cZ ki co pr pa tw nv sv pn pl po pf pt ru le li bn ip aw ns ch ma br tl ou k1 k2 hpre hv1) kw_La_marks s_La_marks o_La ml_La_130 hd_La_marks (Nat.le_trans (by decide) hRf) (Nat.le_trans (by decide) hRl) hRc hK hP hD hS hA hX hN hl.1 rfl (Nat.le_of_ble_eq_true rfl) d_La_law_1017 (fun _ H locs _ hP hD hS => ?_)
    refine lv_istore hx hb d_La_law_1020 hl (by decide) (lv' := [(5, .int 0), (4, .int i), (3, .ref (a 25)), (2, .ref (b 0)), (1, .ref (a 24)), (0, .ref sc)]) rfl (fun ls hl => ?_)
    refine lv_aload_n hx hb d_La_law_1022 rfl (lv_at hl 3 rfl) ?_
    refine lv_aload_n hx hb d_La_law_1023 rfl (lv_at hl 5 rfl) ?_
    refine lv_iload hx hb d_La_law_1024 (lv_at hl 1 rfl) ?_
    refine lv_iconst (v := 1) hx hb d_La_law_1026 (by decide) ?_
    refine lv_iadd hx hb d_La_law_1027 ?_
    refine va_sld hx hb hXs hbl hbA hS hi1 d_La_law_1028 ?_
    rw [e1]
    refine lv_aload_n hx hb d_La_law_1029 rfl (lv_at hl 5 rfl) ?_
    refine lv_iload hx hb d_La_law_1030 (lv_at hl 1 rfl) ?_
    refine lv_iconst (v := 2) hx hb d_La_law_1032 (by decide) ?_
    refine lv_iadd hx hb d_La_law_1033 ?_
    refine va_sld hx hb hXs hbl hbA hS hi2 d_La_law_1034 ?_
    rw [e2]
    obtain ⟨hpre, vc⟩ := vc
    by_cases hv1 : ¬ (sHas mns k1 && sHas mnv k2) = true
    · have vc := vc.1 hv1
      refine wc_2 (As := [.int k1, .int k2]) (rest := []) S (c_Mo_marks_1 l D b cI cJ cZ mki msz mle mel mme mal mic mil mio mab mae msa mlc mli mna mva mma mch mre mlv mwr msh mth mnv mns mfa mmo k1 k2 hpre hv1) k_Mo_marks i_Mo_marks e_Mo_marks o_Mo ml_La_132 hd_Mo_marks (Nat.le_trans (by decide) hRf) (Nat.le_trans (by decide) hRl) hRc (va_recv hK hP.r (q0 := 0) (ci := 6) rfl rfl) hK hP hD hS hA hl.1 rfl (Nat.le_of_ble_eq_true rfl) d_La_law_1035 (fun _ H locs _ hP hD hS => ?_)
      refine lv_istore hx hb d_La_law_1038 hl (by decide) (lv' := [(6, .int 0), (5, .int 0), (4, .int i), (3, .ref (a 25)), (2, .ref (b 0)), (1, .ref (a 24)), (0, .ref sc)]) rfl (fun ls hl => ?_)
      refine lv_aload_n hx hb d_La_law_1040 rfl (lv_at hl 4 rfl) ?_
      refine pc_V (As := []) (rest := []) S (c_Mo_thrown l D b cI cJ cZ mki msz mle mel mme mal mic mil mio mab mae msa mlc mli mna mva mma mch mre mlv mwr msh 1 mnv mns mfa mmo) wB_blind k_Mo_thrown i_Mo_thrown e_Mo_thrown o_Mo ml_La_84 hd_Mo_thrown (Nat.le_trans (by decide) hRf) (Nat.le_trans (by decide) hRl) hRc (va_recv hK hP.r (q0 := 0) (ci := 6) rfl rfl) (wB_at hP.r hK) hl.1 rfl (Nat.le_of_ble_eq_true rfl) d_La_law_1041 ?_
      refine lv_iload hx hb d_La_law_1044 (lv_at hl 1 rfl) ?_
      refine lv_icmp_eq (tgt := 1051) hx hb d_La_law_1046 (by decide) (fun h => ?_) (fun h => ?_)
      · exact absurd h (by decide)
      · skip
        refine lv_iconst (v := 0) hx hb d_La_law_1049 (by decide) ?_
        exact vc.elim
    · have vc := vc.2 hv1
      by_cases hv2 : mch (40 * k1 + k2 : Int32).toNatClampNeg = 0
      · have vc := vc.1 hv2
        refine wc_2 (As := [.int k1, .int k2]) (rest := []) S (c_Mo_marks_2 l D b cI cJ cZ mki msz mle mel mme mal mic mil mio mab mae msa mlc mli mna mva mma mch mre mlv mwr msh mth mnv mns mfa mmo k1 k2 hpre hv1 hv2) k_Mo_marks i_Mo_marks e_Mo_marks o_Mo ml_La_132 hd_Mo_marks (Nat.le_trans (by decide) hRf) (Nat.le_trans (by decide) hRl) hRc (va_recv hK hP.r (q0 := 0) (ci := 6) rfl rfl) hK hP hD hS hA hl.1 rfl (Nat.le_of_ble_eq_true rfl) d_La_law_1035 (fun _ H locs _ hP hD hS => ?_)
        refine lv_istore hx hb d_La_law_1038 hl (by decide) (lv' := [(6, .int (-1)), (5, .int 0), (4, .int i), (3, .ref (a 25)), (2, .ref (b 0)), (1, .ref (a 24)), (0, .ref sc)]) rfl (fun ls hl => ?_)
        refine lv_aload_n hx hb d_La_law_1040 rfl (lv_at hl 4 rfl) ?_
        refine pc_V (As := []) (rest := []) S (c_Mo_thrown l D b cI cJ cZ mki msz mle mel mme mal mic mil mio mab mae msa mlc mli mna mva mma mch mre mlv mwr msh 0 mnv mns mfa mmo) wB_blind k_Mo_thrown i_Mo_thrown e_Mo_thrown o_Mo ml_La_84 hd_Mo_thrown (Nat.le_trans (by decide) hRf) (Nat.le_trans (by decide) hRl) hRc (va_recv hK hP.r (q0 := 0) (ci := 6) rfl rfl) (wB_at hP.r hK) hl.1 rfl (Nat.le_of_ble_eq_true rfl) d_La_law_1041 ?_
        refine lv_iload hx hb d_La_law_1044 (lv_at hl 1 rfl) ?_
        refine lv_icmp_eq (tgt := 1051) hx hb d_La_law_1046 (by decide) (fun h => ?_) (fun h => ?_)
        · skip
          refine lv_iload hx hb d_La_law_1051 (lv_at hl 1 rfl) ?_
          refine lv_if_ne (tgt := 1068) hx hb d_La_law_1053 (by decide) (fun h => ?_) (fun h => ?_)
          · exact absurd h (by decide)
          · skip
            refine lv_aload_n hx hb d_La_law_1056 rfl (lv_at hl 3 rfl) ?_
            refine lv_iconst (v := 0) hx hb d_La_law_1057 (by decide) ?_
            refine va_lald hx hb hK hP.l 25 1 rfl rfl h01 d_La_law_1058 ?_
            refine lv_iload hx hb d_La_law_1059 (lv_at hl 0 rfl) ?_
            refine lv_i2l hx hb d_La_law_1061 rfl ?_
            refine W.lcmp hx hb d_La_law_1062 ?_
            refine lv_if_eq (tgt := 1068) hx hb d_La_law_1063 (by decide) (fun h => ?_) (fun h => ?_)
            · have vc := vc.1 h
              refine lv_goto (tgt := 1215) hx hb d_La_law_1068 (by decide) ?_
              exact hnext ki co pr pa tw nv sv pn pl po pf pt ru le li bn ip aw ns ch ma br tl (vp_updL ou 0 ((if ch (k2 * 24 + k1 : Int32).toNatClampNeg = 0 then -1 else ma (k2 * 24 + k1 : Int32).toNatClampNeg : Int32).toInt64)) mki msz mle mel mme mal mic mil mio mab mae msa mlc mli mna mva mma mch mre mlv mwr msh 0 mnv mns mfa mmo ls H locs vc (lv_sub hl [6, 5, 4, 3, 2] rfl) hP hD hS
            · have vc := vc.2 h
              refine lv_iconst (v := 0) hx hb d_La_law_1066 (by decide) ?_
              exact vc.elim
        · exact absurd h (by decide)
      · have vc := vc.2 hv2
        refine wc_2 (As := [.int k1, .int k2]) (rest := []) S (c_Mo_marks_3 l D b cI cJ cZ mki msz mle mel mme mal mic mil mio mab mae msa mlc mli mna mva mma mch mre mlv mwr msh mth mnv mns mfa mmo k1 k2 hpre hv1 hv2) k_Mo_marks i_Mo_marks e_Mo_marks o_Mo ml_La_132 hd_Mo_marks (Nat.le_trans (by decide) hRf) (Nat.le_trans (by decide) hRl) hRc (va_recv hK hP.r (q0 := 0) (ci := 6) rfl rfl) hK hP hD hS hA hl.1 rfl (Nat.le_of_ble_eq_true rfl) d_La_law_1035 (fun _ H locs _ hP hD hS => ?_)
        refine lv_istore hx hb d_La_law_1038 hl (by decide) (lv' := [(6, .int (msh (40 * k1 + k2 : Int32).toNatClampNeg)), (5, .int 0), (4, .int i), (3, .ref (a 25)), (2, .ref (b 0)), (1, .ref (a 24)), (0, .ref sc)]) rfl (fun ls hl => ?_)
        refine lv_aload_n hx hb d_La_law_1040 rfl (lv_at hl 4 rfl) ?_
        refine pc_V (As := []) (rest := []) S (c_Mo_thrown l D b cI cJ cZ mki msz mle mel mme mal mic mil mio mab mae msa mlc mli mna mva mma mch mre mlv mwr msh 0 mnv mns mfa mmo) wB_blind k_Mo_thrown i_Mo_thrown e_Mo_thrown o_Mo ml_La_84 hd_Mo_thrown (Nat.le_trans (by decide) hRf) (Nat.le_trans (by decide) hRl) hRc (va_recv hK hP.r (q0 := 0) (ci := 6) rfl rfl) (wB_at hP.r hK) hl.1 rfl (Nat.le_of_ble_eq_true rfl) d_La_law_1041 ?_
        refine lv_iload hx hb d_La_law_1044 (lv_at hl 1 rfl) ?_
        refine lv_icmp_eq (tgt := 1051) hx hb d_La_law_1046 (by decide) (fun h => ?_) (fun h => ?_)
        · skip
          refine lv_iload hx hb d_La_law_1051 (lv_at hl 1 rfl) ?_
          refine lv_if_ne (tgt := 1068) hx hb d_La_law_1053 (by decide) (fun h => ?_) (fun h => ?_)
          · exact absurd h (by decide)
          · skip
            refine lv_aload_n hx hb d_La_law_1056 rfl (lv_at hl 3 rfl) ?_
            refine lv_iconst (v := 0) hx hb d_La_law_1057 (by decide) ?_
            refine va_lald hx hb hK hP.l 25 1 rfl rfl h01 d_La_law_1058 ?_
            refine lv_iload hx hb d_La_law_1059 (lv_at hl 0 rfl) ?_
            refine lv_i2l hx hb d_La_law_1061 rfl ?_
            refine W.lcmp hx hb d_La_law_1062 ?_
            refine lv_if_eq (tgt := 1068) hx hb d_La_law_1063 (by decide) (fun h => ?_) (fun h => ?_)
            · have vc := vc.1 h
              refine lv_goto (tgt := 1215) hx hb d_La_law_1068 (by decide) ?_
              exact hnext ki co pr pa tw nv sv pn pl po pf pt ru le li bn ip aw ns ch ma br tl (vp_updL ou 0 ((if ch (k2 * 24 + k1 : Int32).toNatClampNeg = 0 then -1 else ma (k2 * 24 + k1 : Int32).toNatClampNeg : Int32).toInt64)) mki msz mle mel mme mal mic mil mio mab mae msa mlc mli mna mva mma mch mre mlv mwr msh 0 mnv mns mfa mmo ls H locs vc (lv_sub hl [6, 5, 4, 3, 2] rfl) hP hD hS
            · have vc := vc.2 h
              refine lv_iconst (v := 0) hx hb d_La_law_1066 (by decide) ?_
              exact vc.elim
        · exact absurd h (by decide)
