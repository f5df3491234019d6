def V_L0 (ki : Nat → Int32) (co : Nat → Int64) (pr : Nat → Int32) (pa : Nat → Int32) (tw : Nat → Int32) (nv : Int32) (sv : Int32) (pn : Nat → Int32) (pl : Nat → Int32) (po : Nat → Int32) (pf : Nat → Int32) (pt : Nat → Int32) (ru : Nat → Int32) (le : Nat → Int32) (li : Nat → Int32) (bn : Nat → Int32) (ip : Nat → Int32) (aw : Nat → Int32) (ns : Int32) (ch : Nat → Int32) (ma : Nat → Int32) (br : Nat → Int64) (tl : Int32) (ou : Nat → Int64) (mki : Nat → Int32) (msz : Nat → Int64) (mle : Nat → Int32) (mel : Nat → Int32) (mme : Nat → Int32) (mal : Nat → Int32) (mic : Nat → Int32) (mil : Nat → Int32) (mio : Nat → Int32) (mab : Nat → Int32) (mae : Nat → Int32) (msa : Nat → Int32) (mlc : Nat → Int32) (mli : Nat → Int32) (mna : Nat → Int32) (mva : Nat → Int32) (mma : Nat → Int32) (mch : Nat → Int32) (mre : Nat → Int32) (mlv : Nat → Int32) (mwr : Nat → Int64) (msh : Nat → Int32) (mth : Int32) (mnv : Int32) (mns : Int32) (mfa : Int32) (mmo : Int32) (k1 k2 k3 k4 : Int32) (post : (Nat → Int32) → (Nat → Int64) → (Nat → Int32) → (Nat → Int32) → (Nat → Int32) → Int32 → Int32 → (Nat → Int32) → (Nat → Int32) → (Nat → Int32) → (Nat → Int32) → (Nat → Int32) → (Nat → Int32) → (Nat → Int32) → (Nat → Int32) → (Nat → Int32) → (Nat → Int32) → (Nat → Int32) → Int32 → (Nat → Int32) → (Nat → Int32) → (Nat → Int64) → Int32 → (Nat → Int64) → (Nat → Int32) → (Nat → Int64) → (Nat → Int32) → (Nat → Int32) → (Nat → Int32) → (Nat → Int32) → (Nat → Int32) → (Nat → Int32) → (Nat → Int32) → (Nat → Int32) → (Nat → Int32) → (Nat → Int32) → (Nat → Int32) → (Nat → Int32) → (Nat → Int32) → (Nat → Int32) → (Nat → Int32) → (Nat → Int32) → (Nat → Int32) → (Nat → Int32) → (Nat → Int64) → (Nat → Int32) → Int32 → Int32 → Int32 → Int32 → Int32 → Prop) : Prop :=
  (¬ nv < 0 ∧ ((¬ (k1 = 0 ∨ k1 = 4 ∨ k1 = 5) → ((¬ mnv < 0 ∧ mnv ≤ 40) ∧ ((¬ (k1 = 0 ∨ k1 = 4 ∨ k1 = 5) → post ki co pr pa tw nv sv pn pl po pf pt ru le li bn ip aw ns ch ma br tl ou mki msz mle mel mme mal mic mil mio mab mae msa mlc mli mna mva mma mch mre mlv mwr msh 1 mnv mns mfa mmo) ∧ (¬ (¬ (k1 = 0 ∨ k1 = 4 ∨ k1 = 5)) → ((mnv = 40 → False) ∧ (¬ (mnv = 40) → False)))))) ∧ (¬ (¬ (k1 = 0 ∨ k1 = 4 ∨ k1 = 5)) → ((¬ nv < 40 → ((¬ mnv < 0 ∧ mnv ≤ 40) ∧ ((¬ (k1 = 0 ∨ k1 = 4 ∨ k1 = 5) → False) ∧ (¬ (¬ (k1 = 0 ∨ k1 = 4 ∨ k1 = 5)) → ((mnv = 40 → post ki co pr pa tw nv sv pn pl po pf pt ru le li bn ip aw ns ch ma br tl ou mki msz mle mel mme mal mic mil mio mab mae msa mlc mli mna mva mma mch mre mlv mwr msh 2 mnv mns mfa mmo) ∧ (¬ (mnv = 40) → False)))))) ∧ (¬ (¬ nv < 40) → ((¬ mnv < 0 ∧ mnv ≤ 40) ∧ ((¬ (k1 = 0 ∨ k1 = 4 ∨ k1 = 5) → False) ∧ (¬ (¬ (k1 = 0 ∨ k1 = 4 ∨ k1 = 5)) → ((mnv = 40 → False) ∧ (¬ (mnv = 40) → (((lg_cmp ((vp_updL ou 0 ((nv + 1 - 1 : Int32).toInt64)) (0 : Int32).toNatClampNeg) ((mnv + 1 - 1 : Int32).toInt64)) = 0 → post (upd ki nv.toNatClampNeg k1) (vp_updL co nv.toNatClampNeg 0) pr pa tw (nv + 1) sv pn pl po pf pt ru le li bn ip aw ns ch ma br tl (vp_updL ou 0 ((nv + 1 - 1 : Int32).toInt64)) (upd mki mnv.toNatClampNeg k1) (vp_updL msz mnv.toNatClampNeg 0) mle mel mme mal mic mil mio mab mae msa mlc mli mna mva mma mch mre mlv mwr msh 0 (mnv + 1) mns mfa mmo) ∧ (¬ (lg_cmp ((vp_updL ou 0 ((nv + 1 - 1 : Int32).toInt64)) (0 : Int32).toNatClampNeg) ((mnv + 1 - 1 : Int32).toInt64)) = 0 → False))))))))))))
set_option maxHeartbeats 4000000 in
set_option maxRecDepth 100000 in
theorem g_L0 {p : Program} {l : Launch} {e : Env} {R : Room} {s : State} {m : MethodId} {args : Array Value} {below : List Frame} {meth : Method} {c : Code} {H : Heap} {locs : List Loc} {cells slots : Nat} {Q : State → Prop} {ls : Array Slot} {A : Nat → Prop} (hls : l.stackTraces = false) (S : CallFix p m c code 7 s args W0 "SchemaJudgeLaw") (hN : eN s) (hRf : 9 ≤ R.frames) (hRl : 157 ≤ R.locals) (hRc : cells + 1 ≤ R.cells ∧ slots + 6 ≤ R.slots) (D : va_G) (a b : Nat → Nat) (cI cJ cZ : ClassId) (ki : Nat → Int32) (co : Nat → Int64) (pr : Nat → Int32) (pa : Nat → Int32) (tw : Nat → Int32) (nv : Int32) (sv : Int32) (pn : Nat → Int32) (pl : Nat → Int32) (po : Nat → Int32) (pf : Nat → Int32) (pt : Nat → Int32) (ru : Nat → Int32) (le : Nat → Int32) (li : Nat → Int32) (bn : Nat → Int32) (ip : Nat → Int32) (aw : Nat → Int32) (ns : Int32) (ch : Nat → Int32) (ma : Nat → Int32) (br : Nat → Int64) (tl : Int32) (ou : Nat → Int64) (mki : Nat → Int32) (msz : Nat → Int64) (mle : Nat → Int32) (mel : Nat → Int32) (mme : Nat → Int32) (mal : Nat → Int32) (mic : Nat → Int32) (mil : Nat → Int32) (mio : Nat → Int32) (mab : Nat → Int32) (mae : Nat → Int32) (msa : Nat → Int32) (mlc : Nat → Int32) (mli : Nat → Int32) (mna : Nat → Int32) (mva : Nat → Int32) (mma : Nat → Int32) (mch : Nat → Int32) (mre : Nat → Int32) (mlv : Nat → Int32) (mwr : Nat → Int64) (msh : Nat → Int32) (mth : Int32) (mnv : Int32) (mns : Int32) (mfa : Int32) (mmo : Int32) (k1 k2 k3 k4 : Int32) (sc L : Nat) (xs : Nat → Int32) (i : Int32) (hXs : va_X sc L xs s s.heap) (hbl : sc < s.heap.size) (hbA : ¬ A sc) (hi1 : vp_in (i + 1) L) (e1 : xs (i + 1 : Int32).toNatClampNeg = k1) (hi2 : vp_in (i + 2) L) (e2 : xs (i + 2 : Int32).toNatClampNeg = k2) (hi3 : vp_in (i + 3) L) (e3 : xs (i + 3 : Int32).toNatClampNeg = k3) (hi4 : vp_in (i + 4) L) (e4 : xs (i + 4 : Int32).toNatClampNeg = k4) (hK : va_K D vwCl (tyA cI cJ cZ) s) (hP : va_P D vwCl ((wX a ++ wV a cI cJ ki co pr pa tw nv sv ++ wP a cI cZ pn pl po pf pt ++ wS a cI ru le li bn ip aw ns ++ wL a ++ wJ a cI cJ ch ma br tl ++ wO a cJ ou) ++ (wM b cI cJ cZ mki msz mle mel mme mal mic mil mio mab mae msa mlc mli mna mva mma mch mre mlv mwr msh mth mnv mns mfa mmo)) H) (hD : va_D A ((wX a ++ wV a cI cJ ki co pr pa tw nv sv ++ wP a cI cZ pn pl po pf pt ++ wS a cI ru le li bn ip aw ns ++ wL a ++ wJ a cI cJ ch ma br tl ++ wO a cJ ou) ++ (wM b cI cJ cZ mki msz mle mel mme mal mic mil mio mab mae msa mlc mli mna mva mma mch mre mlv mwr msh mth mnv mns mfa mmo))) (hA : ∀ q, s.heap.size ≤ q → A q) (hS : va_S A s.heap H locs) (hX : eX A s s.heap) (hl : lv_has ls 7 [(4, .int i), (3, .ref (a 25)), (2, .ref (b 0)), (1, .ref (a 24)), (0, .ref sc)]) {post : (Nat → Int32) → (Nat → Int64) → (Nat → Int32) → (Nat → Int32) → (Nat → Int32) → Int32 → Int32 → (Nat → Int32) → (Nat → Int32) → (Nat → Int32) → (Nat → Int32) → (Nat → Int32) → (Nat → Int32) → (Nat → Int32) → (Nat → Int32) → (Nat → Int32) → (Nat → Int32) → (Nat → Int32) → Int32 → (Nat → Int32) → (Nat → Int32) → (Nat → Int64) → Int32 → (Nat → Int64) → (Nat → Int32) → (Nat → Int64) → (Nat → Int32) → (Nat → Int32) → (Nat → Int32) → (Nat → Int32) → (Nat → Int32) → (Nat → Int32) → (Nat → Int32) → (Nat → Int32) → (Nat → Int32) → (Nat → Int32) → (Nat → Int32) → (Nat → Int32) → (Nat → Int32) → (Nat → Int32) → (Nat → Int32) → (Nat → Int32) → (Nat → Int32) → (Nat → Int32) → (Nat → Int64) → (Nat → Int32) → Int32 → Int32 → Int32 → Int32 → Int32 → Prop} (vc : V_L0 ki co pr pa tw nv sv pn pl po pf pt ru le li bn ip aw ns ch ma br tl ou mki msz mle mel mme mal mic mil mio mab mae msa mlc mli mna mva mma mch mre mlv mwr msh mth mnv mns mfa mmo k1 k2 k3 k4 post)
    (hnext : ∀ (ki : Nat → Int32) (co : Nat → Int64) (pr : Nat → Int32) (pa : Nat → Int32) (tw : Nat → Int32) (nv : Int32) (sv : Int32) (pn : Nat → Int32) (pl : Nat → Int32) (po : Nat → Int32) (pf : Nat → Int32) (pt : Nat → Int32) (ru : Nat → Int32) (le : Nat → Int32) (li : Nat → Int32) (bn : Nat → Int32) (ip : Nat → Int32) (aw : Nat → Int32) (ns : Int32) (ch : Nat → Int32) (ma : Nat → Int32) (br : Nat → Int64) (tl : Int32) (ou : Nat → Int64) (mki : Nat → Int32) (msz : Nat → Int64) (mle : Nat → Int32) (mel : Nat → Int32) (mme : Nat → Int32) (mal : Nat → Int32) (mic : Nat → Int32) (mil : Nat → Int32) (mio : Nat → Int32) (mab : Nat → Int32) (mae : Nat → Int32) (msa : Nat → Int32) (mlc : Nat → Int32) (mli : Nat → Int32) (mna : Nat → Int32) (mva : Nat → Int32) (mma : Nat → Int32) (mch : Nat → Int32) (mre : Nat → Int32) (mlv : Nat → Int32) (mwr : Nat → Int64) (msh : Nat → Int32) (mth : Int32) (mnv : Int32) (mns : Int32) (mfa : Int32) (mmo : Int32) (ls : Array Slot) (H : Heap) (locs : List Loc), post ki co pr pa tw nv sv pn pl po pf pt ru le li bn ip aw ns ch ma br tl ou mki msz mle mel mme mal mic mil mio mab mae msa mlc mli mna mva mma mch mre mlv mwr msh mth mnv mns mfa mmo → lv_has ls 7 [(0, .ref sc), (1, .ref (a 24)), (2, .ref (b 0)), (3, .ref (a 25)), (4, .int i)] → va_P D vwCl ((wX a ++ wV a cI cJ ki co pr pa tw nv sv ++ wP a cI cZ pn pl po pf pt ++ wS a cI ru le li bn ip aw ns ++ wL a ++ wJ a cI cJ ch ma br tl ++ wO a cJ ou) ++ (wM b cI cJ cZ mki msz mle mel mme mal mic mil mio mab mae msa mlc mli mna mva mma mch mre mlv mwr msh mth mnv mns mfa mmo)) H → va_D A ((wX a ++ wV a cI cJ ki co pr pa tw nv sv ++ wP a cI cZ pn pl po pf pt ++ wS a cI ru le li bn ip aw ns ++ wL a ++ wJ a cI cJ ch ma br tl ++ wO a cJ ou) ++ (wM b cI cJ cZ mki msz mle mel mme mal mic mil mio mab mae msa mlc mli mna mva mma mch mre mlv mwr msh mth mnv mns mfa mmo)) → va_S A s.heap H locs → W p l e R s m args below meth c H locs (cells + 1) (slots + 6) Q (F0 m 1215 ls [])) : W p l e R s m args below meth c H locs cells slots Q (F0 m 120 ls []) := by
  have hx := S.1
  have hb := S.2.1
  have hown := S.2.2.2.1
  have hts := S.2.2.2.2
  have h01 : vp_in (0 : Int32) 1 := vp_in_nI (n := 0) (by decide) (by decide)
  unfold V_L0 at vc
  refine lv_aload_n hx hb d_La_law_120 rfl (lv_at hl 3 rfl) ?_
  refine lv_aload_n hx hb d_La_law_121 rfl (lv_at hl 4 rfl) ?_
  refine lv_iload hx hb d_La_law_122 (lv_at hl 0 rfl) ?_
  refine lv_iconst (v := 1) hx hb d_La_law_124 (by decide) ?_
  refine lv_iadd hx hb d_La_law_125 ?_
  refine va_sld hx hb hXs hbl hbA hS hi1 d_La_law_126 ?_
  rw [e1]
  refine lv_aload_n hx hb d_La_law_127 rfl (lv_at hl 1 rfl) ?_
  obtain ⟨hpre, vc⟩ := vc
  by_cases hv1 : ¬ (k1 = 0 ∨ k1 = 4 ∨ k1 = 5)
  · have vc := vc.1 hv1
    refine hc_1 (As := [.ref (a 24), .int k1, .ref (a 25)]) (rest := []) S (c_La_make_1 l hls D a cI cJ cZ ki co pr pa tw nv sv pn pl po pf pt ru le li bn ip aw ns ch ma br tl ou k1 hpre hv1) kw_La_make s_La_make o_La ml_La_78 hd_La_make (Nat.le_trans (by decide) hRf) (Nat.le_trans (by decide) hRl) hRc hK hP hD hS hA hX hN hl.1 rfl (Nat.le_of_ble_eq_true rfl) d_La_law_128 (fun _ H locs _ hP hD hS => ?_)
    refine lv_istore hx hb d_La_law_131 hl (by decide) (lv' := [(5, .int 1), (4, .int i), (3, .ref (a 25)), (2, .ref (b 0)), (1, .ref (a 24)), (0, .ref sc)]) rfl (fun ls hl => ?_)
    refine lv_aload_n hx hb d_La_law_133 rfl (lv_at hl 3 rfl) ?_
    refine lv_aload_n hx hb d_La_law_134 rfl (lv_at hl 5 rfl) ?_
    refine lv_iload hx hb d_La_law_135 (lv_at hl 1 rfl) ?_
    refine lv_iconst (v := 1) hx hb d_La_law_137 (by decide) ?_
    refine lv_iadd hx hb d_La_law_138 ?_
    refine va_sld hx hb hXs hbl hbA hS hi1 d_La_law_139 ?_
    rw [e1]
    obtain ⟨hpre, vc⟩ := vc
    by_cases hv1 : ¬ (k1 = 0 ∨ k1 = 4 ∨ k1 = 5)
    · have vc := vc.1 hv1
      refine wc_2 (As := [.int k1]) (rest := []) S (c_Mo_make_1 l D b cI cJ cZ mki msz mle mel mme mal mic mil mio mab mae msa mlc mli mna mva mma mch mre mlv mwr msh mth mnv mns mfa mmo k1 hpre hv1) k_Mo_make i_Mo_make e_Mo_make o_Mo ml_La_83 hd_Mo_make (Nat.le_trans (by decide) hRf) (Nat.le_trans (by decide) hRl) hRc (va_recv hK hP.r (q0 := 0) (ci := 6) rfl rfl) hK hP hD hS hA hl.1 rfl (Nat.le_of_ble_eq_true rfl) d_La_law_140 (fun _ H locs _ hP hD hS => ?_)
      refine lv_istore hx hb d_La_law_143 hl (by decide) (lv' := [(6, .int 0), (5, .int 1), (4, .int i), (3, .ref (a 25)), (2, .ref (b 0)), (1, .ref (a 24)), (0, .ref sc)]) rfl (fun ls hl => ?_)
      refine lv_aload_n hx hb d_La_law_145 rfl (lv_at hl 4 rfl) ?_
      refine pc_V (As := []) (rest := []) S (c_Mo_thrown l D b cI cJ cZ mki msz mle mel mme mal mic mil mio mab mae msa mlc mli mna mva mma mch mre mlv mwr msh 1 mnv mns mfa mmo) wB_blind k_Mo_thrown i_Mo_thrown e_Mo_thrown o_Mo ml_La_84 hd_Mo_thrown (Nat.le_trans (by decide) hRf) (Nat.le_trans (by decide) hRl) hRc (va_recv hK hP.r (q0 := 0) (ci := 6) rfl rfl) (wB_at hP.r hK) hl.1 rfl (Nat.le_of_ble_eq_true rfl) d_La_law_146 ?_
      refine lv_iload hx hb d_La_law_149 (lv_at hl 1 rfl) ?_
      refine lv_icmp_eq (tgt := 156) hx hb d_La_law_151 (by decide) (fun h => ?_) (fun h => ?_)
      · skip
        refine lv_iload hx hb d_La_law_156 (lv_at hl 1 rfl) ?_
        refine lv_if_ne (tgt := 173) hx hb d_La_law_158 (by decide) (fun h => ?_) (fun h => ?_)
        · skip
          refine lv_goto (tgt := 1215) hx hb d_La_law_173 (by decide) ?_
          exact hnext ki co pr pa tw nv sv pn pl po pf pt ru le li bn ip aw ns ch ma br tl ou mki msz mle mel mme mal mic mil mio mab mae msa mlc mli mna mva mma mch mre mlv mwr msh 1 mnv mns mfa mmo ls H locs vc (lv_sub hl [6, 5, 4, 3, 2] rfl) hP hD hS
        · exact absurd h (by decide)
      · exact absurd h (by decide)
    · have vc := vc.2 hv1
      by_cases hv2 : mnv = 40
      · have vc := vc.1 hv2
        refine wc_2 (As := [.int k1]) (rest := []) S (c_Mo_make_2 l D b cI cJ cZ mki msz mle mel mme mal mic mil mio mab mae msa mlc mli mna mva mma mch mre mlv mwr msh mth mnv mns mfa mmo k1 hpre hv1 hv2) k_Mo_make i_Mo_make e_Mo_make o_Mo ml_La_83 hd_Mo_make (Nat.le_trans (by decide) hRf) (Nat.le_trans (by decide) hRl) hRc (va_recv hK hP.r (q0 := 0) (ci := 6) rfl rfl) hK hP hD hS hA hl.1 rfl (Nat.le_of_ble_eq_true rfl) d_La_law_140 (fun _ H locs _ hP hD hS => ?_)
        refine lv_istore hx hb d_La_law_143 hl (by decide) (lv' := [(6, .int 0), (5, .int 1), (4, .int i), (3, .ref (a 25)), (2, .ref (b 0)), (1, .ref (a 24)), (0, .ref sc)]) rfl (fun ls hl => ?_)
        refine lv_aload_n hx hb d_La_law_145 rfl (lv_at hl 4 rfl) ?_
        refine pc_V (As := []) (rest := []) S (c_Mo_thrown l D b cI cJ cZ mki msz mle mel mme mal mic mil mio mab mae msa mlc mli mna mva mma mch mre mlv mwr msh 2 mnv mns mfa mmo) wB_blind k_Mo_thrown i_Mo_thrown e_Mo_thrown o_Mo ml_La_84 hd_Mo_thrown (Nat.le_trans (by decide) hRf) (Nat.le_trans (by decide) hRl) hRc (va_recv hK hP.r (q0 := 0) (ci := 6) rfl rfl) (wB_at hP.r hK) hl.1 rfl (Nat.le_of_ble_eq_true rfl) d_La_law_146 ?_
        refine lv_iload hx hb d_La_law_149 (lv_at hl 1 rfl) ?_
        refine lv_icmp_eq (tgt := 156) hx hb d_La_law_151 (by decide) (fun h => ?_) (fun h => ?_)
        · exact absurd h (by decide)
        · skip
          refine lv_iconst (v := 0) hx hb d_La_law_154 (by decide) ?_
          exact vc.elim
      · have vc := vc.2 hv2
        refine wc_2 (As := [.int k1]) (rest := []) S (c_Mo_make_3 l D b cI cJ cZ mki msz mle mel mme mal mic mil mio mab mae msa mlc mli mna mva mma mch mre mlv mwr msh mth mnv mns mfa mmo k1 hpre hv1 hv2) k_Mo_make i_Mo_make e_Mo_make o_Mo ml_La_83 hd_Mo_make (Nat.le_trans (by decide) hRf) (Nat.le_trans (by decide) hRl) hRc (va_recv hK hP.r (q0 := 0) (ci := 6) rfl rfl) hK hP hD hS hA hl.1 rfl (Nat.le_of_ble_eq_true rfl) d_La_law_140 (fun _ H locs _ hP hD hS => ?_)
        refine lv_istore hx hb d_La_law_143 hl (by decide) (lv' := [(6, .int (mnv + 1 - 1)), (5, .int 1), (4, .int i), (3, .ref (a 25)), (2, .ref (b 0)), (1, .ref (a 24)), (0, .ref sc)]) rfl (fun ls hl => ?_)
        refine lv_aload_n hx hb d_La_law_145 rfl (lv_at hl 4 rfl) ?_
        refine pc_V (As := []) (rest := []) S (c_Mo_thrown l D b cI cJ cZ (upd mki mnv.toNatClampNeg k1) (vp_updL msz mnv.toNatClampNeg 0) mle mel mme mal mic mil mio mab mae msa mlc mli mna mva mma mch mre mlv mwr msh 0 (mnv + 1) mns mfa mmo) wB_blind k_Mo_thrown i_Mo_thrown e_Mo_thrown o_Mo ml_La_84 hd_Mo_thrown (Nat.le_trans (by decide) hRf) (Nat.le_trans (by decide) hRl) hRc (va_recv hK hP.r (q0 := 0) (ci := 6) rfl rfl) (wB_at hP.r hK) hl.1 rfl (Nat.le_of_ble_eq_true rfl) d_La_law_146 ?_
        refine lv_iload hx hb d_La_law_149 (lv_at hl 1 rfl) ?_
        refine lv_icmp_eq (tgt := 156) hx hb d_La_law_151 (by decide) (fun h => ?_) (fun h => ?_)
        · exact absurd h (by decide)
        · skip
          refine lv_iconst (v := 0) hx hb d_La_law_154 (by decide) ?_
          exact vc.elim
  · have vc := vc.2 hv1
    by_cases hv2 : ¬ nv < 40
    · have vc := vc.1 hv2
      refine hc_1 (As := [.ref (a 24), .int k1, .ref (a 25)]) (rest := []) S (c_La_make_2 l hls D a cI cJ cZ ki co pr pa tw nv sv pn pl po pf pt ru le li bn ip aw ns ch ma br tl ou k1 hpre hv1 hv2) kw_La_make s_La_make o_La ml_La_78 hd_La_make (Nat.le_trans (by decide) hRf) (Nat.le_trans (by decide) hRl) hRc hK hP hD hS hA hX hN hl.1 rfl (Nat.le_of_ble_eq_true rfl) d_La_law_128 (fun _ H locs _ hP hD hS => ?_)
      refine lv_istore hx hb d_La_law_131 hl (by decide) (lv' := [(5, .int 2), (4, .int i), (3, .ref (a 25)), (2, .ref (b 0)), (1, .ref (a 24)), (0, .ref sc)]) rfl (fun ls hl => ?_)
      refine lv_aload_n hx hb d_La_law_133 rfl (lv_at hl 3 rfl) ?_
      refine lv_aload_n hx hb d_La_law_134 rfl (lv_at hl 5 rfl) ?_
      refine lv_iload hx hb d_La_law_135 (lv_at hl 1 rfl) ?_
      refine lv_iconst (v := 1) hx hb d_La_law_137 (by decide) ?_
      refine lv_iadd hx hb d_La_law_138 ?_
      refine va_sld hx hb hXs hbl hbA hS hi1 d_La_law_139 ?_
      rw [e1]
      obtain ⟨hpre, vc⟩ := vc
      by_cases hv1 : ¬ (k1 = 0 ∨ k1 = 4 ∨ k1 = 5)
      · have vc := vc.1 hv1
        refine wc_2 (As := [.int k1]) (rest := []) S (c_Mo_make_1 l D b cI cJ cZ mki msz mle mel mme mal mic mil mio mab mae msa mlc mli mna mva mma mch mre mlv mwr msh mth mnv mns mfa mmo k1 hpre hv1) k_Mo_make i_Mo_make e_Mo_make o_Mo ml_La_83 hd_Mo_make (Nat.le_trans (by decide) hRf) (Nat.le_trans (by decide) hRl) hRc (va_recv hK hP.r (q0 := 0) (ci := 6) rfl rfl) hK hP hD hS hA hl.1 rfl (Nat.le_of_ble_eq_true rfl) d_La_law_140 (fun _ H locs _ hP hD hS => ?_)
        refine lv_istore hx hb d_La_law_143 hl (by decide) (lv' := [(6, .int 0), (5, .int 2), (4, .int i), (3, .ref (a 25)), (2, .ref (b 0)), (1, .ref (a 24)), (0, .ref sc)]) rfl (fun ls hl => ?_)
        refine lv_aload_n hx hb d_La_law_145 rfl (lv_at hl 4 rfl) ?_
        refine pc_V (As := []) (rest := []) S (c_Mo_thrown l D b cI cJ cZ mki msz mle mel mme mal mic mil mio mab mae msa mlc mli mna mva mma mch mre mlv mwr msh 1 mnv mns mfa mmo) wB_blind k_Mo_thrown i_Mo_thrown e_Mo_thrown o_Mo ml_La_84 hd_Mo_thrown (Nat.le_trans (by decide) hRf) (Nat.le_trans (by decide) hRl) hRc (va_recv hK hP.r (q0 := 0) (ci := 6) rfl rfl) (wB_at hP.r hK) hl.1 rfl (Nat.le_of_ble_eq_true rfl) d_La_law_146 ?_
        refine lv_iload hx hb d_La_law_149 (lv_at hl 1 rfl) ?_
        refine lv_icmp_eq (tgt := 156) hx hb d_La_law_151 (by decide) (fun h => ?_) (fun h => ?_)
        · exact absurd h (by decide)
        · skip
          refine lv_iconst (v := 0) hx hb d_La_law_154 (by decide) ?_
          exact vc.elim
      · have vc := vc.2 hv1
        by_cases hv2 : mnv = 40
        · have vc := vc.1 hv2
          refine wc_2 (As := [.int k1]) (rest := []) S (c_Mo_make_2 l D b cI cJ cZ mki msz mle mel mme mal mic mil mio mab mae msa mlc mli mna mva mma mch mre mlv mwr msh mth mnv mns mfa mmo k1 hpre hv1 hv2) k_Mo_make i_Mo_make e_Mo_make o_Mo ml_La_83 hd_Mo_make (Nat.le_trans (by decide) hRf) (Nat.le_trans (by decide) hRl) hRc (va_recv hK hP.r (q0 := 0) (ci := 6) rfl rfl) hK hP hD hS hA hl.1 rfl (Nat.le_of_ble_eq_true rfl) d_La_law_140 (fun _ H locs _ hP hD hS => ?_)
          refine lv_istore hx hb d_La_law_143 hl (by decide) (lv' := [(6, .int 0), (5, .int 2), (4, .int i), (3, .ref (a 25)), (2, .ref (b 0)), (1, .ref (a 24)), (0, .ref sc)]) rfl (fun ls hl => ?_)
          refine lv_aload_n hx hb d_La_law_145 rfl (lv_at hl 4 rfl) ?_
          refine pc_V (As := []) (rest := []) S (c_Mo_thrown l D b cI cJ cZ mki msz mle mel mme mal mic mil mio mab mae msa mlc mli mna mva mma mch mre mlv mwr msh 2 mnv mns mfa mmo) wB_blind k_Mo_thrown i_Mo_thrown e_Mo_thrown o_Mo ml_La_84 hd_Mo_thrown (Nat.le_trans (by decide) hRf) (Nat.le_trans (by decide) hRl) hRc (va_recv hK hP.r (q0 := 0) (ci := 6) rfl rfl) (wB_at hP.r hK) hl.1 rfl (Nat.le_of_ble_eq_true rfl) d_La_law_146 ?_
          refine lv_iload hx hb d_La_law_149 (lv_at hl 1 rfl) ?_
          refine lv_icmp_eq (tgt := 156) hx hb d_La_law_151 (by decide) (fun h => ?_) (fun h => ?_)
          · skip
            refine lv_iload hx hb d_La_law_156 (lv_at hl 1 rfl) ?_
            refine lv_if_ne (tgt := 173) hx hb d_La_law_158 (by decide) (fun h => ?_) (fun h => ?_)
            · skip
              refine lv_goto (tgt := 1215) hx hb d_La_law_173 (by decide) ?_
              exact hnext ki co pr pa tw nv sv pn pl po pf pt ru le li bn ip aw ns ch ma br tl ou mki msz mle mel mme mal mic mil mio mab mae msa mlc mli mna mva mma mch mre mlv mwr msh 2 mnv mns mfa mmo ls H locs vc (lv_sub hl [6, 5, 4, 3, 2] rfl) hP hD hS
            · exact absurd h (by decide)
          · exact absurd h (by decide)
        · have vc := vc.2 hv2
          refine wc_2 (As := [.int k1]) (rest := []) S (c_Mo_make_3 l D b cI cJ cZ mki msz mle mel mme mal mic mil mio mab mae msa mlc mli mna mva mma mch mre mlv mwr msh mth mnv mns mfa mmo k1 hpre hv1 hv2) k_Mo_make i_Mo_make e_Mo_make o_Mo ml_La_83 hd_Mo_make (Nat.le_trans (by decide) hRf) (Nat.le_trans (by decide) hRl) hRc (va_recv hK hP.r (q0 := 0) (ci := 6) rfl rfl) hK hP hD hS hA hl.1 rfl (Nat.le_of_ble_eq_true rfl) d_La_law_140 (fun _ H locs _ hP hD hS => ?_)
          refine lv_istore hx hb d_La_law_143 hl (by decide) (lv' := [(6, .int (mnv + 1 - 1)), (5, .int 2), (4, .int i), (3, .ref (a 25)), (2, .ref (b 0)), (1, .ref (a 24)), (0, .ref sc)]) rfl (fun ls hl => ?_)
          refine lv_aload_n hx hb d_La_law_145 rfl (lv_at hl 4 rfl) ?_
          refine pc_V (As := []) (rest := []) S (c_Mo_thrown l D b cI cJ cZ (upd mki mnv.toNatClampNeg k1) (vp_updL msz mnv.toNatClampNeg 0) mle mel mme mal mic mil mio mab mae msa mlc mli mna mva mma mch mre mlv mwr msh 0 (mnv + 1) mns mfa mmo) wB_blind k_Mo_thrown i_Mo_thrown e_Mo_thrown o_Mo ml_La_84 hd_Mo_thrown (Nat.le_trans (by decide) hRf) (Nat.le_trans (by decide) hRl) hRc (va_recv hK hP.r (q0 := 0) (ci := 6) rfl rfl) (wB_at hP.r hK) hl.1 rfl (Nat.le_of_ble_eq_true rfl) d_La_law_146 ?_
          refine lv_iload hx hb d_La_law_149 (lv_at hl 1 rfl) ?_
          refine lv_icmp_eq (tgt := 156) hx hb d_La_law_151 (by decide) (fun h => ?_) (fun h => ?_)
          · exact absurd h (by decide)
          · skip
            refine lv_iconst (v := 0) hx hb d_La_law_154 (by decide) ?_
            exact vc.elim
    · have vc := vc.2 hv2
      refine hc_1 (As := [.ref (a 24), .int k1, .ref (a 25)]) (rest := []) S (c_La_make_3 l hls D a cI cJ cZ ki co pr pa tw nv sv pn pl po pf pt ru le li bn ip aw ns ch ma br tl ou k1 hpre hv1 hv2) kw_La_make s_La_make o_La ml_La_78 hd_La_make (Nat.le_trans (by decide) hRf) (Nat.le_trans (by decide) hRl) hRc hK hP hD hS hA hX hN hl.1 rfl (Nat.le_of_ble_eq_true rfl) d_La_law_128 (fun _ H locs _ hP hD hS => ?_)
      refine lv_istore hx hb d_La_law_131 hl (by decide) (lv' := [(5, .int 0), (4, .int i), (3, .ref (a 25)), (2, .ref (b 0)), (1, .ref (a 24)), (0, .ref sc)]) rfl (fun ls hl => ?_)
      refine lv_aload_n hx hb d_La_law_133 rfl (lv_at hl 3 rfl) ?_
      refine lv_aload_n hx hb d_La_law_134 rfl (lv_at hl 5 rfl) ?_
      refine lv_iload hx hb d_La_law_135 (lv_at hl 1 rfl) ?_
      refine lv_iconst (v := 1) hx hb d_La_law_137 (by decide) ?_
      refine lv_iadd hx hb d_La_law_138 ?_
      refine va_sld hx hb hXs hbl hbA hS hi1 d_La_law_139 ?_
      rw [e1]
      obtain ⟨hpre, vc⟩ := vc
      by_cases hv1 : ¬ (k1 = 0 ∨ k1 = 4 ∨ k1 = 5)
      · have vc := vc.1 hv1
        refine wc_2 (As := [.int k1]) (rest := []) S (c_Mo_make_1 l D b cI cJ cZ mki msz mle mel mme mal mic mil mio mab mae msa mlc mli mna mva mma mch mre mlv mwr msh mth mnv mns mfa mmo k1 hpre hv1) k_Mo_make i_Mo_make e_Mo_make o_Mo ml_La_83 hd_Mo_make (Nat.le_trans (by decide) hRf) (Nat.le_trans (by decide) hRl) hRc (va_recv hK hP.r (q0 := 0) (ci := 6) rfl rfl) hK hP hD hS hA hl.1 rfl (Nat.le_of_ble_eq_true rfl) d_La_law_140 (fun _ H locs _ hP hD hS => ?_)
        refine lv_istore hx hb d_La_law_143 hl (by decide) (lv' := [(6, .int 0), (5, .int 0), (4, .int i), (3, .ref (a 25)), (2, .ref (b 0)), (1, .ref (a 24)), (0, .ref sc)]) rfl (fun ls hl => ?_)
        refine lv_aload_n hx hb d_La_law_145 rfl (lv_at hl 4 rfl) ?_
        refine pc_V (As := []) (rest := []) S (c_Mo_thrown l D b cI cJ cZ mki msz mle mel mme mal mic mil mio mab mae msa mlc mli mna mva mma mch mre mlv mwr msh 1 mnv mns mfa mmo) wB_blind k_Mo_thrown i_Mo_thrown e_Mo_thrown o_Mo ml_La_84 hd_Mo_thrown (Nat.le_trans (by decide) hRf) (Nat.le_trans (by decide) hRl) hRc (va_recv hK hP.r (q0 := 0) (ci := 6) rfl rfl) (wB_at hP.r hK) hl.1 rfl (Nat.le_of_ble_eq_true rfl) d_La_law_146 ?_
        refine lv_iload hx hb d_La_law_149 (lv_at hl 1 rfl) ?_
        refine lv_icmp_eq (tgt := 156) hx hb d_La_law_151 (by decide) (fun h => ?_) (fun h => ?_)
        · exact absurd h (by decide)
        · skip
          refine lv_iconst (v := 0) hx hb d_La_law_154 (by decide) ?_
          exact vc.elim
      · have vc := vc.2 hv1
        by_cases hv2 : mnv = 40
        · have vc := vc.1 hv2
          refine wc_2 (As := [.int k1]) (rest := []) S (c_Mo_make_2 l D b cI cJ cZ mki msz mle mel mme mal mic mil mio mab mae msa mlc mli mna mva mma mch mre mlv mwr msh mth mnv mns mfa mmo k1 hpre hv1 hv2) k_Mo_make i_Mo_make e_Mo_make o_Mo ml_La_83 hd_Mo_make (Nat.le_trans (by decide) hRf) (Nat.le_trans (by decide) hRl) hRc (va_recv hK hP.r (q0 := 0) (ci := 6) rfl rfl) hK hP hD hS hA hl.1 rfl (Nat.le_of_ble_eq_true rfl) d_La_law_140 (fun _ H locs _ hP hD hS => ?_)
          refine lv_istore hx hb d_La_law_143 hl (by decide) (lv' := [(6, .int 0), (5, .int 0), (4, .int i), (3, .ref (a 25)), (2, .ref (b 0)), (1, .ref (a 24)), (0, .ref sc)]) rfl (fun ls hl => ?_)
          refine lv_aload_n hx hb d_La_law_145 rfl (lv_at hl 4 rfl) ?_
          refine pc_V (As := []) (rest := []) S (c_Mo_thrown l D b cI cJ cZ mki msz mle mel mme mal mic mil mio mab mae msa mlc mli mna mva mma mch mre mlv mwr msh 2 mnv mns mfa mmo) wB_blind k_Mo_thrown i_Mo_thrown e_Mo_thrown o_Mo ml_La_84 hd_Mo_thrown (Nat.le_trans (by decide) hRf) (Nat.le_trans (by decide) hRl) hRc (va_recv hK hP.r (q0 := 0) (ci := 6) rfl rfl) (wB_at hP.r hK) hl.1 rfl (Nat.le_of_ble_eq_true rfl) d_La_law_146 ?_
          refine lv_iload hx hb d_La_law_149 (lv_at hl 1 rfl) ?_
          refine lv_icmp_eq (tgt := 156) hx hb d_La_law_151 (by decide) (fun h => ?_) (fun h => ?_)
          · exact absurd h (by decide)
          · skip
            refine lv_iconst (v := 0) hx hb d_La_law_154 (by decide) ?_
            exact vc.elim
        · have vc := vc.2 hv2
          refine wc_2 (As := [.int k1]) (rest := []) S (c_Mo_make_3 l D b cI cJ cZ mki msz mle mel mme mal mic mil mio mab mae msa mlc mli mna mva mma mch mre mlv mwr msh mth mnv mns mfa mmo k1 hpre hv1 hv2) k_Mo_make i_Mo_make e_Mo_make o_Mo ml_La_83 hd_Mo_make (Nat.le_trans (by decide) hRf) (Nat.le_trans (by decide) hRl) hRc (va_recv hK hP.r (q0 := 0) (ci := 6) rfl rfl) hK hP hD hS hA hl.1 rfl (Nat.le_of_ble_eq_true rfl) d_La_law_140 (fun _ H locs _ hP hD hS => ?_)
          refine lv_istore hx hb d_La_law_143 hl (by decide) (lv' := [(6, .int (mnv + 1 - 1)), (5, .int 0), (4, .int i), (3, .ref (a 25)), (2, .ref (b 0)), (1, .ref (a 24)), (0, .ref sc)]) rfl (fun ls hl => ?_)
          refine lv_aload_n hx hb d_La_law_145 rfl (lv_at hl 4 rfl) ?_
          refine pc_V (As := []) (rest := []) S (c_Mo_thrown l D b cI cJ cZ (upd mki mnv.toNatClampNeg k1) (vp_updL msz mnv.toNatClampNeg 0) mle mel mme mal mic mil mio mab mae msa mlc mli mna mva mma mch mre mlv mwr msh 0 (mnv + 1) mns mfa mmo) wB_blind k_Mo_thrown i_Mo_thrown e_Mo_thrown o_Mo ml_La_84 hd_Mo_thrown (Nat.le_trans (by decide) hRf) (Nat.le_trans (by decide) hRl) hRc (va_recv hK hP.r (q0 := 0) (ci := 6) rfl rfl) (wB_at hP.r hK) hl.1 rfl (Nat.le_of_ble_eq_true rfl) d_La_law_146 ?_
          refine lv_iload hx hb d_La_law_149 (lv_at hl 1 rfl) ?_
          refine lv_icmp_eq (tgt := 156) hx hb d_La_law_151 (by decide) (fun h => ?_) (fun h => ?_)
          · skip
            refine lv_iload hx hb d_La_law_156 (lv_at hl 1 rfl) ?_
            refine lv_if_ne (tgt := 173) hx hb d_La_law_158 (by decide) (fun h => ?_) (fun h => ?_)
            · exact absurd h (by decide)
            · skip
              refine lv_aload_n hx hb d_La_law_161 rfl (lv_at hl 3 rfl) ?_
              refine lv_iconst (v := 0) hx hb d_La_law_162 (by decide) ?_
              refine va_lald hx hb hK hP.l 25 1 rfl rfl h01 d_La_law_163 ?_
              refine lv_iload hx hb d_La_law_164 (lv_at hl 0 rfl) ?_
              refine lv_i2l hx hb d_La_law_166 rfl ?_
              refine W.lcmp hx hb d_La_law_167 ?_
              refine lv_if_eq (tgt := 173) hx hb d_La_law_168 (by decide) (fun h => ?_) (fun h => ?_)
              · have vc := vc.1 h
                refine lv_goto (tgt := 1215) hx hb d_La_law_173 (by decide) ?_
                exact hnext (upd ki nv.toNatClampNeg k1) (vp_updL co nv.toNatClampNeg 0) pr pa tw (nv + 1) sv pn pl po pf pt ru le li bn ip aw ns ch ma br tl (vp_updL ou 0 ((nv + 1 - 1 : Int32).toInt64)) (upd mki mnv.toNatClampNeg k1) (vp_updL msz mnv.toNatClampNeg 0) mle mel mme mal mic mil mio mab mae msa mlc mli mna mva mma mch mre mlv mwr msh 0 (mnv + 1) mns mfa mmo ls H locs vc (lv_sub hl [6, 5, 4, 3, 2] rfl) hP hD hS
              · have vc := vc.2 h
                refine lv_iconst (v := 0) hx hb d_La_law_171 (by decide) ?_
                exact vc.elim
          · exact absurd h (by decide)
def V_L1 (ki : Nat → Int32) (co : Nat → Int64) (pr : Nat → Int32) (pa : Nat → Int32) (tw : Nat → Int32) (nv : Int32) (sv : Int32) (pn : Nat → Int32) (pl : Nat → Int32) (po : Nat → Int32) (pf : Nat → Int32) (pt : Nat → Int32) (ru : Nat → Int32) (le : Nat → Int32) (li : Nat → Int32) (bn : Nat → Int32) (ip : Nat → Int32) (aw : Nat → Int32) (ns : Int32) (ch : Nat → Int32) (ma : Nat → Int32) (br : Nat → Int64) (tl : Int32) (ou : Nat → Int64) (mki : Nat → Int32) (msz : Nat → Int64) (mle : Nat → Int32) (mel : Nat → Int32) (mme : Nat → Int32) (mal : Nat → Int32) (mic : Nat → Int32) (mil : Nat → Int32) (mio : Nat → Int32) (mab : Nat → Int32) (mae : Nat → Int32) (msa : Nat → Int32) (mlc : Nat → Int32) (mli : Nat → Int32) (mna : Nat → Int32) (mva : Nat → Int32) (mma : Nat → Int32) (mch : Nat → Int32) (mre : Nat → Int32) (mlv : Nat → Int32) (mwr : Nat → Int64) (msh : Nat → Int32) (mth : Int32) (mnv : Int32) (mns : Int32) (mfa : Int32) (mmo : Int32) (k1 k2 k3 k4 : Int32) (post : (Nat → Int32) → (Nat → Int64) → (Nat → Int32) → (Nat → Int32) → (Nat → Int32) → Int32 → Int32 → (Nat → Int32) → (Nat → Int32) → (Nat → Int32) → (Nat → Int32) → (Nat → Int32) → (Nat → Int32) → (Nat → Int32) → (Nat → Int32) → (Nat → Int32) → (Nat → Int32) → (Nat → Int32) → Int32 → (Nat → Int32) → (Nat → Int32) → (Nat → Int64) → Int32 → (Nat → Int64) → (Nat → Int32) → (Nat → Int64) → (Nat → Int32) → (Nat → Int32) → (Nat → Int32) → (Nat → Int32) → (Nat → Int32) → (Nat → Int32) → (Nat → Int32) → (Nat → Int32) → (Nat → Int32) → (Nat → Int32) → (Nat → Int32) → (Nat → Int32) → (Nat → Int32) → (Nat → Int32) → (Nat → Int32) → (Nat → Int32) → (Nat → Int32) → (Nat → Int32) → (Nat → Int64) → (Nat → Int32) → Int32 → Int32 → Int32 → Int32 → Int32 → Prop) : Prop :=
  ((k1 = 0 → (¬ nv < 0 ∧ ((¬ nv < 40 → ((k1 = 0 → ((¬ mnv < 0 ∧ mnv ≤ 40) ∧ ((mnv = 40 → post ki co pr pa tw nv sv pn pl po pf pt ru le li bn ip aw ns ch ma br tl ou mki msz mle mel mme mal mic mil mio mab mae msa mlc mli mna mva mma mch mre mlv mwr msh 1 mnv mns mfa mmo) ∧ (¬ (mnv = 40) → False)))) ∧ (¬ k1 = 0 → ((¬ mnv < 0 ∧ mnv ≤ 40) ∧ ((mnv = 40 → post ki co pr pa tw nv sv pn pl po pf pt ru le li bn ip aw ns ch ma br tl ou mki msz mle mel mme mal mic mil mio mab mae msa mlc mli mna mva mma mch mre mlv mwr msh 1 mnv mns mfa mmo) ∧ (¬ (mnv = 40) → False)))))) ∧ (¬ (¬ nv < 40) → ((k1 = 0 → ((¬ mnv < 0 ∧ mnv ≤ 40) ∧ ((mnv = 40 → False) ∧ (¬ (mnv = 40) → (((lg_cmp ((vp_updL ou 0 ((nv + 1 - 1 : Int32).toInt64)) (0 : Int32).toNatClampNeg) ((mnv + 1 - 1 : Int32).toInt64)) = 0 → post (upd ki nv.toNatClampNeg 1) (vp_updL co nv.toNatClampNeg (if 0 = 0 then 0 else 1 : Int64)) pr pa tw (nv + 1) sv pn pl po pf pt ru le li bn ip aw ns ch ma br tl (vp_updL ou 0 ((nv + 1 - 1 : Int32).toInt64)) (upd mki mnv.toNatClampNeg 1) (vp_updL msz mnv.toNatClampNeg (if 0 = 0 then 0 else 1 : Int64)) mle mel mme mal mic mil mio mab mae msa mlc mli mna mva mma mch mre mlv mwr msh 0 (mnv + 1) mns mfa mmo) ∧ (¬ (lg_cmp ((vp_updL ou 0 ((nv + 1 - 1 : Int32).toInt64)) (0 : Int32).toNatClampNeg) ((mnv + 1 - 1 : Int32).toInt64)) = 0 → False)))))) ∧ (¬ k1 = 0 → ((¬ mnv < 0 ∧ mnv ≤ 40) ∧ ((mnv = 40 → False) ∧ (¬ (mnv = 40) → (((lg_cmp ((vp_updL ou 0 ((nv + 1 - 1 : Int32).toInt64)) (0 : Int32).toNatClampNeg) ((mnv + 1 - 1 : Int32).toInt64)) = 0 → post (upd ki nv.toNatClampNeg 1) (vp_updL co nv.toNatClampNeg (if 0 = 0 then 0 else 1 : Int64)) pr pa tw (nv + 1) sv pn pl po pf pt ru le li bn ip aw ns ch ma br tl (vp_updL ou 0 ((nv + 1 - 1 : Int32).toInt64)) (upd mki mnv.toNatClampNeg 1) (vp_updL msz mnv.toNatClampNeg (if 1 = 0 then 0 else 1 : Int64)) mle mel mme mal mic mil mio mab mae msa mlc mli mna mva mma mch mre mlv mwr msh 0 (mnv + 1) mns mfa mmo) ∧ (¬ (lg_cmp ((vp_updL ou 0 ((nv + 1 - 1 : Int32).toInt64)) (0 : Int32).toNatClampNeg) ((mnv + 1 - 1 : Int32).toInt64)) = 0 → False))))))))))) ∧ (¬ k1 = 0 → (¬ nv < 0 ∧ ((¬ nv < 40 → ((k1 = 0 → ((¬ mnv < 0 ∧ mnv ≤ 40) ∧ ((mnv = 40 → post ki co pr pa tw nv sv pn pl po pf pt ru le li bn ip aw ns ch ma br tl ou mki msz mle mel mme mal mic mil mio mab mae msa mlc mli mna mva mma mch mre mlv mwr msh 1 mnv mns mfa mmo) ∧ (¬ (mnv = 40) → False)))) ∧ (¬ k1 = 0 → ((¬ mnv < 0 ∧ mnv ≤ 40) ∧ ((mnv = 40 → post ki co pr pa tw nv sv pn pl po pf pt ru le li bn ip aw ns ch ma br tl ou mki msz mle mel mme mal mic mil mio mab mae msa mlc mli mna mva mma mch mre mlv mwr msh 1 mnv mns mfa mmo) ∧ (¬ (mnv = 40) → False)))))) ∧ (¬ (¬ nv < 40) → ((k1 = 0 → ((¬ mnv < 0 ∧ mnv ≤ 40) ∧ ((mnv = 40 → False) ∧ (¬ (mnv = 40) → (((lg_cmp ((vp_updL ou 0 ((nv + 1 - 1 : Int32).toInt64)) (0 : Int32).toNatClampNeg) ((mnv + 1 - 1 : Int32).toInt64)) = 0 → post (upd ki nv.toNatClampNeg 1) (vp_updL co nv.toNatClampNeg (if 1 = 0 then 0 else 1 : Int64)) pr pa tw (nv + 1) sv pn pl po pf pt ru le li bn ip aw ns ch ma br tl (vp_updL ou 0 ((nv + 1 - 1 : Int32).toInt64)) (upd mki mnv.toNatClampNeg 1) (vp_updL msz mnv.toNatClampNeg (if 0 = 0 then 0 else 1 : Int64)) mle mel mme mal mic mil mio mab mae msa mlc mli mna mva mma mch mre mlv mwr msh 0 (mnv + 1) mns mfa mmo) ∧ (¬ (lg_cmp ((vp_updL ou 0 ((nv + 1 - 1 : Int32).toInt64)) (0 : Int32).toNatClampNeg) ((mnv + 1 - 1 : Int32).toInt64)) = 0 → False)))))) ∧ (¬ k1 = 0 → ((¬ mnv < 0 ∧ mnv ≤ 40) ∧ ((mnv = 40 → False) ∧ (¬ (mnv = 40) → (((lg_cmp ((vp_updL ou 0 ((nv + 1 - 1 : Int32).toInt64)) (0 : Int32).toNatClampNeg) ((mnv + 1 - 1 : Int32).toInt64)) = 0 → post (upd ki nv.toNatClampNeg 1) (vp_updL co nv.toNatClampNeg (if 1 = 0 then 0 else 1 : Int64)) pr pa tw (nv + 1) sv pn pl po pf pt ru le li bn ip aw ns ch ma br tl (vp_updL ou 0 ((nv + 1 - 1 : Int32).toInt64)) (upd mki mnv.toNatClampNeg 1) (vp_updL msz mnv.toNatClampNeg (if 1 = 0 then 0 else 1 : Int64)) mle mel mme mal mic mil mio mab mae msa mlc mli mna mva mma mch mre mlv mwr msh 0 (mnv + 1) mns mfa mmo) ∧ (¬ (lg_cmp ((vp_updL ou 0 ((nv + 1 - 1 : Int32).toInt64)) (0 : Int32).toNatClampNeg) ((mnv + 1 - 1 : Int32).toInt64)) = 0 → False))))))))))))
set_option maxHeartbeats 4000000 in
set_option maxRecDepth 100000 in
theorem g_L1 {p : Program} {l : Launch} {e : Env} {R : Room} {s : State} {m : MethodId} {args : Array Value} {below : List Frame} {meth : Method} {c : Code} {H : Heap} {locs : List Loc} {cells slots : Nat} {Q : State → Prop} {ls : Array Slot} {A : Nat → Prop} (hls : l.stackTraces = false) (S : CallFix p m c code 7 s args W0 "SchemaJudgeLaw") (hN : eN s) (hRf : 9 ≤ R.frames) (hRl : 157 ≤ R.locals) (hRc : cells + 1 ≤ R.cells ∧ slots + 6 ≤ R.slots) (D : va_G) (a b : Nat → Nat) (cI cJ cZ : ClassId) (ki : Nat → Int32) (co : Nat → Int64) (pr : Nat → Int32) (pa : Nat → Int32) (tw : Nat → Int32) (nv : Int32) (sv : Int32) (pn : Nat → Int32) (pl : Nat → Int32) (po : Nat → Int32) (pf : Nat → Int32) (pt : Nat → Int32) (ru : Nat → Int32) (le : Nat → Int32) (li : Nat → Int32) (bn : Nat → Int32) (ip : Nat → Int32) (aw : Nat → Int32) (ns : Int32) (ch : Nat → Int32) (ma : Nat → Int32) (br : Nat → Int64) (tl : Int32) (ou : Nat → Int64) (mki : Nat → Int32) (msz : Nat → Int64) (mle : Nat → Int32) (mel : Nat → Int32) (mme : Nat → Int32) (mal : Nat → Int32) (mic : Nat → Int32) (mil : Nat → Int32) (mio : Nat → Int32) (mab : Nat → Int32) (mae : Nat → Int32) (msa : Nat → Int32) (mlc : Nat → Int32) (mli : Nat → Int32) (mna : Nat → Int32) (mva : Nat → Int32) (mma : Nat → Int32) (mch : Nat → Int32) (mre : Nat → Int32) (mlv : Nat → Int32) (mwr : Nat → Int64) (msh : Nat → Int32) (mth : Int32) (mnv : Int32) (mns : Int32) (mfa : Int32) (mmo : Int32) (k1 k2 k3 k4 : Int32) (sc L : Nat) (xs : Nat → Int32) (i : Int32) (hXs : va_X sc L xs s s.heap) (hbl : sc < s.heap.size) (hbA : ¬ A sc) (hi1 : vp_in (i + 1) L) (e1 : xs (i + 1 : Int32).toNatClampNeg = k1) (hi2 : vp_in (i + 2) L) (e2 : xs (i + 2 : Int32).toNatClampNeg = k2) (hi3 : vp_in (i + 3) L) (e3 : xs (i + 3 : Int32).toNatClampNeg = k3) (hi4 : vp_in (i + 4) L) (e4 : xs (i + 4 : Int32).toNatClampNeg = k4) (hK : va_K D vwCl (tyA cI cJ cZ) s) (hP : va_P D vwCl ((wX a ++ wV a cI cJ ki co pr pa tw nv sv ++ wP a cI cZ pn pl po pf pt ++ wS a cI ru le li bn ip aw ns ++ wL a ++ wJ a cI cJ ch ma br tl ++ wO a cJ ou) ++ (wM b cI cJ cZ mki msz mle mel mme mal mic mil mio mab mae msa mlc mli mna mva mma mch mre mlv mwr msh mth mnv mns mfa mmo)) H) (hD : va_D A ((wX a ++ wV a cI cJ ki co pr pa tw nv sv ++ wP a cI cZ pn pl po pf pt ++ wS a cI ru le li bn ip aw ns ++ wL a ++ wJ a cI cJ ch ma br tl ++ wO a cJ ou) ++ (wM b cI cJ cZ mki msz mle mel mme mal mic mil mio mab mae msa mlc mli mna mva mma mch mre mlv mwr msh mth mnv mns mfa mmo))) (hA : ∀ q, s.heap.size ≤ q → A q) (hS : va_S A s.heap H locs) (hX : eX A s s.heap) (hl : lv_has ls 7 [(4, .int i), (3, .ref (a 25)), (2, .ref (b 0)), (1, .ref (a 24)), (0, .ref sc)]) {post : (Nat → Int32) → (Nat → Int64) → (Nat → Int32) → (Nat → Int32) → (Nat → Int32) → Int32 → Int32 → (Nat → Int32) → (Nat → Int32) → (Nat → Int32) → (Nat → Int32) → (Nat → Int32) → (Nat → Int32) → (Nat → Int32) → (Nat → Int32) → (Nat → Int32) → (Nat → Int32) → (Nat → Int32) → Int32 → (Nat → Int32) → (Nat → Int32) → (Nat → Int64) → Int32 → (Nat → Int64) → (Nat → Int32) → (Nat → Int64) → (Nat → Int32) → (Nat → Int32) → (Nat → Int32) → (Nat → Int32) → (Nat → Int32) → (Nat → Int32) → (Nat → Int32) → (Nat → Int32) → (Nat → Int32) → (Nat → Int32) → (Nat → Int32) → (Nat → Int32) → (Nat → Int32) → (Nat → Int32) → (Nat → Int32) → (Nat → Int32) → (Nat → Int32) → (Nat → Int32) → (Nat → Int64) → (Nat → Int32) → Int32 → Int32 → Int32 → Int32 → Int32 → Prop} (vc : V_L1 ki co pr pa tw nv sv pn pl po pf pt ru le li bn ip aw ns ch ma br tl ou mki msz mle mel mme mal mic mil mio mab mae msa mlc mli mna mva mma mch mre mlv mwr msh mth mnv mns mfa mmo k1 k2 k3 k4 post)
    (hnext : ∀ (ki : Nat → Int32) (co : Nat → Int64) (pr : Nat → Int32) (pa : Nat → Int32) (tw : Nat → Int32) (nv : Int32) (sv : Int32) (pn : Nat → Int32) (pl : Nat → Int32) (po : Nat → Int32) (pf : Nat → Int32) (pt : Nat → Int32) (ru : Nat → Int32) (le : Nat → Int32) (li : Nat → Int32) (bn : Nat → Int32) (ip : Nat → Int32) (aw : Nat → Int32) (ns : Int32) (ch : Nat → Int32) (ma : Nat → Int32) (br : Nat → Int64) (tl : Int32) (ou : Nat → Int64) (mki : Nat → Int32) (msz : Nat → Int64) (mle : Nat → Int32) (mel : Nat → Int32) (mme : Nat → Int32) (mal : Nat → Int32) (mic : Nat → Int32) (mil : Nat → Int32) (mio : Nat → Int32) (mab : Nat → Int32) (mae : Nat → Int32) (msa : Nat → Int32) (mlc : Nat → Int32) (mli : Nat → Int32) (mna : Nat → Int32) (mva : Nat → Int32) (mma : Nat → Int32) (mch : Nat → Int32) (mre : Nat → Int32) (mlv : Nat → Int32) (mwr : Nat → Int64) (msh : Nat → Int32) (mth : Int32) (mnv : Int32) (mns : Int32) (mfa : Int32) (mmo : Int32) (ls : Array Slot) (H : Heap) (locs : List Loc), post ki co pr pa tw nv sv pn pl po pf pt ru le li bn ip aw ns ch ma br tl ou mki msz mle mel mme mal mic mil mio mab mae msa mlc mli mna mva mma mch mre mlv mwr msh mth mnv mns mfa mmo → lv_has ls 7 [(0, .ref sc), (1, .ref (a 24)), (2, .ref (b 0)), (3, .ref (a 25)), (4, .int i)] → va_P D vwCl ((wX a ++ wV a cI cJ ki co pr pa tw nv sv ++ wP a cI cZ pn pl po pf pt ++ wS a cI ru le li bn ip aw ns ++ wL a ++ wJ a cI cJ ch ma br tl ++ wO a cJ ou) ++ (wM b cI cJ cZ mki msz mle mel mme mal mic mil mio mab mae msa mlc mli mna mva mma mch mre mlv mwr msh mth mnv mns mfa mmo)) H → va_D A ((wX a ++ wV a cI cJ ki co pr pa tw nv sv ++ wP a cI cZ pn pl po pf pt ++ wS a cI ru le li bn ip aw ns ++ wL a ++ wJ a cI cJ ch ma br tl ++ wO a cJ ou) ++ (wM b cI cJ cZ mki msz mle mel mme mal mic mil mio mab mae msa mlc mli mna mva mma mch mre mlv mwr msh mth mnv mns mfa mmo)) → va_S A s.heap H locs → W p l e R s m args below meth c H locs (cells + 1) (slots + 6) Q (F0 m 1215 ls [])) : W p l e R s m args below meth c H locs cells slots Q (F0 m 176 ls []) := by
  have hx := S.1
  have hb := S.2.1
  have hown := S.2.2.2.1
  have hts := S.2.2.2.2
  have h01 : vp_in (0 : Int32) 1 := vp_in_nI (n := 0) (by decide) (by decide)
  unfold V_L1 at vc
  refine lv_aload_n hx hb d_La_law_176 rfl (lv_at hl 3 rfl) ?_
  refine lv_aload_n hx hb d_La_law_177 rfl (lv_at hl 4 rfl) ?_
  refine lv_iload hx hb d_La_law_178 (lv_at hl 0 rfl) ?_
  refine lv_iconst (v := 1) hx hb d_La_law_180 (by decide) ?_
  refine lv_iadd hx hb d_La_law_181 ?_
  refine va_sld hx hb hXs hbl hbA hS hi1 d_La_law_182 ?_
  rw [e1]
  refine lv_if_eq (tgt := 190) hx hb d_La_law_183 (by decide) (fun h => ?_) (fun h => ?_)
  · have vc := vc.1 h
    refine lv_iconst (v := 0) hx hb d_La_law_190 (by decide) ?_
    refine lv_aload_n hx hb d_La_law_191 rfl (lv_at hl 1 rfl) ?_
    obtain ⟨hpre, vc⟩ := vc
    by_cases hv1 : ¬ nv < 40
    · have vc := vc.1 hv1
      refine hc_1 (As := [.ref (a 24), .int 0, .ref (a 25)]) (rest := []) S (c_La_truth_1 l hls D a cI cJ cZ ki co pr pa tw nv sv pn pl po pf pt ru le li bn ip aw ns ch ma br tl ou 0 hpre hv1) kw_La_truth s_La_truth o_La ml_La_87 hd_La_truth (Nat.le_trans (by decide) hRf) (Nat.le_trans (by decide) hRl) hRc hK hP hD hS hA hX hN hl.1 rfl (Nat.le_of_ble_eq_true rfl) d_La_law_192 (fun _ H locs _ hP hD hS => ?_)
      refine lv_istore hx hb d_La_law_195 hl (by decide) (lv' := [(5, .int 1), (4, .int i), (3, .ref (a 25)), (2, .ref (b 0)), (1, .ref (a 24)), (0, .ref sc)]) rfl (fun ls hl => ?_)
      refine lv_aload_n hx hb d_La_law_197 rfl (lv_at hl 3 rfl) ?_
      refine lv_aload_n hx hb d_La_law_198 rfl (lv_at hl 5 rfl) ?_
      refine lv_iload hx hb d_La_law_199 (lv_at hl 1 rfl) ?_
      refine lv_iconst (v := 1) hx hb d_La_law_201 (by decide) ?_
      refine lv_iadd hx hb d_La_law_202 ?_
      refine va_sld hx hb hXs hbl hbA hS hi1 d_La_law_203 ?_
      rw [e1]
      refine lv_if_eq (tgt := 211) hx hb d_La_law_204 (by decide) (fun h => ?_) (fun h => ?_)
      · have vc := vc.1 h
        refine lv_iconst (v := 0) hx hb d_La_law_211 (by decide) ?_
        obtain ⟨hpre, vc⟩ := vc
        by_cases hv1 : mnv = 40
        · have vc := vc.1 hv1
          refine wc_2 (As := [.int 0]) (rest := []) S (c_Mo_truth_1 l D b cI cJ cZ mki msz mle mel mme mal mic mil mio mab mae msa mlc mli mna mva mma mch mre mlv mwr msh mth mnv mns mfa mmo 0 hpre hv1) k_Mo_truth i_Mo_truth e_Mo_truth o_Mo ml_La_90 hd_Mo_truth (Nat.le_trans (by decide) hRf) (Nat.le_trans (by decide) hRl) hRc (va_recv hK hP.r (q0 := 0) (ci := 6) rfl rfl) hK hP hD hS hA hl.1 rfl (Nat.le_of_ble_eq_true rfl) d_La_law_212 (fun _ H locs _ hP hD hS => ?_)
          refine lv_istore hx hb d_La_law_215 hl (by decide) (lv' := [(6, .int 0), (5, .int 1), (4, .int i), (3, .ref (a 25)), (2, .ref (b 0)), (1, .ref (a 24)), (0, .ref sc)]) rfl (fun ls hl => ?_)
          refine lv_aload_n hx hb d_La_law_217 rfl (lv_at hl 4 rfl) ?_
          refine pc_V (As := []) (rest := []) S (c_Mo_thrown l D b cI cJ cZ mki msz mle mel mme mal mic mil mio mab mae msa mlc mli mna mva mma mch mre mlv mwr msh 1 mnv mns mfa mmo) wB_blind k_Mo_thrown i_Mo_thrown e_Mo_thrown o_Mo ml_La_84 hd_Mo_thrown (Nat.le_trans (by decide) hRf) (Nat.le_trans (by decide) hRl) hRc (va_recv hK hP.r (q0 := 0) (ci := 6) rfl rfl) (wB_at hP.r hK) hl.1 rfl (Nat.le_of_ble_eq_true rfl) d_La_law_218 ?_
          refine lv_iload hx hb d_La_law_221 (lv_at hl 1 rfl) ?_
          refine lv_icmp_eq (tgt := 228) hx hb d_La_law_223 (by decide) (fun h => ?_) (fun h => ?_)
          · skip
            refine lv_iload hx hb d_La_law_228 (lv_at hl 1 rfl) ?_
            refine lv_if_ne (tgt := 245) hx hb d_La_law_230 (by decide) (fun h => ?_) (fun h => ?_)
            · skip
              refine lv_goto (tgt := 1215) hx hb d_La_law_245 (by decide) ?_
              exact hnext ki co pr pa tw nv sv pn pl po pf pt ru le li bn ip aw ns ch ma br tl ou mki msz mle mel mme mal mic mil mio mab mae msa mlc mli mna mva mma mch mre mlv mwr msh 1 mnv mns mfa mmo ls H locs vc (lv_sub hl [6, 5, 4, 3, 2] rfl) hP hD hS
            · exact absurd h (by decide)
          · exact absurd h (by decide)
        · have vc := vc.2 hv1
          refine wc_2 (As := [.int 0]) (rest := []) S (c_Mo_truth_2 l D b cI cJ cZ mki msz mle mel mme mal mic mil mio mab mae msa mlc mli mna mva mma mch mre mlv mwr msh mth mnv mns mfa mmo 0 hpre hv1) k_Mo_truth i_Mo_truth e_Mo_truth o_Mo ml_La_90 hd_Mo_truth (Nat.le_trans (by decide) hRf) (Nat.le_trans (by decide) hRl) hRc (va_recv hK hP.r (q0 := 0) (ci := 6) rfl rfl) hK hP hD hS hA hl.1 rfl (Nat.le_of_ble_eq_true rfl) d_La_law_212 (fun _ H locs _ hP hD hS => ?_)
          refine lv_istore hx hb d_La_law_215 hl (by decide) (lv' := [(6, .int (mnv + 1 - 1)), (5, .int 1), (4, .int i), (3, .ref (a 25)), (2, .ref (b 0)), (1, .ref (a 24)), (0, .ref sc)]) rfl (fun ls hl => ?_)
          refine lv_aload_n hx hb d_La_law_217 rfl (lv_at hl 4 rfl) ?_
          refine pc_V (As := []) (rest := []) S (c_Mo_thrown l D b cI cJ cZ (upd mki mnv.toNatClampNeg 1) (vp_updL msz mnv.toNatClampNeg (if 0 = 0 then 0 else 1 : Int64)) mle mel mme mal mic mil mio mab mae msa mlc mli mna mva mma mch mre mlv mwr msh 0 (mnv + 1) mns mfa mmo) wB_blind k_Mo_thrown i_Mo_thrown e_Mo_thrown o_Mo ml_La_84 hd_Mo_thrown (Nat.le_trans (by decide) hRf) (Nat.le_trans (by decide) hRl) hRc (va_recv hK hP.r (q0 := 0) (ci := 6) rfl rfl) (wB_at hP.r hK) hl.1 rfl (Nat.le_of_ble_eq_true rfl) d_La_law_218 ?_
          refine lv_iload hx hb d_La_law_221 (lv_at hl 1 rfl) ?_
          refine lv_icmp_eq (tgt := 228) hx hb d_La_law_223 (by decide) (fun h => ?_) (fun h => ?_)
          · exact absurd h (by decide)
          · skip
            refine lv_iconst (v := 0) hx hb d_La_law_226 (by decide) ?_
            exact vc.elim
      · have vc := vc.2 h
        refine lv_iconst (v := 1) hx hb d_La_law_207 (by decide) ?_
        refine lv_goto (tgt := 212) hx hb d_La_law_208 (by decide) ?_
        obtain ⟨hpre, vc⟩ := vc
        by_cases hv1 : mnv = 40
        · have vc := vc.1 hv1
          refine wc_2 (As := [.int 1]) (rest := []) S (c_Mo_truth_1 l D b cI cJ cZ mki msz mle mel mme mal mic mil mio mab mae msa mlc mli mna mva mma mch mre mlv mwr msh mth mnv mns mfa mmo 1 hpre hv1) k_Mo_truth i_Mo_truth e_Mo_truth o_Mo ml_La_90 hd_Mo_truth (Nat.le_trans (by decide) hRf) (Nat.le_trans (by decide) hRl) hRc (va_recv hK hP.r (q0 := 0) (ci := 6) rfl rfl) hK hP hD hS hA hl.1 rfl (Nat.le_of_ble_eq_true rfl) d_La_law_212 (fun _ H locs _ hP hD hS => ?_)
          refine lv_istore hx hb d_La_law_215 hl (by decide) (lv' := [(6, .int 0), (5, .int 1), (4, .int i), (3, .ref (a 25)), (2, .ref (b 0)), (1, .ref (a 24)), (0, .ref sc)]) rfl (fun ls hl => ?_)
          refine lv_aload_n hx hb d_La_law_217 rfl (lv_at hl 4 rfl) ?_
          refine pc_V (As := []) (rest := []) S (c_Mo_thrown l D b cI cJ cZ mki msz mle mel mme mal mic mil mio mab mae msa mlc mli mna mva mma mch mre mlv mwr msh 1 mnv mns mfa mmo) wB_blind k_Mo_thrown i_Mo_thrown e_Mo_thrown o_Mo ml_La_84 hd_Mo_thrown (Nat.le_trans (by decide) hRf) (Nat.le_trans (by decide) hRl) hRc (va_recv hK hP.r (q0 := 0) (ci := 6) rfl rfl) (wB_at hP.r hK) hl.1 rfl (Nat.le_of_ble_eq_true rfl) d_La_law_218 ?_
          refine lv_iload hx hb d_La_law_221 (lv_at hl 1 rfl) ?_
          refine lv_icmp_eq (tgt := 228) hx hb d_La_law_223 (by decide) (fun h => ?_) (fun h => ?_)
          · skip
            refine lv_iload hx hb d_La_law_228 (lv_at hl 1 rfl) ?_
            refine lv_if_ne (tgt := 245) hx hb d_La_law_230 (by decide) (fun h => ?_) (fun h => ?_)
            · skip
              refine lv_goto (tgt := 1215) hx hb d_La_law_245 (by decide) ?_
              exact hnext ki co pr pa tw nv sv pn pl po pf pt ru le li bn ip aw ns ch ma br tl ou mki msz mle mel mme mal mic mil mio mab mae msa mlc mli mna mva mma mch mre mlv mwr msh 1 mnv mns mfa mmo ls H locs vc (lv_sub hl [6, 5, 4, 3, 2] rfl) hP hD hS
            · exact absurd h (by decide)
          · exact absurd h (by decide)
        · have vc := vc.2 hv1
          refine wc_2 (As := [.int 1]) (rest := []) S (c_Mo_truth_2 l D b cI cJ cZ mki msz mle mel mme mal mic mil mio mab mae msa mlc mli mna mva mma mch mre mlv mwr msh mth mnv mns mfa mmo 1 hpre hv1) k_Mo_truth i_Mo_truth e_Mo_truth o_Mo ml_La_90 hd_Mo_truth (Nat.le_trans (by decide) hRf) (Nat.le_trans (by decide) hRl) hRc (va_recv hK hP.r (q0 := 0) (ci := 6) rfl rfl) hK hP hD hS hA hl.1 rfl (Nat.le_of_ble_eq_true rfl) d_La_law_212 (fun _ H locs _ hP hD hS => ?_)
          refine lv_istore hx hb d_La_law_215 hl (by decide) (lv' := [(6, .int (mnv + 1 - 1)), (5, .int 1), (4, .int i), (3, .ref (a 25)), (2, .ref (b 0)), (1, .ref (a 24)), (0, .ref sc)]) rfl (fun ls hl => ?_)
          refine lv_aload_n hx hb d_La_law_217 rfl (lv_at hl 4 rfl) ?_
          refine pc_V (As := []) (rest := []) S (c_Mo_thrown l D b cI cJ cZ (upd mki mnv.toNatClampNeg 1) (vp_updL msz mnv.toNatClampNeg (if 1 = 0 then 0 else 1 : Int64)) mle mel mme mal mic mil mio mab mae msa mlc mli mna mva mma mch mre mlv mwr msh 0 (mnv + 1) mns mfa mmo) wB_blind k_Mo_thrown i_Mo_thrown e_Mo_thrown o_Mo ml_La_84 hd_Mo_thrown (Nat.le_trans (by decide) hRf) (Nat.le_trans (by decide) hRl) hRc (va_recv hK hP.r (q0 := 0) (ci := 6) rfl rfl) (wB_at hP.r hK) hl.1 rfl (Nat.le_of_ble_eq_true rfl) d_La_law_218 ?_
          refine lv_iload hx hb d_La_law_221 (lv_at hl 1 rfl) ?_
          refine lv_icmp_eq (tgt := 228) hx hb d_La_law_223 (by decide) (fun h => ?_) (fun h => ?_)
          · exact absurd h (by decide)
          · skip
            refine lv_iconst (v := 0) hx hb d_La_law_226 (by decide) ?_
            exact vc.elim
    · have vc := vc.2 hv1
      refine hc_1 (As := [.ref (a 24), .int 0, .ref (a 25)]) (rest := []) S (c_La_truth_2 l hls D a cI cJ cZ ki co pr pa tw nv sv pn pl po pf pt ru le li bn ip aw ns ch ma br tl ou 0 hpre hv1) kw_La_truth s_La_truth o_La ml_La_87 hd_La_truth (Nat.le_trans (by decide) hRf) (Nat.le_trans (by decide) hRl) hRc hK hP hD hS hA hX hN hl.1 rfl (Nat.le_of_ble_eq_true rfl) d_La_law_192 (fun _ H locs _ hP hD hS => ?_)
      refine lv_istore hx hb d_La_law_195 hl (by decide) (lv' := [(5, .int 0), (4, .int i), (3, .ref (a 25)), (2, .ref (b 0)), (1, .ref (a 24)), (0, .ref sc)]) rfl (fun ls hl => ?_)
      refine lv_aload_n hx hb d_La_law_197 rfl (lv_at hl 3 rfl) ?_
      refine lv_aload_n hx hb d_La_law_198 rfl (lv_at hl 5 rfl) ?_
      refine lv_iload hx hb d_La_law_199 (lv_at hl 1 rfl) ?_
      refine lv_iconst (v := 1) hx hb d_La_law_201 (by decide) ?_
      refine lv_iadd hx hb d_La_law_202 ?_
      refine va_sld hx hb hXs hbl hbA hS hi1 d_La_law_203 ?_
      rw [e1]
      refine lv_if_eq (tgt := 211) hx hb d_La_law_204 (by decide) (fun h => ?_) (fun h => ?_)
      · have vc := vc.1 h
        refine lv_iconst (v := 0) hx hb d_La_law_211 (by decide) ?_
        obtain ⟨hpre, vc⟩ := vc
        by_cases hv1 : mnv = 40
        · have vc := vc.1 hv1
          refine wc_2 (As := [.int 0]) (rest := []) S (c_Mo_truth_1 l D b cI cJ cZ mki msz mle mel mme mal mic mil mio mab mae msa mlc mli mna mva mma mch mre mlv mwr msh mth mnv mns mfa mmo 0 hpre hv1) k_Mo_truth i_Mo_truth e_Mo_truth o_Mo ml_La_90 hd_Mo_truth (Nat.le_trans (by decide) hRf) (Nat.le_trans (by decide) hRl) hRc (va_recv hK hP.r (q0 := 0) (ci := 6) rfl rfl) hK hP hD hS hA hl.1 rfl (Nat.le_of_ble_eq_true rfl) d_La_law_212 (fun _ H locs _ hP hD hS => ?_)
          refine lv_istore hx hb d_La_law_215 hl (by decide) (lv' := [(6, .int 0), (5, .int 0), (4, .int i), (3, .ref (a 25)), (2, .ref (b 0)), (1, .ref (a 24)), (0, .ref sc)]) rfl (fun ls hl => ?_)
          refine lv_aload_n hx hb d_La_law_217 rfl (lv_at hl 4 rfl) ?_
          refine pc_V (As := []) (rest := []) S (c_Mo_thrown l D b cI cJ cZ mki msz mle mel mme mal mic mil mio mab mae msa mlc mli mna mva mma mch mre mlv mwr msh 1 mnv mns mfa mmo) wB_blind k_Mo_thrown i_Mo_thrown e_Mo_thrown o_Mo ml_La_84 hd_Mo_thrown (Nat.le_trans (by decide) hRf) (Nat.le_trans (by decide) hRl) hRc (va_recv hK hP.r (q0 := 0) (ci := 6) rfl rfl) (wB_at hP.r hK) hl.1 rfl (Nat.le_of_ble_eq_true rfl) d_La_law_218 ?_
          refine lv_iload hx hb d_La_law_221 (lv_at hl 1 rfl) ?_
          refine lv_icmp_eq (tgt := 228) hx hb d_La_law_223 (by decide) (fun h => ?_) (fun h => ?_)
          · exact absurd h (by decide)
          · skip
            refine lv_iconst (v := 0) hx hb d_La_law_226 (by decide) ?_
            exact vc.elim
        · have vc := vc.2 hv1
          refine wc_2 (As := [.int 0]) (rest := []) S (c_Mo_truth_2 l D b cI cJ cZ mki msz mle mel mme mal mic mil mio mab mae msa mlc mli mna mva mma mch mre mlv mwr msh mth mnv mns mfa mmo 0 hpre hv1) k_Mo_truth i_Mo_truth e_Mo_truth o_Mo ml_La_90 hd_Mo_truth (Nat.le_trans (by decide) hRf) (Nat.le_trans (by decide) hRl) hRc (va_recv hK hP.r (q0 := 0) (ci := 6) rfl rfl) hK hP hD hS hA hl.1 rfl (Nat.le_of_ble_eq_true rfl) d_La_law_212 (fun _ H locs _ hP hD hS => ?_)
          refine lv_istore hx hb d_La_law_215 hl (by decide) (lv' := [(6, .int (mnv + 1 - 1)), (5, .int 0), (4, .int i), (3, .ref (a 25)), (2, .ref (b 0)), (1, .ref (a 24)), (0, .ref sc)]) rfl (fun ls hl => ?_)
          refine lv_aload_n hx hb d_La_law_217 rfl (lv_at hl 4 rfl) ?_
          refine pc_V (As := []) (rest := []) S (c_Mo_thrown l D b cI cJ cZ (upd mki mnv.toNatClampNeg 1) (vp_updL msz mnv.toNatClampNeg (if 0 = 0 then 0 else 1 : Int64)) mle mel mme mal mic mil mio mab mae msa mlc mli mna mva mma mch mre mlv mwr msh 0 (mnv + 1) mns mfa mmo) wB_blind k_Mo_thrown i_Mo_thrown e_Mo_thrown o_Mo ml_La_84 hd_Mo_thrown (Nat.le_trans (by decide) hRf) (Nat.le_trans (by decide) hRl) hRc (va_recv hK hP.r (q0 := 0) (ci := 6) rfl rfl) (wB_at hP.r hK) hl.1 rfl (Nat.le_of_ble_eq_true rfl) d_La_law_218 ?_
          refine lv_iload hx hb d_La_law_221 (lv_at hl 1 rfl) ?_
          refine lv_icmp_eq (tgt := 228) hx hb d_La_law_223 (by decide) (fun h => ?_) (fun h => ?_)
          · skip
            refine lv_iload hx hb d_La_law_228 (lv_at hl 1 rfl) ?_
            refine lv_if_ne (tgt := 245) hx hb d_La_law_230 (by decide) (fun h => ?_) (fun h => ?_)
            · exact absurd h (by decide)
            · skip
              refine lv_aload_n hx hb d_La_law_233 rfl (lv_at hl 3 rfl) ?_
              refine lv_iconst (v := 0) hx hb d_La_law_234 (by decide) ?_
              refine va_lald hx hb hK hP.l 25 1 rfl rfl h01 d_La_law_235 ?_
              refine lv_iload hx hb d_La_law_236 (lv_at hl 0 rfl) ?_
              refine lv_i2l hx hb d_La_law_238 rfl ?_
              refine W.lcmp hx hb d_La_law_239 ?_
              refine lv_if_eq (tgt := 245) hx hb d_La_law_240 (by decide) (fun h => ?_) (fun h => ?_)
              · have vc := vc.1 h
                refine lv_goto (tgt := 1215) hx hb d_La_law_245 (by decide) ?_
                exact hnext (upd ki nv.toNatClampNeg 1) (vp_updL co nv.toNatClampNeg (if 0 = 0 then 0 else 1 : Int64)) pr pa tw (nv + 1) sv pn pl po pf pt ru le li bn ip aw ns ch ma br tl (vp_updL ou 0 ((nv + 1 - 1 : Int32).toInt64)) (upd mki mnv.toNatClampNeg 1) (vp_updL msz mnv.toNatClampNeg (if 0 = 0 then 0 else 1 : Int64)) mle mel mme mal mic mil mio mab mae msa mlc mli mna mva mma mch mre mlv mwr msh 0 (mnv + 1) mns mfa mmo ls H locs vc (lv_sub hl [6, 5, 4, 3, 2] rfl) hP hD hS
              · have vc := vc.2 h
                refine lv_iconst (v := 0) hx hb d_La_law_243 (by decide) ?_
                exact vc.elim
          · exact absurd h (by decide)
      · have vc := vc.2 h
        refine lv_iconst (v := 1) hx hb d_La_law_207 (by decide) ?_
        refine lv_goto (tgt := 212) hx hb d_La_law_208 (by decide) ?_
        obtain ⟨hpre, vc⟩ := vc
        by_cases hv1 : mnv = 40
        · have vc := vc.1 hv1
          refine wc_2 (As := [.int 1]) (rest := []) S (c_Mo_truth_1 l D b cI cJ cZ mki msz mle mel mme mal mic mil mio mab mae msa mlc mli mna mva mma mch mre mlv mwr msh mth mnv mns mfa mmo 1 hpre hv1) k_Mo_truth i_Mo_truth e_Mo_truth o_Mo ml_La_90 hd_Mo_truth (Nat.le_trans (by decide) hRf) (Nat.le_trans (by decide) hRl) hRc (va_recv hK hP.r (q0 := 0) (ci := 6) rfl rfl) hK hP hD hS hA hl.1 rfl (Nat.le_of_ble_eq_true rfl) d_La_law_212 (fun _ H locs _ hP hD hS => ?_)
          refine lv_istore hx hb d_La_law_215 hl (by decide) (lv' := [(6, .int 0), (5, .int 0), (4, .int i), (3, .ref (a 25)), (2, .ref (b 0)), (1, .ref (a 24)), (0, .ref sc)]) rfl (fun ls hl => ?_)
          refine lv_aload_n hx hb d_La_law_217 rfl (lv_at hl 4 rfl) ?_
          refine pc_V (As := []) (rest := []) S (c_Mo_thrown l D b cI cJ cZ mki msz mle mel mme mal mic mil mio mab mae msa mlc mli mna mva mma mch mre mlv mwr msh 1 mnv mns mfa mmo) wB_blind k_Mo_thrown i_Mo_thrown e_Mo_thrown o_Mo ml_La_84 hd_Mo_thrown (Nat.le_trans (by decide) hRf) (Nat.le_trans (by decide) hRl) hRc (va_recv hK hP.r (q0 := 0) (ci := 6) rfl rfl) (wB_at hP.r hK) hl.1 rfl (Nat.le_of_ble_eq_true rfl) d_La_law_218 ?_
          refine lv_iload hx hb d_La_law_221 (lv_at hl 1 rfl) ?_
          refine lv_icmp_eq (tgt := 228) hx hb d_La_law_223 (by decide) (fun h => ?_) (fun h => ?_)
          · exact absurd h (by decide)
          · skip
            refine lv_iconst (v := 0) hx hb d_La_law_226 (by decide) ?_
            exact vc.elim
        · have vc := vc.2 hv1
          refine wc_2 (As := [.int 1]) (rest := []) S (c_Mo_truth_2 l D b cI cJ cZ mki msz mle mel mme mal mic mil mio mab mae msa mlc mli mna mva mma mch mre mlv mwr msh mth mnv mns mfa mmo 1 hpre hv1) k_Mo_truth i_Mo_truth e_Mo_truth o_Mo ml_La_90 hd_Mo_truth (Nat.le_trans (by decide) hRf) (Nat.le_trans (by decide) hRl) hRc (va_recv hK hP.r (q0 := 0) (ci := 6) rfl rfl) hK hP hD hS hA hl.1 rfl (Nat.le_of_ble_eq_true rfl) d_La_law_212 (fun _ H locs _ hP hD hS => ?_)
          refine lv_istore hx hb d_La_law_215 hl (by decide) (lv' := [(6, .int (mnv + 1 - 1)), (5, .int 0), (4, .int i), (3, .ref (a 25)), (2, .ref (b 0)), (1, .ref (a 24)), (0, .ref sc)]) rfl (fun ls hl => ?_)
          refine lv_aload_n hx hb d_La_law_217 rfl (lv_at hl 4 rfl) ?_
          refine pc_V (As := []) (rest := []) S (c_Mo_thrown l D b cI cJ cZ (upd mki mnv.toNatClampNeg 1) (vp_updL msz mnv.toNatClampNeg (if 1 = 0 then 0 else 1 : Int64)) mle mel mme mal mic mil mio mab mae msa mlc mli mna mva mma mch mre mlv mwr msh 0 (mnv + 1) mns mfa mmo) wB_blind k_Mo_thrown i_Mo_thrown e_Mo_thrown o_Mo ml_La_84 hd_Mo_thrown (Nat.le_trans (by decide) hRf) (Nat.le_trans (by decide) hRl) hRc (va_recv hK hP.r (q0 := 0) (ci := 6) rfl rfl) (wB_at hP.r hK) hl.1 rfl (Nat.le_of_ble_eq_true rfl) d_La_law_218 ?_
          refine lv_iload hx hb d_La_law_221 (lv_at hl 1 rfl) ?_
          refine lv_icmp_eq (tgt := 228) hx hb d_La_law_223 (by decide) (fun h => ?_) (fun h => ?_)
          · skip
            refine lv_iload hx hb d_La_law_228 (lv_at hl 1 rfl) ?_
            refine lv_if_ne (tgt := 245) hx hb d_La_law_230 (by decide) (fun h => ?_) (fun h => ?_)
            · exact absurd h (by decide)
            · skip
              refine lv_aload_n hx hb d_La_law_233 rfl (lv_at hl 3 rfl) ?_
              refine lv_iconst (v := 0) hx hb d_La_law_234 (by decide) ?_
              refine va_lald hx hb hK hP.l 25 1 rfl rfl h01 d_La_law_235 ?_
              refine lv_iload hx hb d_La_law_236 (lv_at hl 0 rfl) ?_
              refine lv_i2l hx hb d_La_law_238 rfl ?_
              refine W.lcmp hx hb d_La_law_239 ?_
              refine lv_if_eq (tgt := 245) hx hb d_La_law_240 (by decide) (fun h => ?_) (fun h => ?_)
              · have vc := vc.1 h
                refine lv_goto (tgt := 1215) hx hb d_La_law_245 (by decide) ?_
                exact hnext (upd ki nv.toNatClampNeg 1) (vp_updL co nv.toNatClampNeg (if 0 = 0 then 0 else 1 : Int64)) pr pa tw (nv + 1) sv pn pl po pf pt ru le li bn ip aw ns ch ma br tl (vp_updL ou 0 ((nv + 1 - 1 : Int32).toInt64)) (upd mki mnv.toNatClampNeg 1) (vp_updL msz mnv.toNatClampNeg (if 1 = 0 then 0 else 1 : Int64)) mle mel mme mal mic mil mio mab mae msa mlc mli mna mva mma mch mre mlv mwr msh 0 (mnv + 1) mns mfa mmo ls H locs vc (lv_sub hl [6, 5, 4, 3, 2] rfl) hP hD hS
              · have vc := vc.2 h
                refine lv_iconst (v := 0) hx hb d_La_law_243 (by decide) ?_
                exact vc.elim
          · exact absurd h (by decide)
  · have vc := vc.2 h
    refine lv_iconst (v := 1) hx hb d_La_law_186 (by decide) ?_
    refine lv_goto (tgt := 191) hx hb d_La_law_187 (by decide) ?_
    refine lv_aload_n hx hb d_La_law_191 rfl (lv_at hl 1 rfl) ?_
    obtain ⟨hpre, vc⟩ := vc
    by_cases hv1 : ¬ nv < 40
    · have vc := vc.1 hv1
      refine hc_1 (As := [.ref (a 24), .int 1, .ref (a 25)]) (rest := []) S (c_La_truth_1 l hls D a cI cJ cZ ki co pr pa tw nv sv pn pl po pf pt ru le li bn ip aw ns ch ma br tl ou 1 hpre hv1) kw_La_truth s_La_truth o_La ml_La_87 hd_La_truth (Nat.le_trans (by decide) hRf) (Nat.le_trans (by decide) hRl) hRc hK hP hD hS hA hX hN hl.1 rfl (Nat.le_of_ble_eq_true rfl) d_La_law_192 (fun _ H locs _ hP hD hS => ?_)
      refine lv_istore hx hb d_La_law_195 hl (by decide) (lv' := [(5, .int 1), (4, .int i), (3, .ref (a 25)), (2, .ref (b 0)), (1, .ref (a 24)), (0, .ref sc)]) rfl (fun ls hl => ?_)
      refine lv_aload_n hx hb d_La_law_197 rfl (lv_at hl 3 rfl) ?_
      refine lv_aload_n hx hb d_La_law_198 rfl (lv_at hl 5 rfl) ?_
      refine lv_iload hx hb d_La_law_199 (lv_at hl 1 rfl) ?_
      refine lv_iconst (v := 1) hx hb d_La_law_201 (by decide) ?_
      refine lv_iadd hx hb d_La_law_202 ?_
      refine va_sld hx hb hXs hbl hbA hS hi1 d_La_law_203 ?_
      rw [e1]
      refine lv_if_eq (tgt := 211) hx hb d_La_law_204 (by decide) (fun h => ?_) (fun h => ?_)
      · have vc := vc.1 h
        refine lv_iconst (v := 0) hx hb d_La_law_211 (by decide) ?_
        obtain ⟨hpre, vc⟩ := vc
        by_cases hv1 : mnv = 40
        · have vc := vc.1 hv1
          refine wc_2 (As := [.int 0]) (rest := []) S (c_Mo_truth_1 l D b cI cJ cZ mki msz mle mel mme mal mic mil mio mab mae msa mlc mli mna mva mma mch mre mlv mwr msh mth mnv mns mfa mmo 0 hpre hv1) k_Mo_truth i_Mo_truth e_Mo_truth o_Mo ml_La_90 hd_Mo_truth (Nat.le_trans (by decide) hRf) (Nat.le_trans (by decide) hRl) hRc (va_recv hK hP.r (q0 := 0) (ci := 6) rfl rfl) hK hP hD hS hA hl.1 rfl (Nat.le_of_ble_eq_true rfl) d_La_law_212 (fun _ H locs _ hP hD hS => ?_)
          refine lv_istore hx hb d_La_law_215 hl (by decide) (lv' := [(6, .int 0), (5, .int 1), (4, .int i), (3, .ref (a 25)), (2, .ref (b 0)), (1, .ref (a 24)), (0, .ref sc)]) rfl (fun ls hl => ?_)
          refine lv_aload_n hx hb d_La_law_217 rfl (lv_at hl 4 rfl) ?_
          refine pc_V (As := []) (rest := []) S (c_Mo_thrown l D b cI cJ cZ mki msz mle mel mme mal mic mil mio mab mae msa mlc mli mna mva mma mch mre mlv mwr msh 1 mnv mns mfa mmo) wB_blind k_Mo_thrown i_Mo_thrown e_Mo_thrown o_Mo ml_La_84 hd_Mo_thrown (Nat.le_trans (by decide) hRf) (Nat.le_trans (by decide) hRl) hRc (va_recv hK hP.r (q0 := 0) (ci := 6) rfl rfl) (wB_at hP.r hK) hl.1 rfl (Nat.le_of_ble_eq_true rfl) d_La_law_218 ?_
          refine lv_iload hx hb d_La_law_221 (lv_at hl 1 rfl) ?_
          refine lv_icmp_eq (tgt := 228) hx hb d_La_law_223 (by decide) (fun h => ?_) (fun h => ?_)
          · skip
            refine lv_iload hx hb d_La_law_228 (lv_at hl 1 rfl) ?_
            refine lv_if_ne (tgt := 245) hx hb d_La_law_230 (by decide) (fun h => ?_) (fun h => ?_)
            · skip
              refine lv_goto (tgt := 1215) hx hb d_La_law_245 (by decide) ?_
              exact hnext ki co pr pa tw nv sv pn pl po pf pt ru le li bn ip aw ns ch ma br tl ou mki msz mle mel mme mal mic mil mio mab mae msa mlc mli mna mva mma mch mre mlv mwr msh 1 mnv mns mfa mmo ls H locs vc (lv_sub hl [6, 5, 4, 3, 2] rfl) hP hD hS
            · exact absurd h (by decide)
          · exact absurd h (by decide)
        · have vc := vc.2 hv1
          refine wc_2 (As := [.int 0]) (rest := []) S (c_Mo_truth_2 l D b cI cJ cZ mki msz mle mel mme mal mic mil mio mab mae msa mlc mli mna mva mma mch mre mlv mwr msh mth mnv mns mfa mmo 0 hpre hv1) k_Mo_truth i_Mo_truth e_Mo_truth o_Mo ml_La_90 hd_Mo_truth (Nat.le_trans (by decide) hRf) (Nat.le_trans (by decide) hRl) hRc (va_recv hK hP.r (q0 := 0) (ci := 6) rfl rfl) hK hP hD hS hA hl.1 rfl (Nat.le_of_ble_eq_true rfl) d_La_law_212 (fun _ H locs _ hP hD hS => ?_)
          refine lv_istore hx hb d_La_law_215 hl (by decide) (lv' := [(6, .int (mnv + 1 - 1)), (5, .int 1), (4, .int i), (3, .ref (a 25)), (2, .ref (b 0)), (1, .ref (a 24)), (0, .ref sc)]) rfl (fun ls hl => ?_)
          refine lv_aload_n hx hb d_La_law_217 rfl (lv_at hl 4 rfl) ?_
          refine pc_V (As := []) (rest := []) S (c_Mo_thrown l D b cI cJ cZ (upd mki mnv.toNatClampNeg 1) (vp_updL msz mnv.toNatClampNeg (if 0 = 0 then 0 else 1 : Int64)) mle mel mme mal mic mil mio mab mae msa mlc mli mna mva mma mch mre mlv mwr msh 0 (mnv + 1) mns mfa mmo) wB_blind k_Mo_thrown i_Mo_thrown e_Mo_thrown o_Mo ml_La_84 hd_Mo_thrown (Nat.le_trans (by decide) hRf) (Nat.le_trans (by decide) hRl) hRc (va_recv hK hP.r (q0 := 0) (ci := 6) rfl rfl) (wB_at hP.r hK) hl.1 rfl (Nat.le_of_ble_eq_true rfl) d_La_law_218 ?_
          refine lv_iload hx hb d_La_law_221 (lv_at hl 1 rfl) ?_
          refine lv_icmp_eq (tgt := 228) hx hb d_La_law_223 (by decide) (fun h => ?_) (fun h => ?_)
          · exact absurd h (by decide)
          · skip
            refine lv_iconst (v := 0) hx hb d_La_law_226 (by decide) ?_
            exact vc.elim
      · have vc := vc.2 h
        refine lv_iconst (v := 1) hx hb d_La_law_207 (by decide) ?_
        refine lv_goto (tgt := 212) hx hb d_La_law_208 (by decide) ?_
        obtain ⟨hpre, vc⟩ := vc
        by_cases hv1 : mnv = 40
        · have vc := vc.1 hv1
          refine wc_2 (As := [.int 1]) (rest := []) S (c_Mo_truth_1 l D b cI cJ cZ mki msz mle mel mme mal mic mil mio mab mae msa mlc mli mna mva mma mch mre mlv mwr msh mth mnv mns mfa mmo 1 hpre hv1) k_Mo_truth i_Mo_truth e_Mo_truth o_Mo ml_La_90 hd_Mo_truth (Nat.le_trans (by decide) hRf) (Nat.le_trans (by decide) hRl) hRc (va_recv hK hP.r (q0 := 0) (ci := 6) rfl rfl) hK hP hD hS hA hl.1 rfl (Nat.le_of_ble_eq_true rfl) d_La_law_212 (fun _ H locs _ hP hD hS => ?_)
          refine lv_istore hx hb d_La_law_215 hl (by decide) (lv' := [(6, .int 0), (5, .int 1), (4, .int i), (3, .ref (a 25)), (2, .ref (b 0)), (1, .ref (a 24)), (0, .ref sc)]) rfl (fun ls hl => ?_)
          refine lv_aload_n hx hb d_La_law_217 rfl (lv_at hl 4 rfl) ?_
          refine pc_V (As := []) (rest := []) S (c_Mo_thrown l D b cI cJ cZ mki msz mle mel mme mal mic mil mio mab mae msa mlc mli mna mva mma mch mre mlv mwr msh 1 mnv mns mfa mmo) wB_blind k_Mo_thrown i_Mo_thrown e_Mo_thrown o_Mo ml_La_84 hd_Mo_thrown (Nat.le_trans (by decide) hRf) (Nat.le_trans (by decide) hRl) hRc (va_recv hK hP.r (q0 := 0) (ci := 6) rfl rfl) (wB_at hP.r hK) hl.1 rfl (Nat.le_of_ble_eq_true rfl) d_La_law_218 ?_
          refine lv_iload hx hb d_La_law_221 (lv_at hl 1 rfl) ?_
          refine lv_icmp_eq (tgt := 228) hx hb d_La_law_223 (by decide) (fun h => ?_) (fun h => ?_)
          · skip
            refine lv_iload hx hb d_La_law_228 (lv_at hl 1 rfl) ?_
            refine lv_if_ne (tgt := 245) hx hb d_La_law_230 (by decide) (fun h => ?_) (fun h => ?_)
            · skip
              refine lv_goto (tgt := 1215) hx hb d_La_law_245 (by decide) ?_
              exact hnext ki co pr pa tw nv sv pn pl po pf pt ru le li bn ip aw ns ch ma br tl ou mki msz mle mel mme mal mic mil mio mab mae msa mlc mli mna mva mma mch mre mlv mwr msh 1 mnv mns mfa mmo ls H locs vc (lv_sub hl [6, 5, 4, 3, 2] rfl) hP hD hS
            · exact absurd h (by decide)
          · exact absurd h (by decide)
        · have vc := vc.2 hv1
          refine wc_2 (As := [.int 1]) (rest := []) S (c_Mo_truth_2 l D b cI cJ cZ mki msz mle mel mme mal mic mil mio mab mae msa mlc mli mna mva mma mch mre mlv mwr msh mth mnv mns mfa mmo 1 hpre hv1) k_Mo_truth i_Mo_truth e_Mo_truth o_Mo ml_La_90 hd_Mo_truth (Nat.le_trans (by decide) hRf) (Nat.le_trans (by decide) hRl) hRc (va_recv hK hP.r (q0 := 0) (ci := 6) rfl rfl) hK hP hD hS hA hl.1 rfl (Nat.le_of_ble_eq_true rfl) d_La_law_212 (fun _ H locs _ hP hD hS => ?_)
          refine lv_istore hx hb d_La_law_215 hl (by decide) (lv' := [(6, .int (mnv + 1 - 1)), (5, .int 1), (4, .int i), (3, .ref (a 25)), (2, .ref (b 0)), (1, .ref (a 24)), (0, .ref sc)]) rfl (fun ls hl => ?_)
          refine lv_aload_n hx hb d_La_law_217 rfl (lv_at hl 4 rfl) ?_
          refine pc_V (As := []) (rest := []) S (c_Mo_thrown l D b cI cJ cZ (upd mki mnv.toNatClampNeg 1) (vp_updL msz mnv.toNatClampNeg (if 1 = 0 then 0 else 1 : Int64)) mle mel mme mal mic mil mio mab mae msa mlc mli mna mva mma mch mre mlv mwr msh 0 (mnv + 1) mns mfa mmo) wB_blind k_Mo_thrown i_Mo_thrown e_Mo_thrown o_Mo ml_La_84 hd_Mo_thrown (Nat.le_trans (by decide) hRf) (Nat.le_trans (by decide) hRl) hRc (va_recv hK hP.r (q0 := 0) (ci := 6) rfl rfl) (wB_at hP.r hK) hl.1 rfl (Nat.le_of_ble_eq_true rfl) d_La_law_218 ?_
          refine lv_iload hx hb d_La_law_221 (lv_at hl 1 rfl) ?_
          refine lv_icmp_eq (tgt := 228) hx hb d_La_law_223 (by decide) (fun h => ?_) (fun h => ?_)
          · exact absurd h (by decide)
          · skip
            refine lv_iconst (v := 0) hx hb d_La_law_226 (by decide) ?_
            exact vc.elim
    · have vc := vc.2 hv1
      refine hc_1 (As := [.ref (a 24), .int 1, .ref (a 25)]) (rest := []) S (c_La_truth_2 l hls D a cI cJ cZ ki co pr pa tw nv sv pn pl po pf pt ru le li bn ip aw ns ch ma br tl ou 1 hpre hv1) kw_La_truth s_La_truth o_La ml_La_87 hd_La_truth (Nat.le_trans (by decide) hRf) (Nat.le_trans (by decide) hRl) hRc hK hP hD hS hA hX hN hl.1 rfl (Nat.le_of_ble_eq_true rfl) d_La_law_192 (fun _ H locs _ hP hD hS => ?_)
      refine lv_istore hx hb d_La_law_195 hl (by decide) (lv' := [(5, .int 0), (4, .int i), (3, .ref (a 25)), (2, .ref (b 0)), (1, .ref (a 24)), (0, .ref sc)]) rfl (fun ls hl => ?_)
      refine lv_aload_n hx hb d_La_law_197 rfl (lv_at hl 3 rfl) ?_
      refine lv_aload_n hx hb d_La_law_198 rfl (lv_at hl 5 rfl) ?_
      refine lv_iload hx hb d_La_law_199 (lv_at hl 1 rfl) ?_
      refine lv_iconst (v := 1) hx hb d_La_law_201 (by decide) ?_
      refine lv_iadd hx hb d_La_law_202 ?_
      refine va_sld hx hb hXs hbl hbA hS hi1 d_La_law_203 ?_
      rw [e1]
      refine lv_if_eq (tgt := 211) hx hb d_La_law_204 (by decide) (fun h => ?_) (fun h => ?_)
      · have vc := vc.1 h
        refine lv_iconst (v := 0) hx hb d_La_law_211 (by decide) ?_
        obtain ⟨hpre, vc⟩ := vc
        by_cases hv1 : mnv = 40
        · have vc := vc.1 hv1
          refine wc_2 (As := [.int 0]) (rest := []) S (c_Mo_truth_1 l D b cI cJ cZ mki msz mle mel mme mal mic mil mio mab mae msa mlc mli mna mva mma mch mre mlv mwr msh mth mnv mns mfa mmo 0 hpre hv1) k_Mo_truth i_Mo_truth e_Mo_truth o_Mo ml_La_90 hd_Mo_truth (Nat.le_trans (by decide) hRf) (Nat.le_trans (by decide) hRl) hRc (va_recv hK hP.r (q0 := 0) (ci := 6) rfl rfl) hK hP hD hS hA hl.1 rfl (Nat.le_of_ble_eq_true rfl) d_La_law_212 (fun _ H locs _ hP hD hS => ?_)
          refine lv_istore hx hb d_La_law_215 hl (by decide) (lv' := [(6, .int 0), (5, .int 0), (4, .int i), (3, .ref (a 25)), (2, .ref (b 0)), (1, .ref (a 24)), (0, .ref sc)]) rfl (fun ls hl => ?_)
          refine lv_aload_n hx hb d_La_law_217 rfl (lv_at hl 4 rfl) ?_
          refine pc_V (As := []) (rest := []) S (c_Mo_thrown l D b cI cJ cZ mki msz mle mel mme mal mic mil mio mab mae msa mlc mli mna mva mma mch mre mlv mwr msh 1 mnv mns mfa mmo) wB_blind k_Mo_thrown i_Mo_thrown e_Mo_thrown o_Mo ml_La_84 hd_Mo_thrown (Nat.le_trans (by decide) hRf) (Nat.le_trans (by decide) hRl) hRc (va_recv hK hP.r (q0 := 0) (ci := 6) rfl rfl) (wB_at hP.r hK) hl.1 rfl (Nat.le_of_ble_eq_true rfl) d_La_law_218 ?_
          refine lv_iload hx hb d_La_law_221 (lv_at hl 1 rfl) ?_
          refine lv_icmp_eq (tgt := 228) hx hb d_La_law_223 (by decide) (fun h => ?_) (fun h => ?_)
          · exact absurd h (by decide)
          · skip
            refine lv_iconst (v := 0) hx hb d_La_law_226 (by decide) ?_
            exact vc.elim
        · have vc := vc.2 hv1
          refine wc_2 (As := [.int 0]) (rest := []) S (c_Mo_truth_2 l D b cI cJ cZ mki msz mle mel mme mal mic mil mio mab mae msa mlc mli mna mva mma mch mre mlv mwr msh mth mnv mns mfa mmo 0 hpre hv1) k_Mo_truth i_Mo_truth e_Mo_truth o_Mo ml_La_90 hd_Mo_truth (Nat.le_trans (by decide) hRf) (Nat.le_trans (by decide) hRl) hRc (va_recv hK hP.r (q0 := 0) (ci := 6) rfl rfl) hK hP hD hS hA hl.1 rfl (Nat.le_of_ble_eq_true rfl) d_La_law_212 (fun _ H locs _ hP hD hS => ?_)
          refine lv_istore hx hb d_La_law_215 hl (by decide) (lv' := [(6, .int (mnv + 1 - 1)), (5, .int 0), (4, .int i), (3, .ref (a 25)), (2, .ref (b 0)), (1, .ref (a 24)), (0, .ref sc)]) rfl (fun ls hl => ?_)
          refine lv_aload_n hx hb d_La_law_217 rfl (lv_at hl 4 rfl) ?_
          refine pc_V (As := []) (rest := []) S (c_Mo_thrown l D b cI cJ cZ (upd mki mnv.toNatClampNeg 1) (vp_updL msz mnv.toNatClampNeg (if 0 = 0 then 0 else 1 : Int64)) mle mel mme mal mic mil mio mab mae msa mlc mli mna mva mma mch mre mlv mwr msh 0 (mnv + 1) mns mfa mmo) wB_blind k_Mo_thrown i_Mo_thrown e_Mo_thrown o_Mo ml_La_84 hd_Mo_thrown (Nat.le_trans (by decide) hRf) (Nat.le_trans (by decide) hRl) hRc (va_recv hK hP.r (q0 := 0) (ci := 6) rfl rfl) (wB_at hP.r hK) hl.1 rfl (Nat.le_of_ble_eq_true rfl) d_La_law_218 ?_
          refine lv_iload hx hb d_La_law_221 (lv_at hl 1 rfl) ?_
          refine lv_icmp_eq (tgt := 228) hx hb d_La_law_223 (by decide) (fun h => ?_) (fun h => ?_)
          · skip
            refine lv_iload hx hb d_La_law_228 (lv_at hl 1 rfl) ?_
            refine lv_if_ne (tgt := 245) hx hb d_La_law_230 (by decide) (fun h => ?_) (fun h => ?_)
            · exact absurd h (by decide)
            · skip
              refine lv_aload_n hx hb d_La_law_233 rfl (lv_at hl 3 rfl) ?_
              refine lv_iconst (v := 0) hx hb d_La_law_234 (by decide) ?_
              refine va_lald hx hb hK hP.l 25 1 rfl rfl h01 d_La_law_235 ?_
              refine lv_iload hx hb d_La_law_236 (lv_at hl 0 rfl) ?_
              refine lv_i2l hx hb d_La_law_238 rfl ?_
              refine W.lcmp hx hb d_La_law_239 ?_
              refine lv_if_eq (tgt := 245) hx hb d_La_law_240 (by decide) (fun h => ?_) (fun h => ?_)
              · have vc := vc.1 h
                refine lv_goto (tgt := 1215) hx hb d_La_law_245 (by decide) ?_
                exact hnext (upd ki nv.toNatClampNeg 1) (vp_updL co nv.toNatClampNeg (if 1 = 0 then 0 else 1 : Int64)) pr pa tw (nv + 1) sv pn pl po pf pt ru le li bn ip aw ns ch ma br tl (vp_updL ou 0 ((nv + 1 - 1 : Int32).toInt64)) (upd mki mnv.toNatClampNeg 1) (vp_updL msz mnv.toNatClampNeg (if 0 = 0 then 0 else 1 : Int64)) mle mel mme mal mic mil mio mab mae msa mlc mli mna mva mma mch mre mlv mwr msh 0 (mnv + 1) mns mfa mmo ls H locs vc (lv_sub hl [6, 5, 4, 3, 2] rfl) hP hD hS
              · have vc := vc.2 h
                refine lv_iconst (v := 0) hx hb d_La_law_243 (by decide) ?_
                exact vc.elim
          · exact absurd h (by decide)
      · have vc := vc.2 h
        refine lv_iconst (v := 1) hx hb d_La_law_207 (by decide) ?_
        refine lv_goto (tgt := 212) hx hb d_La_law_208 (by decide) ?_
        obtain ⟨hpre, vc⟩ := vc
        by_cases hv1 : mnv = 40
        · have vc := vc.1 hv1
          refine wc_2 (As := [.int 1]) (rest := []) S (c_Mo_truth_1 l D b cI cJ cZ mki msz mle mel mme mal mic mil mio mab mae msa mlc mli mna mva mma mch mre mlv mwr msh mth mnv mns mfa mmo 1 hpre hv1) k_Mo_truth i_Mo_truth e_Mo_truth o_Mo ml_La_90 hd_Mo_truth (Nat.le_trans (by decide) hRf) (Nat.le_trans (by decide) hRl) hRc (va_recv hK hP.r (q0 := 0) (ci := 6) rfl rfl) hK hP hD hS hA hl.1 rfl (Nat.le_of_ble_eq_true rfl) d_La_law_212 (fun _ H locs _ hP hD hS => ?_)
          refine lv_istore hx hb d_La_law_215 hl (by decide) (lv' := [(6, .int 0), (5, .int 0), (4, .int i), (3, .ref (a 25)), (2, .ref (b 0)), (1, .ref (a 24)), (0, .ref sc)]) rfl (fun ls hl => ?_)
          refine lv_aload_n hx hb d_La_law_217 rfl (lv_at hl 4 rfl) ?_
          refine pc_V (As := []) (rest := []) S (c_Mo_thrown l D b cI cJ cZ mki msz mle mel mme mal mic mil mio mab mae msa mlc mli mna mva mma mch mre mlv mwr msh 1 mnv mns mfa mmo) wB_blind k_Mo_thrown i_Mo_thrown e_Mo_thrown o_Mo ml_La_84 hd_Mo_thrown (Nat.le_trans (by decide) hRf) (Nat.le_trans (by decide) hRl) hRc (va_recv hK hP.r (q0 := 0) (ci := 6) rfl rfl) (wB_at hP.r hK) hl.1 rfl (Nat.le_of_ble_eq_true rfl) d_La_law_218 ?_
          refine lv_iload hx hb d_La_law_221 (lv_at hl 1 rfl) ?_
          refine lv_icmp_eq (tgt := 228) hx hb d_La_law_223 (by decide) (fun h => ?_) (fun h => ?_)
          · exact absurd h (by decide)
          · skip
            refine lv_iconst (v := 0) hx hb d_La_law_226 (by decide) ?_
            exact vc.elim
        · have vc := vc.2 hv1
          refine wc_2 (As := [.int 1]) (rest := []) S (c_Mo_truth_2 l D b cI cJ cZ mki msz mle mel mme mal mic mil mio mab mae msa mlc mli mna mva mma mch mre mlv mwr msh mth mnv mns mfa mmo 1 hpre hv1) k_Mo_truth i_Mo_truth e_Mo_truth o_Mo ml_La_90 hd_Mo_truth (Nat.le_trans (by decide) hRf) (Nat.le_trans (by decide) hRl) hRc (va_recv hK hP.r (q0 := 0) (ci := 6) rfl rfl) hK hP hD hS hA hl.1 rfl (Nat.le_of_ble_eq_true rfl) d_La_law_212 (fun _ H locs _ hP hD hS => ?_)
          refine lv_istore hx hb d_La_law_215 hl (by decide) (lv' := [(6, .int (mnv + 1 - 1)), (5, .int 0), (4, .int i), (3, .ref (a 25)), (2, .ref (b 0)), (1, .ref (a 24)), (0, .ref sc)]) rfl (fun ls hl => ?_)
          refine lv_aload_n hx hb d_La_law_217 rfl (lv_at hl 4 rfl) ?_
          refine pc_V (As := []) (rest := []) S (c_Mo_thrown l D b cI cJ cZ (upd mki mnv.toNatClampNeg 1) (vp_updL msz mnv.toNatClampNeg (if 1 = 0 then 0 else 1 : Int64)) mle mel mme mal mic mil mio mab mae msa mlc mli mna mva mma mch mre mlv mwr msh 0 (mnv + 1) mns mfa mmo) wB_blind k_Mo_thrown i_Mo_thrown e_Mo_thrown o_Mo ml_La_84 hd_Mo_thrown (Nat.le_trans (by decide) hRf) (Nat.le_trans (by decide) hRl) hRc (va_recv hK hP.r (q0 := 0) (ci := 6) rfl rfl) (wB_at hP.r hK) hl.1 rfl (Nat.le_of_ble_eq_true rfl) d_La_law_218 ?_
          refine lv_iload hx hb d_La_law_221 (lv_at hl 1 rfl) ?_
          refine lv_icmp_eq (tgt := 228) hx hb d_La_law_223 (by decide) (fun h => ?_) (fun h => ?_)
          · skip
            refine lv_iload hx hb d_La_law_228 (lv_at hl 1 rfl) ?_
            refine lv_if_ne (tgt := 245) hx hb d_La_law_230 (by decide) (fun h => ?_) (fun h => ?_)
            · exact absurd h (by decide)
            · skip
              refine lv_aload_n hx hb d_La_law_233 rfl (lv_at hl 3 rfl) ?_
              refine lv_iconst (v := 0) hx hb d_La_law_234 (by decide) ?_
              refine va_lald hx hb hK hP.l 25 1 rfl rfl h01 d_La_law_235 ?_
              refine lv_iload hx hb d_La_law_236 (lv_at hl 0 rfl) ?_
              refine lv_i2l hx hb d_La_law_238 rfl ?_
              refine W.lcmp hx hb d_La_law_239 ?_
              refine lv_if_eq (tgt := 245) hx hb d_La_law_240 (by decide) (fun h => ?_) (fun h => ?_)
              · have vc := vc.1 h
                refine lv_goto (tgt := 1215) hx hb d_La_law_245 (by decide) ?_
                exact hnext (upd ki nv.toNatClampNeg 1) (vp_updL co nv.toNatClampNeg (if 1 = 0 then 0 else 1 : Int64)) pr pa tw (nv + 1) sv pn pl po pf pt ru le li bn ip aw ns ch ma br tl (vp_updL ou 0 ((nv + 1 - 1 : Int32).toInt64)) (upd mki mnv.toNatClampNeg 1) (vp_updL msz mnv.toNatClampNeg (if 1 = 0 then 0 else 1 : Int64)) mle mel mme mal mic mil mio mab mae msa mlc mli mna mva mma mch mre mlv mwr msh 0 (mnv + 1) mns mfa mmo ls H locs vc (lv_sub hl [6, 5, 4, 3, 2] rfl) hP hD hS
              · have vc := vc.2 h
                refine lv_iconst (v := 0) hx hb d_La_law_243 (by decide) ?_
                exact vc.elim
          · exact absurd h (by decide)
def V_L2 (ki : Nat → Int32) (co : Nat → Int64) (pr : Nat → Int32) (pa : Nat → Int32) (tw : Nat → Int32) (nv : Int32) (sv : Int32) (pn : Nat → Int32) (pl : Nat → Int32) (po : Nat → Int32) (pf : Nat → Int32) (pt : Nat → Int32) (ru : Nat → Int32) (le : Nat → Int32) (li : Nat → Int32) (bn : Nat → Int32) (ip : Nat → Int32) (aw : Nat → Int32) (ns : Int32) (ch : Nat → Int32) (ma : Nat → Int32) (br : Nat → Int64) (tl : Int32) (ou : Nat → Int64) (mki : Nat → Int32) (msz : Nat → Int64) (mle : Nat → Int32) (mel : Nat → Int32) (mme : Nat → Int32) (mal : Nat → Int32) (mic : Nat → Int32) (mil : Nat → Int32) (mio : Nat → Int32) (mab : Nat → Int32) (mae : Nat → Int32) (msa : Nat → Int32) (mlc : Nat → Int32) (mli : Nat → Int32) (mna : Nat → Int32) (mva : Nat → Int32) (mma : Nat → Int32) (mch : Nat → Int32) (mre : Nat → Int32) (mlv : Nat → Int32) (mwr : Nat → Int64) (msh : Nat → Int32) (mth : Int32) (mnv : Int32) (mns : Int32) (mfa : Int32) (mmo : Int32) (k1 k2 k3 k4 : Int32) (post : (Nat → Int32) → (Nat → Int64) → (Nat → Int32) → (Nat → Int32) → (Nat → Int32) → Int32 → Int32 → (Nat → Int32) → (Nat → Int32) → (Nat → Int32) → (Nat → Int32) → (Nat → Int32) → (Nat → Int32) → (Nat → Int32) → (Nat → Int32) → (Nat → Int32) → (Nat → Int32) → (Nat → Int32) → Int32 → (Nat → Int32) → (Nat → Int32) → (Nat → Int64) → Int32 → (Nat → Int64) → (Nat → Int32) → (Nat → Int64) → (Nat → Int32) → (Nat → Int32) → (Nat → Int32) → (Nat → Int32) → (Nat → Int32) → (Nat → Int32) → (Nat → Int32) → (Nat → Int32) → (Nat → Int32) → (Nat → Int32) → (Nat → Int32) → (Nat → Int32) → (Nat → Int32) → (Nat → Int32) → (Nat → Int32) → (Nat → Int32) → (Nat → Int32) → (Nat → Int32) → (Nat → Int64) → (Nat → Int32) → Int32 → Int32 → Int32 → Int32 → Int32 → Prop) : Prop :=
  (¬ nv < 0 ∧ ((¬ (sIn k1 (-99999) 99999 && sIn k2 (-3) 3) = true → ((¬ mnv < 0 ∧ mnv ≤ 40) ∧ ((¬ (sIn k1 (-99999) 99999 && sIn k2 (-3) 3) = true → post ki co pr pa tw nv sv pn pl po pf pt ru le li bn ip aw ns ch ma br tl ou mki msz mle mel mme mal mic mil mio mab mae msa mlc mli mna mva mma mch mre mlv mwr msh 1 mnv mns mfa mmo) ∧ (¬ (¬ (sIn k1 (-99999) 99999 && sIn k2 (-3) 3) = true) → ((mnv = 40 → False) ∧ (¬ (mnv = 40) → False)))))) ∧ (¬ (¬ (sIn k1 (-99999) 99999 && sIn k2 (-3) 3) = true) → ((¬ nv < 40 → ((¬ mnv < 0 ∧ mnv ≤ 40) ∧ ((¬ (sIn k1 (-99999) 99999 && sIn k2 (-3) 3) = true → False) ∧ (¬ (¬ (sIn k1 (-99999) 99999 && sIn k2 (-3) 3) = true) → ((mnv = 40 → post ki co pr pa tw nv sv pn pl po pf pt ru le li bn ip aw ns ch ma br tl ou mki msz mle mel mme mal mic mil mio mab mae msa mlc mli mna mva mma mch mre mlv mwr msh 2 mnv mns mfa mmo) ∧ (¬ (mnv = 40) → False)))))) ∧ (¬ (¬ nv < 40) → ((¬ mnv < 0 ∧ mnv ≤ 40) ∧ ((¬ (sIn k1 (-99999) 99999 && sIn k2 (-3) 3) = true → False) ∧ (¬ (¬ (sIn k1 (-99999) 99999 && sIn k2 (-3) 3) = true) → ((mnv = 40 → False) ∧ (¬ (mnv = 40) → (((lg_cmp ((vp_updL ou 0 ((nv + 1 - 1 : Int32).toInt64)) (0 : Int32).toNatClampNeg) ((mnv + 1 - 1 : Int32).toInt64)) = 0 → post (upd ki nv.toNatClampNeg 2) (vp_updL co nv.toNatClampNeg (k1.toInt64 * (thou (k2 + 3 : Int32).toNatClampNeg).toInt64)) pr pa tw (nv + 1) sv pn pl po pf pt ru le li bn ip aw ns ch ma br tl (vp_updL ou 0 ((nv + 1 - 1 : Int32).toInt64)) (upd mki mnv.toNatClampNeg 2) (vp_updL msz mnv.toNatClampNeg (k1.toInt64 * (thou (k2 + 3 : Int32).toNatClampNeg).toInt64)) mle mel mme mal mic mil mio mab mae msa mlc mli mna mva mma mch mre mlv mwr msh 0 (mnv + 1) mns mfa mmo) ∧ (¬ (lg_cmp ((vp_updL ou 0 ((nv + 1 - 1 : Int32).toInt64)) (0 : Int32).toNatClampNeg) ((mnv + 1 - 1 : Int32).toInt64)) = 0 → False))))))))))))
set_option maxHeartbeats 4000000 in
set_option maxRecDepth 100000 in
theorem g_L2 {p : Program} {l : Launch} {e : Env} {R : Room} {s : State} {m : MethodId} {args : Array Value} {below : List Frame} {meth : Method} {c : Code} {H : Heap} {locs : List Loc} {cells slots : Nat} {Q : State → Prop} {ls : Array Slot} {A : Nat → Prop} (hls : l.stackTraces = false) (S : CallFix p m c code 7 s args W0 "SchemaJudgeLaw") (hN : eN s) (hRf : 9 ≤ R.frames) (hRl : 159 ≤ R.locals) (hRc : cells + 1 ≤ R.cells ∧ slots + 6 ≤ R.slots) (D : va_G) (a b : Nat → Nat) (cI cJ cZ : ClassId) (ki : Nat → Int32) (co : Nat → Int64) (pr : Nat → Int32) (pa : Nat → Int32) (tw : Nat → Int32) (nv : Int32) (sv : Int32) (pn : Nat → Int32) (pl : Nat → Int32) (po : Nat → Int32) (pf : Nat → Int32) (pt : Nat → Int32) (ru : Nat → Int32) (le : Nat → Int32) (li : Nat → Int32) (bn : Nat → Int32) (ip : Nat → Int32) (aw : Nat → Int32) (ns : Int32) (ch : Nat → Int32) (ma : Nat → Int32) (br : Nat → Int64) (tl : Int32) (ou : Nat → Int64) (mki : Nat → Int32) (msz : Nat → Int64) (mle : Nat → Int32) (mel : Nat → Int32) (mme : Nat → Int32) (mal : Nat → Int32) (mic : Nat → Int32) (mil : Nat → Int32) (mio : Nat → Int32) (mab : Nat → Int32) (mae : Nat → Int32) (msa : Nat → Int32) (mlc : Nat → Int32) (mli : Nat → Int32) (mna : Nat → Int32) (mva : Nat → Int32) (mma : Nat → Int32) (mch : Nat → Int32) (mre : Nat → Int32) (mlv : Nat → Int32) (mwr : Nat → Int64) (msh : Nat → Int32) (mth : Int32) (mnv : Int32) (mns : Int32) (mfa : Int32) (mmo : Int32) (k1 k2 k3 k4 : Int32) (sc L : Nat) (xs : Nat → Int32) (i : Int32) (hXs : va_X sc L xs s s.heap) (hbl : sc < s.heap.size) (hbA : ¬ A sc) (hi1 : vp_in (i + 1) L) (e1 : xs (i + 1 : Int32).toNatClampNeg = k1) (hi2 : vp_in (i + 2) L) (e2 : xs (i + 2 : Int32).toNatClampNeg = k2) (hi3 : vp_in (i + 3) L) (e3 : xs (i + 3 : Int32).toNatClampNeg = k3) (hi4 : vp_in (i + 4) L) (e4 : xs (i + 4 : Int32).toNatClampNeg = k4) (hK : va_K D vwCl (tyA cI cJ cZ) s) (hP : va_P D vwCl ((wX a ++ wV a cI cJ ki co pr pa tw nv sv ++ wP a cI cZ pn pl po pf pt ++ wS a cI ru le li bn ip aw ns ++ wL a ++ wJ a cI cJ ch ma br tl ++ wO a cJ ou) ++ (wM b cI cJ cZ mki msz mle mel mme mal mic mil mio mab mae msa mlc mli mna mva mma mch mre mlv mwr msh mth mnv mns mfa mmo)) H) (hD : va_D A ((wX a ++ wV a cI cJ ki co pr pa tw nv sv ++ wP a cI cZ pn pl po pf pt ++ wS a cI ru le li bn ip aw ns ++ wL a ++ wJ a cI cJ ch ma br tl ++ wO a cJ ou) ++ (wM b cI cJ cZ mki msz mle mel mme mal mic mil mio mab mae msa mlc mli mna mva mma mch mre mlv mwr msh mth mnv mns mfa mmo))) (hA : ∀ q, s.heap.size ≤ q → A q) (hS : va_S A s.heap H locs) (hX : eX A s s.heap) (hl : lv_has ls 7 [(4, .int i), (3, .ref (a 25)), (2, .ref (b 0)), (1, .ref (a 24)), (0, .ref sc)]) {post : (Nat → Int32) → (Nat → Int64) → (Nat → Int32) → (Nat → Int32) → (Nat → Int32) → Int32 → Int32 → (Nat → Int32) → (Nat → Int32) → (Nat → Int32) → (Nat → Int32) → (Nat → Int32) → (Nat → Int32) → (Nat → Int32) → (Nat → Int32) → (Nat → Int32) → (Nat → Int32) → (Nat → Int32) → Int32 → (Nat → Int32) → (Nat → Int32) → (Nat → Int64) → Int32 → (Nat → Int64) → (Nat → Int32) → (Nat → Int64) → (Nat → Int32) → (Nat → Int32) → (Nat → Int32) → (Nat → Int32) → (Nat → Int32) → (Nat → Int32) → (Nat → Int32) → (Nat → Int32) → (Nat → Int32) → (Nat → Int32) → (Nat → Int32) → (Nat → Int32) → (Nat → Int32) → (Nat → Int32) → (Nat → Int32) → (Nat → Int32) → (Nat → Int32) → (Nat → Int32) → (Nat → Int64) → (Nat → Int32) → Int32 → Int32 → Int32 → Int32 → Int32 → Prop} (vc : V_L2 ki co pr pa tw nv sv pn pl po pf pt ru le li bn ip aw ns ch ma br tl ou mki msz mle mel mme mal mic mil mio mab mae msa mlc mli mna mva mma mch mre mlv mwr msh mth mnv mns mfa mmo k1 k2 k3 k4 post)
    (hnext : ∀ (ki : Nat → Int32) (co : Nat → Int64) (pr : Nat → Int32) (pa : Nat → Int32) (tw : Nat → Int32) (nv : Int32) (sv : Int32) (pn : Nat → Int32) (pl : Nat → Int32) (po : Nat → Int32) (pf : Nat → Int32) (pt : Nat → Int32) (ru : Nat → Int32) (le : Nat → Int32) (li : Nat → Int32) (bn : Nat → Int32) (ip : Nat → Int32) (aw : Nat → Int32) (ns : Int32) (ch : Nat → Int32) (ma : Nat → Int32) (br : Nat → Int64) (tl : Int32) (ou : Nat → Int64) (mki : Nat → Int32) (msz : Nat → Int64) (mle : Nat → Int32) (mel : Nat → Int32) (mme : Nat → Int32) (mal : Nat → Int32) (mic : Nat → Int32) (mil : Nat → Int32) (mio : Nat → Int32) (mab : Nat → Int32) (mae : Nat → Int32) (msa : Nat → Int32) (mlc : Nat → Int32) (mli : Nat → Int32) (mna : Nat → Int32) (mva : Nat → Int32) (mma : Nat → Int32) (mch : Nat → Int32) (mre : Nat → Int32) (mlv : Nat → Int32) (mwr : Nat → Int64) (msh : Nat → Int32) (mth : Int32) (mnv : Int32) (mns : Int32) (mfa : Int32) (mmo : Int32) (ls : Array Slot) (H : Heap) (locs : List Loc), post ki co pr pa tw nv sv pn pl po pf pt ru le li bn ip aw ns ch ma br tl ou mki msz mle mel mme mal mic mil mio mab mae msa mlc mli mna mva mma mch mre mlv mwr msh mth mnv mns mfa mmo → lv_has ls 7 [(0, .ref sc), (1, .ref (a 24)), (2, .ref (b 0)), (3, .ref (a 25)), (4, .int i)] → va_P D vwCl ((wX a ++ wV a cI cJ ki co pr pa tw nv sv ++ wP a cI cZ pn pl po pf pt ++ wS a cI ru le li bn ip aw ns ++ wL a ++ wJ a cI cJ ch ma br tl ++ wO a cJ ou) ++ (wM b cI cJ cZ mki msz mle mel mme mal mic mil mio mab mae msa mlc mli mna mva mma mch mre mlv mwr msh mth mnv mns mfa mmo)) H → va_D A ((wX a ++ wV a cI cJ ki co pr pa tw nv sv ++ wP a cI cZ pn pl po pf pt ++ wS a cI ru le li bn ip aw ns ++ wL a ++ wJ a cI cJ ch ma br tl ++ wO a cJ ou) ++ (wM b cI cJ cZ mki msz mle mel mme mal mic mil mio mab mae msa mlc mli mna mva mma mch mre mlv mwr msh mth mnv mns mfa mmo)) → va_S A s.heap H locs → W p l e R s m args below meth c H locs (cells + 1) (slots + 6) Q (F0 m 1215 ls [])) : W p l e R s m args below meth c H locs cells slots Q (F0 m 248 ls []) := by
  have hx := S.1
  have hb := S.2.1
  have hown := S.2.2.2.1
  have hts := S.2.2.2.2
  have h01 : vp_in (0 : Int32) 1 := vp_in_nI (n := 0) (by decide) (by decide)
  unfold V_L2 at vc
  refine lv_aload_n hx hb d_La_law_248 rfl (lv_at hl 3 rfl) ?_
  refine lv_aload_n hx hb d_La_law_249 rfl (lv_at hl 4 rfl) ?_
  refine lv_iload hx hb d_La_law_250 (lv_at hl 0 rfl) ?_
  refine lv_iconst (v := 1) hx hb d_La_law_252 (by decide) ?_
  refine lv_iadd hx hb d_La_law_253 ?_
  refine va_sld hx hb hXs hbl hbA hS hi1 d_La_law_254 ?_
  rw [e1]
  refine lv_aload_n hx hb d_La_law_255 rfl (lv_at hl 4 rfl) ?_
  refine lv_iload hx hb d_La_law_256 (lv_at hl 0 rfl) ?_
  refine lv_iconst (v := 2) hx hb d_La_law_258 (by decide) ?_
  refine lv_iadd hx hb d_La_law_259 ?_
  refine va_sld hx hb hXs hbl hbA hS hi2 d_La_law_260 ?_
  rw [e2]
  refine lv_aload_n hx hb d_La_law_261 rfl (lv_at hl 1 rfl) ?_
  obtain ⟨hpre, vc⟩ := vc
  by_cases hv1 : ¬ (sIn k1 (-99999) 99999 && sIn k2 (-3) 3) = true
  · have vc := vc.1 hv1
    refine hc_1 (As := [.ref (a 24), .int k1, .int k2, .ref (a 25)]) (rest := []) S (c_La_number_1 l hls D a cI cJ cZ ki co pr pa tw nv sv pn pl po pf pt ru le li bn ip aw ns ch ma br tl ou k1 k2 hpre hv1) kw_La_number s_La_number o_La ml_La_91 hd_La_number (Nat.le_trans (by decide) hRf) (Nat.le_trans (by decide) hRl) hRc hK hP hD hS hA hX hN hl.1 rfl (Nat.le_of_ble_eq_true rfl) d_La_law_262 (fun _ H locs _ hP hD hS => ?_)
    refine lv_istore hx hb d_La_law_265 hl (by decide) (lv' := [(5, .int 1), (4, .int i), (3, .ref (a 25)), (2, .ref (b 0)), (1, .ref (a 24)), (0, .ref sc)]) rfl (fun ls hl => ?_)
    refine lv_aload_n hx hb d_La_law_267 rfl (lv_at hl 3 rfl) ?_
    refine lv_aload_n hx hb d_La_law_268 rfl (lv_at hl 5 rfl) ?_
    refine lv_iload hx hb d_La_law_269 (lv_at hl 1 rfl) ?_
    refine lv_iconst (v := 1) hx hb d_La_law_271 (by decide) ?_
    refine lv_iadd hx hb d_La_law_272 ?_
    refine va_sld hx hb hXs hbl hbA hS hi1 d_La_law_273 ?_
    rw [e1]
    refine lv_aload_n hx hb d_La_law_274 rfl (lv_at hl 5 rfl) ?_
    refine lv_iload hx hb d_La_law_275 (lv_at hl 1 rfl) ?_
    refine lv_iconst (v := 2) hx hb d_La_law_277 (by decide) ?_
    refine lv_iadd hx hb d_La_law_278 ?_
    refine va_sld hx hb hXs hbl hbA hS hi2 d_La_law_279 ?_
    rw [e2]
    obtain ⟨hpre, vc⟩ := vc
    by_cases hv1 : ¬ (sIn k1 (-99999) 99999 && sIn k2 (-3) 3) = true
    · have vc := vc.1 hv1
      refine wc_2 (As := [.int k1, .int k2]) (rest := []) S (c_Mo_number_1 l D b cI cJ cZ mki msz mle mel mme mal mic mil mio mab mae msa mlc mli mna mva mma mch mre mlv mwr msh mth mnv mns mfa mmo k1 k2 hpre hv1) k_Mo_number i_Mo_number e_Mo_number o_Mo ml_La_94 hd_Mo_number (Nat.le_trans (by decide) hRf) (Nat.le_trans (by decide) hRl) hRc (va_recv hK hP.r (q0 := 0) (ci := 6) rfl rfl) hK hP hD hS hA hl.1 rfl (Nat.le_of_ble_eq_true rfl) d_La_law_280 (fun _ H locs _ hP hD hS => ?_)
      refine lv_istore hx hb d_La_law_283 hl (by decide) (lv' := [(6, .int 0), (5, .int 1), (4, .int i), (3, .ref (a 25)), (2, .ref (b 0)), (1, .ref (a 24)), (0, .ref sc)]) rfl (fun ls hl => ?_)
      refine lv_aload_n hx hb d_La_law_285 rfl (lv_at hl 4 rfl) ?_
      refine pc_V (As := []) (rest := []) S (c_Mo_thrown l D b cI cJ cZ mki msz mle mel mme mal mic mil mio mab mae msa mlc mli mna mva mma mch mre mlv mwr msh 1 mnv mns mfa mmo) wB_blind k_Mo_thrown i_Mo_thrown e_Mo_thrown o_Mo ml_La_84 hd_Mo_thrown (Nat.le_trans (by decide) hRf) (Nat.le_trans (by decide) hRl) hRc (va_recv hK hP.r (q0 := 0) (ci := 6) rfl rfl) (wB_at hP.r hK) hl.1 rfl (Nat.le_of_ble_eq_true rfl) d_La_law_286 ?_
      refine lv_iload hx hb d_La_law_289 (lv_at hl 1 rfl) ?_
      refine lv_icmp_eq (tgt := 296) hx hb d_La_law_291 (by decide) (fun h => ?_) (fun h => ?_)
      · skip
        refine lv_iload hx hb d_La_law_296 (lv_at hl 1 rfl) ?_
        refine lv_if_ne (tgt := 313) hx hb d_La_law_298 (by decide) (fun h => ?_) (fun h => ?_)
        · skip
          refine lv_goto (tgt := 1215) hx hb d_La_law_313 (by decide) ?_
          exact hnext ki co pr pa tw nv sv pn pl po pf pt ru le li bn ip aw ns ch ma br tl ou mki msz mle mel mme mal mic mil mio mab mae msa mlc mli mna mva mma mch mre mlv mwr msh 1 mnv mns mfa mmo ls H locs vc (lv_sub hl [6, 5, 4, 3, 2] rfl) hP hD hS
        · exact absurd h (by decide)
      · exact absurd h (by decide)
    · have vc := vc.2 hv1
      by_cases hv2 : mnv = 40
      · have vc := vc.1 hv2
        refine wc_2 (As := [.int k1, .int k2]) (rest := []) S (c_Mo_number_2 l D b cI cJ cZ mki msz mle mel mme mal mic mil mio mab mae msa mlc mli mna mva mma mch mre mlv mwr msh mth mnv mns mfa mmo k1 k2 hpre hv1 hv2) k_Mo_number i_Mo_number e_Mo_number o_Mo ml_La_94 hd_Mo_number (Nat.le_trans (by decide) hRf) (Nat.le_trans (by decide) hRl) hRc (va_recv hK hP.r (q0 := 0) (ci := 6) rfl rfl) hK hP hD hS hA hl.1 rfl (Nat.le_of_ble_eq_true rfl) d_La_law_280 (fun _ H locs _ hP hD hS => ?_)
        refine lv_istore hx hb d_La_law_283 hl (by decide) (lv' := [(6, .int 0), (5, .int 1), (4, .int i), (3, .ref (a 25)), (2, .ref (b 0)), (1, .ref (a 24)), (0, .ref sc)]) rfl (fun ls hl => ?_)
        refine lv_aload_n hx hb d_La_law_285 rfl (lv_at hl 4 rfl) ?_
        refine pc_V (As := []) (rest := []) S (c_Mo_thrown l D b cI cJ cZ mki msz mle mel mme mal mic mil mio mab mae msa mlc mli mna mva mma mch mre mlv mwr msh 2 mnv mns mfa mmo) wB_blind k_Mo_thrown i_Mo_thrown e_Mo_thrown o_Mo ml_La_84 hd_Mo_thrown (Nat.le_trans (by decide) hRf) (Nat.le_trans (by decide) hRl) hRc (va_recv hK hP.r (q0 := 0) (ci := 6) rfl rfl) (wB_at hP.r hK) hl.1 rfl (Nat.le_of_ble_eq_true rfl) d_La_law_286 ?_
        refine lv_iload hx hb d_La_law_289 (lv_at hl 1 rfl) ?_
        refine lv_icmp_eq (tgt := 296) hx hb d_La_law_291 (by decide) (fun h => ?_) (fun h => ?_)
        · exact absurd h (by decide)
        · skip
          refine lv_iconst (v := 0) hx hb d_La_law_294 (by decide) ?_
          exact vc.elim
      · have vc := vc.2 hv2
        refine wc_2 (As := [.int k1, .int k2]) (rest := []) S (c_Mo_number_3 l D b cI cJ cZ mki msz mle mel mme mal mic mil mio mab mae msa mlc mli mna mva mma mch mre mlv mwr msh mth mnv mns mfa mmo k1 k2 hpre hv1 hv2) k_Mo_number i_Mo_number e_Mo_number o_Mo ml_La_94 hd_Mo_number (Nat.le_trans (by decide) hRf) (Nat.le_trans (by decide) hRl) hRc (va_recv hK hP.r (q0 := 0) (ci := 6) rfl rfl) hK hP hD hS hA hl.1 rfl (Nat.le_of_ble_eq_true rfl) d_La_law_280 (fun _ H locs _ hP hD hS => ?_)
        refine lv_istore hx hb d_La_law_283 hl (by decide) (lv' := [(6, .int (mnv + 1 - 1)), (5, .int 1), (4, .int i), (3, .ref (a 25)), (2, .ref (b 0)), (1, .ref (a 24)), (0, .ref sc)]) rfl (fun ls hl => ?_)
        refine lv_aload_n hx hb d_La_law_285 rfl (lv_at hl 4 rfl) ?_
        refine pc_V (As := []) (rest := []) S (c_Mo_thrown l D b cI cJ cZ (upd mki mnv.toNatClampNeg 2) (vp_updL msz mnv.toNatClampNeg (k1.toInt64 * (thou (k2 + 3 : Int32).toNatClampNeg).toInt64)) mle mel mme mal mic mil mio mab mae msa mlc mli mna mva mma mch mre mlv mwr msh 0 (mnv + 1) mns mfa mmo) wB_blind k_Mo_thrown i_Mo_thrown e_Mo_thrown o_Mo ml_La_84 hd_Mo_thrown (Nat.le_trans (by decide) hRf) (Nat.le_trans (by decide) hRl) hRc (va_recv hK hP.r (q0 := 0) (ci := 6) rfl rfl) (wB_at hP.r hK) hl.1 rfl (Nat.le_of_ble_eq_true rfl) d_La_law_286 ?_
        refine lv_iload hx hb d_La_law_289 (lv_at hl 1 rfl) ?_
        refine lv_icmp_eq (tgt := 296) hx hb d_La_law_291 (by decide) (fun h => ?_) (fun h => ?_)
        · exact absurd h (by decide)
        · skip
          refine lv_iconst (v := 0) hx hb d_La_law_294 (by decide) ?_
          exact vc.elim
  · have vc := vc.2 hv1
    by_cases hv2 : ¬ nv < 40
    · have vc := vc.1 hv2
      refine hc_1 (As := [.ref (a 24), .int k1, .int k2, .ref (a 25)]) (rest := []) S (c_La_number_2 l hls D a cI cJ cZ ki co pr pa tw nv sv pn pl po pf pt ru le li bn ip aw ns ch ma br tl ou k1 k2 hpre hv1 hv2) kw_La_number s_La_number o_La ml_La_91 hd_La_number (Nat.le_trans (by decide) hRf) (Nat.le_trans (by decide) hRl) hRc hK hP hD hS hA hX hN hl.1 rfl (Nat.le_of_ble_eq_true rfl) d_La_law_262 (fun _ H locs _ hP hD hS => ?_)
      refine lv_istore hx hb d_La_law_265 hl (by decide) (lv' := [(5, .int 2), (4, .int i), (3, .ref (a 25)), (2, .ref (b 0)), (1, .ref (a 24)), (0, .ref sc)]) rfl (fun ls hl => ?_)
      refine lv_aload_n hx hb d_La_law_267 rfl (lv_at hl 3 rfl) ?_
      refine lv_aload_n hx hb d_La_law_268 rfl (lv_at hl 5 rfl) ?_
      refine lv_iload hx hb d_La_law_269 (lv_at hl 1 rfl) ?_
      refine lv_iconst (v := 1) hx hb d_La_law_271 (by decide) ?_
      refine lv_iadd hx hb d_La_law_272 ?_
      refine va_sld hx hb hXs hbl hbA hS hi1 d_La_law_273 ?_
      rw [e1]
      refine lv_aload_n hx hb d_La_law_274 rfl (lv_at hl 5 rfl) ?_
      refine lv_iload hx hb d_La_law_275 (lv_at hl 1 rfl) ?_
      refine lv_iconst (v := 2) hx hb d_La_law_277 (by decide) ?_
      refine lv_iadd hx hb d_La_law_278 ?_
      refine va_sld hx hb hXs hbl hbA hS hi2 d_La_law_279 ?_
      rw [e2]
      obtain ⟨hpre, vc⟩ := vc
      by_cases hv1 : ¬ (sIn k1 (-99999) 99999 && sIn k2 (-3) 3) = true
      · have vc := vc.1 hv1
        refine wc_2 (As := [.int k1, .int k2]) (rest := []) S (c_Mo_number_1 l D b cI cJ cZ mki msz mle mel mme mal mic mil mio mab mae msa mlc mli mna mva mma mch mre mlv mwr msh mth mnv mns mfa mmo k1 k2 hpre hv1) k_Mo_number i_Mo_number e_Mo_number o_Mo ml_La_94 hd_Mo_number (Nat.le_trans (by decide) hRf) (Nat.le_trans (by decide) hRl) hRc (va_recv hK hP.r (q0 := 0) (ci := 6) rfl rfl) hK hP hD hS hA hl.1 rfl (Nat.le_of_ble_eq_true rfl) d_La_law_280 (fun _ H locs _ hP hD hS => ?_)
        refine lv_istore hx hb d_La_law_283 hl (by decide) (lv' := [(6, .int 0), (5, .int 2), (4, .int i), (3, .ref (a 25)), (2, .ref (b 0)), (1, .ref (a 24)), (0, .ref sc)]) rfl (fun ls hl => ?_)
        refine lv_aload_n hx hb d_La_law_285 rfl (lv_at hl 4 rfl) ?_
        refine pc_V (As := []) (rest := []) S (c_Mo_thrown l D b cI cJ cZ mki msz mle mel mme mal mic mil mio mab mae msa mlc mli mna mva mma mch mre mlv mwr msh 1 mnv mns mfa mmo) wB_blind k_Mo_thrown i_Mo_thrown e_Mo_thrown o_Mo ml_La_84 hd_Mo_thrown (Nat.le_trans (by decide) hRf) (Nat.le_trans (by decide) hRl) hRc (va_recv hK hP.r (q0 := 0) (ci := 6) rfl rfl) (wB_at hP.r hK) hl.1 rfl (Nat.le_of_ble_eq_true rfl) d_La_law_286 ?_
        refine lv_iload hx hb d_La_law_289 (lv_at hl 1 rfl) ?_
        refine lv_icmp_eq (tgt := 296) hx hb d_La_law_291 (by decide) (fun h => ?_) (fun h => ?_)
        · exact absurd h (by decide)
        · skip
          refine lv_iconst (v := 0) hx hb d_La_law_294 (by decide) ?_
          exact vc.elim
      · have vc := vc.2 hv1
        by_cases hv2 : mnv = 40
        · have vc := vc.1 hv2
          refine wc_2 (As := [.int k1, .int k2]) (rest := []) S (c_Mo_number_2 l D b cI cJ cZ mki msz mle mel mme mal mic mil mio mab mae msa mlc mli mna mva mma mch mre mlv mwr msh mth mnv mns mfa mmo k1 k2 hpre hv1 hv2) k_Mo_number i_Mo_number e_Mo_number o_Mo ml_La_94 hd_Mo_number (Nat.le_trans (by decide) hRf) (Nat.le_trans (by decide) hRl) hRc (va_recv hK hP.r (q0 := 0) (ci := 6) rfl rfl) hK hP hD hS hA hl.1 rfl (Nat.le_of_ble_eq_true rfl) d_La_law_280 (fun _ H locs _ hP hD hS => ?_)
          refine lv_istore hx hb d_La_law_283 hl (by decide) (lv' := [(6, .int 0), (5, .int 2), (4, .int i), (3, .ref (a 25)), (2, .ref (b 0)), (1, .ref (a 24)), (0, .ref sc)]) rfl (fun ls hl => ?_)
          refine lv_aload_n hx hb d_La_law_285 rfl (lv_at hl 4 rfl) ?_
          refine pc_V (As := []) (rest := []) S (c_Mo_thrown l D b cI cJ cZ mki msz mle mel mme mal mic mil mio mab mae msa mlc mli mna mva mma mch mre mlv mwr msh 2 mnv mns mfa mmo) wB_blind k_Mo_thrown i_Mo_thrown e_Mo_thrown o_Mo ml_La_84 hd_Mo_thrown (Nat.le_trans (by decide) hRf) (Nat.le_trans (by decide) hRl) hRc (va_recv hK hP.r (q0 := 0) (ci := 6) rfl rfl) (wB_at hP.r hK) hl.1 rfl (Nat.le_of_ble_eq_true rfl) d_La_law_286 ?_
          refine lv_iload hx hb d_La_law_289 (lv_at hl 1 rfl) ?_
          refine lv_icmp_eq (tgt := 296) hx hb d_La_law_291 (by decide) (fun h => ?_) (fun h => ?_)
          · skip
            refine lv_iload hx hb d_La_law_296 (lv_at hl 1 rfl) ?_
            refine lv_if_ne (tgt := 313) hx hb d_La_law_298 (by decide) (fun h => ?_) (fun h => ?_)
            · skip
              refine lv_goto (tgt := 1215) hx hb d_La_law_313 (by decide) ?_
              exact hnext ki co pr pa tw nv sv pn pl po pf pt ru le li bn ip aw ns ch ma br tl ou mki msz mle mel mme mal mic mil mio mab mae msa mlc mli mna mva mma mch mre mlv mwr msh 2 mnv mns mfa mmo ls H locs vc (lv_sub hl [6, 5, 4, 3, 2] rfl) hP hD hS
            · exact absurd h (by decide)
          · exact absurd h (by decide)
        · have vc := vc.2 hv2
          refine wc_2 (As := [.int k1, .int k2]) (rest := []) S (c_Mo_number_3 l D b cI cJ cZ mki msz mle mel mme mal mic mil mio mab mae msa mlc mli mna mva mma mch mre mlv mwr msh mth mnv mns mfa mmo k1 k2 hpre hv1 hv2) k_Mo_number i_Mo_number e_Mo_number o_Mo ml_La_94 hd_Mo_number (Nat.le_trans (by decide) hRf) (Nat.le_trans (by decide) hRl) hRc (va_recv hK hP.r (q0 := 0) (ci := 6) rfl rfl) hK hP hD hS hA hl.1 rfl (Nat.le_of_ble_eq_true rfl) d_La_law_280 (fun _ H locs _ hP hD hS => ?_)
          refine lv_istore hx hb d_La_law_283 hl (by decide) (lv' := [(6, .int (mnv + 1 - 1)), (5, .int 2), (4, .int i), (3, .ref (a 25)), (2, .ref (b 0)), (1, .ref (a 24)), (0, .ref sc)]) rfl (fun ls hl => ?_)
          refine lv_aload_n hx hb d_La_law_285 rfl (lv_at hl 4 rfl) ?_
          refine pc_V (As := []) (rest := []) S (c_Mo_thrown l D b cI cJ cZ (upd mki mnv.toNatClampNeg 2) (vp_updL msz mnv.toNatClampNeg (k1.toInt64 * (thou (k2 + 3 : Int32).toNatClampNeg).toInt64)) mle mel mme mal mic mil mio mab mae msa mlc mli mna mva mma mch mre mlv mwr msh 0 (mnv + 1) mns mfa mmo) wB_blind k_Mo_thrown i_Mo_thrown e_Mo_thrown o_Mo ml_La_84 hd_Mo_thrown (Nat.le_trans (by decide) hRf) (Nat.le_trans (by decide) hRl) hRc (va_recv hK hP.r (q0 := 0) (ci := 6) rfl rfl) (wB_at hP.r hK) hl.1 rfl (Nat.le_of_ble_eq_true rfl) d_La_law_286 ?_
          refine lv_iload hx hb d_La_law_289 (lv_at hl 1 rfl) ?_
          refine lv_icmp_eq (tgt := 296) hx hb d_La_law_291 (by decide) (fun h => ?_) (fun h => ?_)
          · exact absurd h (by decide)
          · skip
            refine lv_iconst (v := 0) hx hb d_La_law_294 (by decide) ?_
            exact vc.elim
    · have vc := vc.2 hv2
      refine hc_1 (As := [.ref (a 24), .int k1, .int k2, .ref (a 25)]) (rest := []) S (c_La_number_3 l hls D a cI cJ cZ ki co pr pa tw nv sv pn pl po pf pt ru le li bn ip aw ns ch ma br tl ou k1 k2 hpre hv1 hv2) kw_La_number s_La_number o_La ml_La_91 hd_La_number (Nat.le_trans (by decide) hRf) (Nat.le_trans (by decide) hRl) hRc hK hP hD hS hA hX hN hl.1 rfl (Nat.le_of_ble_eq_true rfl) d_La_law_262 (fun _ H locs _ hP hD hS => ?_)
      refine lv_istore hx hb d_La_law_265 hl (by decide) (lv' := [(5, .int 0), (4, .int i), (3, .ref (a 25)), (2, .ref (b 0)), (1, .ref (a 24)), (0, .ref sc)]) rfl (fun ls hl => ?_)
      refine lv_aload_n hx hb d_La_law_267 rfl (lv_at hl 3 rfl) ?_
      refine lv_aload_n hx hb d_La_law_268 rfl (lv_at hl 5 rfl) ?_
      refine lv_iload hx hb d_La_law_269 (lv_at hl 1 rfl) ?_
      refine lv_iconst (v := 1) hx hb d_La_law_271 (by decide) ?_
      refine lv_iadd hx hb d_La_law_272 ?_
      refine va_sld hx hb hXs hbl hbA hS hi1 d_La_law_273 ?_
      rw [e1]
      refine lv_aload_n hx hb d_La_law_274 rfl (lv_at hl 5 rfl) ?_
      refine lv_iload hx hb d_La_law_275 (lv_at hl 1 rfl) ?_
      refine lv_iconst (v := 2) hx hb d_La_law_277 (by decide) ?_
      refine lv_iadd hx hb d_La_law_278 ?_
      refine va_sld hx hb hXs hbl hbA hS hi2 d_La_law_279 ?_
      rw [e2]
      obtain ⟨hpre, vc⟩ := vc
      by_cases hv1 : ¬ (sIn k1 (-99999) 99999 && sIn k2 (-3) 3) = true
      · have vc := vc.1 hv1
        refine wc_2 (As := [.int k1, .int k2]) (rest := []) S (c_Mo_number_1 l D b cI cJ cZ mki msz mle mel mme mal mic mil mio mab mae msa mlc mli mna mva mma mch mre mlv mwr msh mth mnv mns mfa mmo k1 k2 hpre hv1) k_Mo_number i_Mo_number e_Mo_number o_Mo ml_La_94 hd_Mo_number (Nat.le_trans (by decide) hRf) (Nat.le_trans (by decide) hRl) hRc (va_recv hK hP.r (q0 := 0) (ci := 6) rfl rfl) hK hP hD hS hA hl.1 rfl (Nat.le_of_ble_eq_true rfl) d_La_law_280 (fun _ H locs _ hP hD hS => ?_)
        refine lv_istore hx hb d_La_law_283 hl (by decide) (lv' := [(6, .int 0), (5, .int 0), (4, .int i), (3, .ref (a 25)), (2, .ref (b 0)), (1, .ref (a 24)), (0, .ref sc)]) rfl (fun ls hl => ?_)
        refine lv_aload_n hx hb d_La_law_285 rfl (lv_at hl 4 rfl) ?_
        refine pc_V (As := []) (rest := []) S (c_Mo_thrown l D b cI cJ cZ mki msz mle mel mme mal mic mil mio mab mae msa mlc mli mna mva mma mch mre mlv mwr msh 1 mnv mns mfa mmo) wB_blind k_Mo_thrown i_Mo_thrown e_Mo_thrown o_Mo ml_La_84 hd_Mo_thrown (Nat.le_trans (by decide) hRf) (Nat.le_trans (by decide) hRl) hRc (va_recv hK hP.r (q0 := 0) (ci := 6) rfl rfl) (wB_at hP.r hK) hl.1 rfl (Nat.le_of_ble_eq_true rfl) d_La_law_286 ?_
        refine lv_iload hx hb d_La_law_289 (lv_at hl 1 rfl) ?_
        refine lv_icmp_eq (tgt := 296) hx hb d_La_law_291 (by decide) (fun h => ?_) (fun h => ?_)
        · exact absurd h (by decide)
        · skip
          refine lv_iconst (v := 0) hx hb d_La_law_294 (by decide) ?_
          exact vc.elim
      · have vc := vc.2 hv1
        by_cases hv2 : mnv = 40
        · have vc := vc.1 hv2
          refine wc_2 (As := [.int k1, .int k2]) (rest := []) S (c_Mo_number_2 l D b cI cJ cZ mki msz mle mel mme mal mic mil mio mab mae msa mlc mli mna mva mma mch mre mlv mwr msh mth mnv mns mfa mmo k1 k2 hpre hv1 hv2) k_Mo_number i_Mo_number e_Mo_number o_Mo ml_La_94 hd_Mo_number (Nat.le_trans (by decide) hRf) (Nat.le_trans (by decide) hRl) hRc (va_recv hK hP.r (q0 := 0) (ci := 6) rfl rfl) hK hP hD hS hA hl.1 rfl (Nat.le_of_ble_eq_true rfl) d_La_law_280 (fun _ H locs _ hP hD hS => ?_)
          refine lv_istore hx hb d_La_law_283 hl (by decide) (lv' := [(6, .int 0), (5, .int 0), (4, .int i), (3, .ref (a 25)), (2, .ref (b 0)), (1, .ref (a 24)), (0, .ref sc)]) rfl (fun ls hl => ?_)
          refine lv_aload_n hx hb d_La_law_285 rfl (lv_at hl 4 rfl) ?_
          refine pc_V (As := []) (rest := []) S (c_Mo_thrown l D b cI cJ cZ mki msz mle mel mme mal mic mil mio mab mae msa mlc mli mna mva mma mch mre mlv mwr msh 2 mnv mns mfa mmo) wB_blind k_Mo_thrown i_Mo_thrown e_Mo_thrown o_Mo ml_La_84 hd_Mo_thrown (Nat.le_trans (by decide) hRf) (Nat.le_trans (by decide) hRl) hRc (va_recv hK hP.r (q0 := 0) (ci := 6) rfl rfl) (wB_at hP.r hK) hl.1 rfl (Nat.le_of_ble_eq_true rfl) d_La_law_286 ?_
          refine lv_iload hx hb d_La_law_289 (lv_at hl 1 rfl) ?_
          refine lv_icmp_eq (tgt := 296) hx hb d_La_law_291 (by decide) (fun h => ?_) (fun h => ?_)
          · exact absurd h (by decide)
          · skip
            refine lv_iconst (v := 0) hx hb d_La_law_294 (by decide) ?_
            exact vc.elim
        · have vc := vc.2 hv2
          refine wc_2 (As := [.int k1, .int k2]) (rest := []) S (c_Mo_number_3 l D b cI cJ cZ mki msz mle mel mme mal mic mil mio mab mae msa mlc mli mna mva mma mch mre mlv mwr msh mth mnv mns mfa mmo k1 k2 hpre hv1 hv2) k_Mo_number i_Mo_number e_Mo_number o_Mo ml_La_94 hd_Mo_number (Nat.le_trans (by decide) hRf) (Nat.le_trans (by decide) hRl) hRc (va_recv hK hP.r (q0 := 0) (ci := 6) rfl rfl) hK hP hD hS hA hl.1 rfl (Nat.le_of_ble_eq_true rfl) d_La_law_280 (fun _ H locs _ hP hD hS => ?_)
          refine lv_istore hx hb d_La_law_283 hl (by decide) (lv' := [(6, .int (mnv + 1 - 1)), (5, .int 0), (4, .int i), (3, .ref (a 25)), (2, .ref (b 0)), (1, .ref (a 24)), (0, .ref sc)]) rfl (fun ls hl => ?_)
          refine lv_aload_n hx hb d_La_law_285 rfl (lv_at hl 4 rfl) ?_
          refine pc_V (As := []) (rest := []) S (c_Mo_thrown l D b cI cJ cZ (upd mki mnv.toNatClampNeg 2) (vp_updL msz mnv.toNatClampNeg (k1.toInt64 * (thou (k2 + 3 : Int32).toNatClampNeg).toInt64)) mle mel mme mal mic mil mio mab mae msa mlc mli mna mva mma mch mre mlv mwr msh 0 (mnv + 1) mns mfa mmo) wB_blind k_Mo_thrown i_Mo_thrown e_Mo_thrown o_Mo ml_La_84 hd_Mo_thrown (Nat.le_trans (by decide) hRf) (Nat.le_trans (by decide) hRl) hRc (va_recv hK hP.r (q0 := 0) (ci := 6) rfl rfl) (wB_at hP.r hK) hl.1 rfl (Nat.le_of_ble_eq_true rfl) d_La_law_286 ?_
          refine lv_iload hx hb d_La_law_289 (lv_at hl 1 rfl) ?_
          refine lv_icmp_eq (tgt := 296) hx hb d_La_law_291 (by decide) (fun h => ?_) (fun h => ?_)
          · skip
            refine lv_iload hx hb d_La_law_296 (lv_at hl 1 rfl) ?_
            refine lv_if_ne (tgt := 313) hx hb d_La_law_298 (by decide) (fun h => ?_) (fun h => ?_)
            · exact absurd h (by decide)
            · skip
              refine lv_aload_n hx hb d_La_law_301 rfl (lv_at hl 3 rfl) ?_
              refine lv_iconst (v := 0) hx hb d_La_law_302 (by decide) ?_
              refine va_lald hx hb hK hP.l 25 1 rfl rfl h01 d_La_law_303 ?_
              refine lv_iload hx hb d_La_law_304 (lv_at hl 0 rfl) ?_
              refine lv_i2l hx hb d_La_law_306 rfl ?_
              refine W.lcmp hx hb d_La_law_307 ?_
              refine lv_if_eq (tgt := 313) hx hb d_La_law_308 (by decide) (fun h => ?_) (fun h => ?_)
              · have vc := vc.1 h
                refine lv_goto (tgt := 1215) hx hb d_La_law_313 (by decide) ?_
                exact hnext (upd ki nv.toNatClampNeg 2) (vp_updL co nv.toNatClampNeg (k1.toInt64 * (thou (k2 + 3 : Int32).toNatClampNeg).toInt64)) pr pa tw (nv + 1) sv pn pl po pf pt ru le li bn ip aw ns ch ma br tl (vp_updL ou 0 ((nv + 1 - 1 : Int32).toInt64)) (upd mki mnv.toNatClampNeg 2) (vp_updL msz mnv.toNatClampNeg (k1.toInt64 * (thou (k2 + 3 : Int32).toNatClampNeg).toInt64)) mle mel mme mal mic mil mio mab mae msa mlc mli mna mva mma mch mre mlv mwr msh 0 (mnv + 1) mns mfa mmo ls H locs vc (lv_sub hl [6, 5, 4, 3, 2] rfl) hP hD hS
              · have vc := vc.2 h
                refine lv_iconst (v := 0) hx hb d_La_law_311 (by decide) ?_
                exact vc.elim
          · exact absurd h (by decide)
def V_L3 (ki : Nat → Int32) (co : Nat → Int64) (pr : Nat → Int32) (pa : Nat → Int32) (tw : Nat → Int32) (nv : Int32) (sv : Int32) (pn : Nat → Int32) (pl : Nat → Int32) (po : Nat → Int32) (pf : Nat → Int32) (pt : Nat → Int32) (ru : Nat → Int32) (le : Nat → Int32) (li : Nat → Int32) (bn : Nat → Int32) (ip : Nat → Int32) (aw : Nat → Int32) (ns : Int32) (ch : Nat → Int32) (ma : Nat → Int32) (br : Nat → Int64) (tl : Int32) (ou : Nat → Int64) (mki : Nat → Int32) (msz : Nat → Int64) (mle : Nat → Int32) (mel : Nat → Int32) (mme : Nat → Int32) (mal : Nat → Int32) (mic : Nat → Int32) (mil : Nat → Int32) (mio : Nat → Int32) (mab : Nat → Int32) (mae : Nat → Int32) (msa : Nat → Int32) (mlc : Nat → Int32) (mli : Nat → Int32) (mna : Nat → Int32) (mva : Nat → Int32) (mma : Nat → Int32) (mch : Nat → Int32) (mre : Nat → Int32) (mlv : Nat → Int32) (mwr : Nat → Int64) (msh : Nat → Int32) (mth : Int32) (mnv : Int32) (mns : Int32) (mfa : Int32) (mmo : Int32) (k1 k2 k3 k4 : Int32) (post : (Nat → Int32) → (Nat → Int64) → (Nat → Int32) → (Nat → Int32) → (Nat → Int32) → Int32 → Int32 → (Nat → Int32) → (Nat → Int32) → (Nat → Int32) → (Nat → Int32) → (Nat → Int32) → (Nat → Int32) → (Nat → Int32) → (Nat → Int32) → (Nat → Int32) → (Nat → Int32) → (Nat → Int32) → Int32 → (Nat → Int32) → (Nat → Int32) → (Nat → Int64) → Int32 → (Nat → Int64) → (Nat → Int32) → (Nat → Int64) → (Nat → Int32) → (Nat → Int32) → (Nat → Int32) → (Nat → Int32) → (Nat → Int32) → (Nat → Int32) → (Nat → Int32) → (Nat → Int32) → (Nat → Int32) → (Nat → Int32) → (Nat → Int32) → (Nat → Int32) → (Nat → Int32) → (Nat → Int32) → (Nat → Int32) → (Nat → Int32) → (Nat → Int32) → (Nat → Int32) → (Nat → Int64) → (Nat → Int32) → Int32 → Int32 → Int32 → Int32 → Int32 → Prop) : Prop :=
  (¬ nv < 0 ∧ ((¬ sText k1 = true → ((¬ mnv < 0 ∧ mnv ≤ 40) ∧ ((¬ sText k1 = true → post ki co pr pa tw nv sv pn pl po pf pt ru le li bn ip aw ns ch ma br tl ou mki msz mle mel mme mal mic mil mio mab mae msa mlc mli mna mva mma mch mre mlv mwr msh 1 mnv mns mfa mmo) ∧ (¬ (¬ sText k1 = true) → ((mnv = 40 → False) ∧ (¬ (mnv = 40) → False)))))) ∧ (¬ (¬ sText k1 = true) → ((¬ nv < 40 → ((¬ mnv < 0 ∧ mnv ≤ 40) ∧ ((¬ sText k1 = true → False) ∧ (¬ (¬ sText k1 = true) → ((mnv = 40 → post ki co pr pa tw nv sv pn pl po pf pt ru le li bn ip aw ns ch ma br tl ou mki msz mle mel mme mal mic mil mio mab mae msa mlc mli mna mva mma mch mre mlv mwr msh 2 mnv mns mfa mmo) ∧ (¬ (mnv = 40) → False)))))) ∧ (¬ (¬ nv < 40) → ((¬ mnv < 0 ∧ mnv ≤ 40) ∧ ((¬ sText k1 = true → False) ∧ (¬ (¬ sText k1 = true) → ((mnv = 40 → False) ∧ (¬ (mnv = 40) → (((lg_cmp ((vp_updL ou 0 ((nv + 1 - 1 : Int32).toInt64)) (0 : Int32).toNatClampNeg) ((mnv + 1 - 1 : Int32).toInt64)) = 0 → post (upd ki nv.toNatClampNeg 3) (vp_updL co nv.toNatClampNeg k1.toInt64) pr pa tw (nv + 1) sv pn pl po pf pt ru le li bn ip aw ns ch ma br tl (vp_updL ou 0 ((nv + 1 - 1 : Int32).toInt64)) (upd mki mnv.toNatClampNeg 3) (vp_updL msz mnv.toNatClampNeg k1.toInt64) mle mel mme mal mic mil mio mab mae msa mlc mli mna mva mma mch mre mlv mwr msh 0 (mnv + 1) mns mfa mmo) ∧ (¬ (lg_cmp ((vp_updL ou 0 ((nv + 1 - 1 : Int32).toInt64)) (0 : Int32).toNatClampNeg) ((mnv + 1 - 1 : Int32).toInt64)) = 0 → False))))))))))))
set_option maxHeartbeats 4000000 in
set_option maxRecDepth 100000 in
theorem g_L3 {p : Program} {l : Launch} {e : Env} {R : Room} {s : State} {m : MethodId} {args : Array Value} {below : List Frame} {meth : Method} {c : Code} {H : Heap} {locs : List Loc} {cells slots : Nat} {Q : State → Prop} {ls : Array Slot} {A : Nat → Prop} (hls : l.stackTraces = false) (S : CallFix p m c code 7 s args W0 "SchemaJudgeLaw") (hN : eN s) (hRf : 9 ≤ R.frames) (hRl : 157 ≤ R.locals) (hRc : cells + 1 ≤ R.cells ∧ slots + 6 ≤ R.slots) (D : va_G) (a b : Nat → Nat) (cI cJ cZ : ClassId) (ki : Nat → Int32) (co : Nat → Int64) (pr : Nat → Int32) (pa : Nat → Int32) (tw : Nat → Int32) (nv : Int32) (sv : Int32) (pn : Nat → Int32) (pl : Nat → Int32) (po : Nat → Int32) (pf : Nat → Int32) (pt : Nat → Int32) (ru : Nat → Int32) (le : Nat → Int32) (li : Nat → Int32) (bn : Nat → Int32) (ip : Nat → Int32) (aw : Nat → Int32) (ns : Int32) (ch : Nat → Int32) (ma : Nat → Int32) (br : Nat → Int64) (tl : Int32) (ou : Nat → Int64) (mki : Nat → Int32) (msz : Nat → Int64) (mle : Nat → Int32) (mel : Nat → Int32) (mme : Nat → Int32) (mal : Nat → Int32) (mic : Nat → Int32) (mil : Nat → Int32) (mio : Nat → Int32) (mab : Nat → Int32) (mae : Nat → Int32) (msa : Nat → Int32) (mlc : Nat → Int32) (mli : Nat → Int32) (mna : Nat → Int32) (mva : Nat → Int32) (mma : Nat → Int32) (mch : Nat → Int32) (mre : Nat → Int32) (mlv : Nat → Int32) (mwr : Nat → Int64) (msh : Nat → Int32) (mth : Int32) (mnv : Int32) (mns : Int32) (mfa : Int32) (mmo : Int32) (k1 k2 k3 k4 : Int32) (sc L : Nat) (xs : Nat → Int32) (i : Int32) (hXs : va_X sc L xs s s.heap) (hbl : sc < s.heap.size) (hbA : ¬ A sc) (hi1 : vp_in (i + 1) L) (e1 : xs (i + 1 : Int32).toNatClampNeg = k1) (hi2 : vp_in (i + 2) L) (e2 : xs (i + 2 : Int32).toNatClampNeg = k2) (hi3 : vp_in (i + 3) L) (e3 : xs (i + 3 : Int32).toNatClampNeg = k3) (hi4 : vp_in (i + 4) L) (e4 : xs (i + 4 : Int32).toNatClampNeg = k4) (hK : va_K D vwCl (tyA cI cJ cZ) s) (hP : va_P D vwCl ((wX a ++ wV a cI cJ ki co pr pa tw nv sv ++ wP a cI cZ pn pl po pf pt ++ wS a cI ru le li bn ip aw ns ++ wL a ++ wJ a cI cJ ch ma br tl ++ wO a cJ ou) ++ (wM b cI cJ cZ mki msz mle mel mme mal mic mil mio mab mae msa mlc mli mna mva mma mch mre mlv mwr msh mth mnv mns mfa mmo)) H) (hD : va_D A ((wX a ++ wV a cI cJ ki co pr pa tw nv sv ++ wP a cI cZ pn pl po pf pt ++ wS a cI ru le li bn ip aw ns ++ wL a ++ wJ a cI cJ ch ma br tl ++ wO a cJ ou) ++ (wM b cI cJ cZ mki msz mle mel mme mal mic mil mio mab mae msa mlc mli mna mva mma mch mre mlv mwr msh mth mnv mns mfa mmo))) (hA : ∀ q, s.heap.size ≤ q → A q) (hS : va_S A s.heap H locs) (hX : eX A s s.heap) (hl : lv_has ls 7 [(4, .int i), (3, .ref (a 25)), (2, .ref (b 0)), (1, .ref (a 24)), (0, .ref sc)]) {post : (Nat → Int32) → (Nat → Int64) → (Nat → Int32) → (Nat → Int32) → (Nat → Int32) → Int32 → Int32 → (Nat → Int32) → (Nat → Int32) → (Nat → Int32) → (Nat → Int32) → (Nat → Int32) → (Nat → Int32) → (Nat → Int32) → (Nat → Int32) → (Nat → Int32) → (Nat → Int32) → (Nat → Int32) → Int32 → (Nat → Int32) → (Nat → Int32) → (Nat → Int64) → Int32 → (Nat → Int64) → (Nat → Int32) → (Nat → Int64) → (Nat → Int32) → (Nat → Int32) → (Nat → Int32) → (Nat → Int32) → (Nat → Int32) → (Nat → Int32) → (Nat → Int32) → (Nat → Int32) → (Nat → Int32) → (Nat → Int32) → (Nat → Int32) → (Nat → Int32) → (Nat → Int32) → (Nat → Int32) → (Nat → Int32) → (Nat → Int32) → (Nat → Int32) → (Nat → Int32) → (Nat → Int64) → (Nat → Int32) → Int32 → Int32 → Int32 → Int32 → Int32 → Prop} (vc : V_L3 ki co pr pa tw nv sv pn pl po pf pt ru le li bn ip aw ns ch ma br tl ou mki msz mle mel mme mal mic mil mio mab mae msa mlc mli mna mva mma mch mre mlv mwr msh mth mnv mns mfa mmo k1 k2 k3 k4 post)
    (hnext : ∀ (ki : Nat → Int32) (co : Nat → Int64) (pr : Nat → Int32) (pa : Nat → Int32) (tw : Nat → Int32) (nv : Int32) (sv : Int32) (pn : Nat → Int32) (pl : Nat → Int32) (po : Nat → Int32) (pf : Nat → Int32) (pt : Nat → Int32) (ru : Nat → Int32) (le : Nat → Int32) (li : Nat → Int32) (bn : Nat → Int32) (ip : Nat → Int32) (aw : Nat → Int32) (ns : Int32) (ch : Nat → Int32) (ma : Nat → Int32) (br : Nat → Int64) (tl : Int32) (ou : Nat → Int64) (mki : Nat → Int32) (msz : Nat → Int64) (mle : Nat → Int32) (mel : Nat → Int32) (mme : Nat → Int32) (mal : Nat → Int32) (mic : Nat → Int32) (mil : Nat → Int32) (mio : Nat → Int32) (mab : Nat → Int32) (mae : Nat → Int32) (msa : Nat → Int32) (mlc : Nat → Int32) (mli : Nat → Int32) (mna : Nat → Int32) (mva : Nat → Int32) (mma : Nat → Int32) (mch : Nat → Int32) (mre : Nat → Int32) (mlv : Nat → Int32) (mwr : Nat → Int64) (msh : Nat → Int32) (mth : Int32) (mnv : Int32) (mns : Int32) (mfa : Int32) (mmo : Int32) (ls : Array Slot) (H : Heap) (locs : List Loc), post ki co pr pa tw nv sv pn pl po pf pt ru le li bn ip aw ns ch ma br tl ou mki msz mle mel mme mal mic mil mio mab mae msa mlc mli mna mva mma mch mre mlv mwr msh mth mnv mns mfa mmo → lv_has ls 7 [(0, .ref sc), (1, .ref (a 24)), (2, .ref (b 0)), (3, .ref (a 25)), (4, .int i)] → va_P D vwCl ((wX a ++ wV a cI cJ ki co pr pa tw nv sv ++ wP a cI cZ pn pl po pf pt ++ wS a cI ru le li bn ip aw ns ++ wL a ++ wJ a cI cJ ch ma br tl ++ wO a cJ ou) ++ (wM b cI cJ cZ mki msz mle mel mme mal mic mil mio mab mae msa mlc mli mna mva mma mch mre mlv mwr msh mth mnv mns mfa mmo)) H → va_D A ((wX a ++ wV a cI cJ ki co pr pa tw nv sv ++ wP a cI cZ pn pl po pf pt ++ wS a cI ru le li bn ip aw ns ++ wL a ++ wJ a cI cJ ch ma br tl ++ wO a cJ ou) ++ (wM b cI cJ cZ mki msz mle mel mme mal mic mil mio mab mae msa mlc mli mna mva mma mch mre mlv mwr msh mth mnv mns mfa mmo)) → va_S A s.heap H locs → W p l e R s m args below meth c H locs (cells + 1) (slots + 6) Q (F0 m 1215 ls [])) : W p l e R s m args below meth c H locs cells slots Q (F0 m 316 ls []) := by
  have hx := S.1
  have hb := S.2.1
  have hown := S.2.2.2.1
  have hts := S.2.2.2.2
  have h01 : vp_in (0 : Int32) 1 := vp_in_nI (n := 0) (by decide) (by decide)
  unfold V_L3 at vc
  refine lv_aload_n hx hb d_La_law_316 rfl (lv_at hl 3 rfl) ?_
  refine lv_aload_n hx hb d_La_law_317 rfl (lv_at hl 4 rfl) ?_
  refine lv_iload hx hb d_La_law_318 (lv_at hl 0 rfl) ?_
  refine lv_iconst (v := 1) hx hb d_La_law_320 (by decide) ?_
  refine lv_iadd hx hb d_La_law_321 ?_
  refine va_sld hx hb hXs hbl hbA hS hi1 d_La_law_322 ?_
  rw [e1]
  refine lv_aload_n hx hb d_La_law_323 rfl (lv_at hl 1 rfl) ?_
  obtain ⟨hpre, vc⟩ := vc
  by_cases hv1 : ¬ sText k1 = true
  · have vc := vc.1 hv1
    refine hc_1 (As := [.ref (a 24), .int k1, .ref (a 25)]) (rest := []) S (c_La_text_1 l hls D a cI cJ cZ ki co pr pa tw nv sv pn pl po pf pt ru le li bn ip aw ns ch ma br tl ou k1 hpre hv1) kw_La_text s_La_text o_La ml_La_95 hd_La_text (Nat.le_trans (by decide) hRf) (Nat.le_trans (by decide) hRl) hRc hK hP hD hS hA hX hN hl.1 rfl (Nat.le_of_ble_eq_true rfl) d_La_law_324 (fun _ H locs _ hP hD hS => ?_)
    refine lv_istore hx hb d_La_law_327 hl (by decide) (lv' := [(5, .int 1), (4, .int i), (3, .ref (a 25)), (2, .ref (b 0)), (1, .ref (a 24)), (0, .ref sc)]) rfl (fun ls hl => ?_)
    refine lv_aload_n hx hb d_La_law_329 rfl (lv_at hl 3 rfl) ?_
    refine lv_aload_n hx hb d_La_law_330 rfl (lv_at hl 5 rfl) ?_
    refine lv_iload hx hb d_La_law_331 (lv_at hl 1 rfl) ?_
    refine lv_iconst (v := 1) hx hb d_La_law_333 (by decide) ?_
    refine lv_iadd hx hb d_La_law_334 ?_
    refine va_sld hx hb hXs hbl hbA hS hi1 d_La_law_335 ?_
    rw [e1]
    obtain ⟨hpre, vc⟩ := vc
    by_cases hv1 : ¬ sText k1 = true
    · have vc := vc.1 hv1
      refine wc_2 (As := [.int k1]) (rest := []) S (c_Mo_text_1 l D b cI cJ cZ mki msz mle mel mme mal mic mil mio mab mae msa mlc mli mna mva mma mch mre mlv mwr msh mth mnv mns mfa mmo k1 hpre hv1) k_Mo_text i_Mo_text e_Mo_text o_Mo ml_La_97 hd_Mo_text (Nat.le_trans (by decide) hRf) (Nat.le_trans (by decide) hRl) hRc (va_recv hK hP.r (q0 := 0) (ci := 6) rfl rfl) hK hP hD hS hA hl.1 rfl (Nat.le_of_ble_eq_true rfl) d_La_law_336 (fun _ H locs _ hP hD hS => ?_)
      refine lv_istore hx hb d_La_law_339 hl (by decide) (lv' := [(6, .int 0), (5, .int 1), (4, .int i), (3, .ref (a 25)), (2, .ref (b 0)), (1, .ref (a 24)), (0, .ref sc)]) rfl (fun ls hl => ?_)
      refine lv_aload_n hx hb d_La_law_341 rfl (lv_at hl 4 rfl) ?_
      refine pc_V (As := []) (rest := []) S (c_Mo_thrown l D b cI cJ cZ mki msz mle mel mme mal mic mil mio mab mae msa mlc mli mna mva mma mch mre mlv mwr msh 1 mnv mns mfa mmo) wB_blind k_Mo_thrown i_Mo_thrown e_Mo_thrown o_Mo ml_La_84 hd_Mo_thrown (Nat.le_trans (by decide) hRf) (Nat.le_trans (by decide) hRl) hRc (va_recv hK hP.r (q0 := 0) (ci := 6) rfl rfl) (wB_at hP.r hK) hl.1 rfl (Nat.le_of_ble_eq_true rfl) d_La_law_342 ?_
      refine lv_iload hx hb d_La_law_345 (lv_at hl 1 rfl) ?_
      refine lv_icmp_eq (tgt := 352) hx hb d_La_law_347 (by decide) (fun h => ?_) (fun h => ?_)
      · skip
        refine lv_iload hx hb d_La_law_352 (lv_at hl 1 rfl) ?_
        refine lv_if_ne (tgt := 369) hx hb d_La_law_354 (by decide) (fun h => ?_) (fun h => ?_)
        · skip
          refine lv_goto (tgt := 1215) hx hb d_La_law_369 (by decide) ?_
          exact hnext ki co pr pa tw nv sv pn pl po pf pt ru le li bn ip aw ns ch ma br tl ou mki msz mle mel mme mal mic mil mio mab mae msa mlc mli mna mva mma mch mre mlv mwr msh 1 mnv mns mfa mmo ls H locs vc (lv_sub hl [6, 5, 4, 3, 2] rfl) hP hD hS
        · exact absurd h (by decide)
      · exact absurd h (by decide)
    · have vc := vc.2 hv1
      by_cases hv2 : mnv = 40
      · have vc := vc.1 hv2
        refine wc_2 (As := [.int k1]) (rest := []) S (c_Mo_text_2 l D b cI cJ cZ mki msz mle mel mme mal mic mil mio mab mae msa mlc mli mna mva mma mch mre mlv mwr msh mth mnv mns mfa mmo k1 hpre hv1 hv2) k_Mo_text i_Mo_text e_Mo_text o_Mo ml_La_97 hd_Mo_text (Nat.le_trans (by decide) hRf) (Nat.le_trans (by decide) hRl) hRc (va_recv hK hP.r (q0 := 0) (ci := 6) rfl rfl) hK hP hD hS hA hl.1 rfl (Nat.le_of_ble_eq_true rfl) d_La_law_336 (fun _ H locs _ hP hD hS => ?_)
        refine lv_istore hx hb d_La_law_339 hl (by decide) (lv' := [(6, .int 0), (5, .int 1), (4, .int i), (3, .ref (a 25)), (2, .ref (b 0)), (1, .ref (a 24)), (0, .ref sc)]) rfl (fun ls hl => ?_)
        refine lv_aload_n hx hb d_La_law_341 rfl (lv_at hl 4 rfl) ?_
        refine pc_V (As := []) (rest := []) S (c_Mo_thrown l D b cI cJ cZ mki msz mle mel mme mal mic mil mio mab mae msa mlc mli mna mva mma mch mre mlv mwr msh 2 mnv mns mfa mmo) wB_blind k_Mo_thrown i_Mo_thrown e_Mo_thrown o_Mo ml_La_84 hd_Mo_thrown (Nat.le_trans (by decide) hRf) (Nat.le_trans (by decide) hRl) hRc (va_recv hK hP.r (q0 := 0) (ci := 6) rfl rfl) (wB_at hP.r hK) hl.1 rfl (Nat.le_of_ble_eq_true rfl) d_La_law_342 ?_
        refine lv_iload hx hb d_La_law_345 (lv_at hl 1 rfl) ?_
        refine lv_icmp_eq (tgt := 352) hx hb d_La_law_347 (by decide) (fun h => ?_) (fun h => ?_)
        · exact absurd h (by decide)
        · skip
          refine lv_iconst (v := 0) hx hb d_La_law_350 (by decide) ?_
          exact vc.elim
      · have vc := vc.2 hv2
        refine wc_2 (As := [.int k1]) (rest := []) S (c_Mo_text_3 l D b cI cJ cZ mki msz mle mel mme mal mic mil mio mab mae msa mlc mli mna mva mma mch mre mlv mwr msh mth mnv mns mfa mmo k1 hpre hv1 hv2) k_Mo_text i_Mo_text e_Mo_text o_Mo ml_La_97 hd_Mo_text (Nat.le_trans (by decide) hRf) (Nat.le_trans (by decide) hRl) hRc (va_recv hK hP.r (q0 := 0) (ci := 6) rfl rfl) hK hP hD hS hA hl.1 rfl (Nat.le_of_ble_eq_true rfl) d_La_law_336 (fun _ H locs _ hP hD hS => ?_)
        refine lv_istore hx hb d_La_law_339 hl (by decide) (lv' := [(6, .int (mnv + 1 - 1)), (5, .int 1), (4, .int i), (3, .ref (a 25)), (2, .ref (b 0)), (1, .ref (a 24)), (0, .ref sc)]) rfl (fun ls hl => ?_)
        refine lv_aload_n hx hb d_La_law_341 rfl (lv_at hl 4 rfl) ?_
        refine pc_V (As := []) (rest := []) S (c_Mo_thrown l D b cI cJ cZ (upd mki mnv.toNatClampNeg 3) (vp_updL msz mnv.toNatClampNeg k1.toInt64) mle mel mme mal mic mil mio mab mae msa mlc mli mna mva mma mch mre mlv mwr msh 0 (mnv + 1) mns mfa mmo) wB_blind k_Mo_thrown i_Mo_thrown e_Mo_thrown o_Mo ml_La_84 hd_Mo_thrown (Nat.le_trans (by decide) hRf) (Nat.le_trans (by decide) hRl) hRc (va_recv hK hP.r (q0 := 0) (ci := 6) rfl rfl) (wB_at hP.r hK) hl.1 rfl (Nat.le_of_ble_eq_true rfl) d_La_law_342 ?_
        refine lv_iload hx hb d_La_law_345 (lv_at hl 1 rfl) ?_
        refine lv_icmp_eq (tgt := 352) hx hb d_La_law_347 (by decide) (fun h => ?_) (fun h => ?_)
        · exact absurd h (by decide)
        · skip
          refine lv_iconst (v := 0) hx hb d_La_law_350 (by decide) ?_
          exact vc.elim
  · have vc := vc.2 hv1
    by_cases hv2 : ¬ nv < 40
    · have vc := vc.1 hv2
      refine hc_1 (As := [.ref (a 24), .int k1, .ref (a 25)]) (rest := []) S (c_La_text_2 l hls D a cI cJ cZ ki co pr pa tw nv sv pn pl po pf pt ru le li bn ip aw ns ch ma br tl ou k1 hpre hv1 hv2) kw_La_text s_La_text o_La ml_La_95 hd_La_text (Nat.le_trans (by decide) hRf) (Nat.le_trans (by decide) hRl) hRc hK hP hD hS hA hX hN hl.1 rfl (Nat.le_of_ble_eq_true rfl) d_La_law_324 (fun _ H locs _ hP hD hS => ?_)
      refine lv_istore hx hb d_La_law_327 hl (by decide) (lv' := [(5, .int 2), (4, .int i), (3, .ref (a 25)), (2, .ref (b 0)), (1, .ref (a 24)), (0, .ref sc)]) rfl (fun ls hl => ?_)
      refine lv_aload_n hx hb d_La_law_329 rfl (lv_at hl 3 rfl) ?_
      refine lv_aload_n hx hb d_La_law_330 rfl (lv_at hl 5 rfl) ?_
      refine lv_iload hx hb d_La_law_331 (lv_at hl 1 rfl) ?_
      refine lv_iconst (v := 1) hx hb d_La_law_333 (by decide) ?_
      refine lv_iadd hx hb d_La_law_334 ?_
      refine va_sld hx hb hXs hbl hbA hS hi1 d_La_law_335 ?_
      rw [e1]
      obtain ⟨hpre, vc⟩ := vc
      by_cases hv1 : ¬ sText k1 = true
      · have vc := vc.1 hv1
        refine wc_2 (As := [.int k1]) (rest := []) S (c_Mo_text_1 l D b cI cJ cZ mki msz mle mel mme mal mic mil mio mab mae msa mlc mli mna mva mma mch mre mlv mwr msh mth mnv mns mfa mmo k1 hpre hv1) k_Mo_text i_Mo_text e_Mo_text o_Mo ml_La_97 hd_Mo_text (Nat.le_trans (by decide) hRf) (Nat.le_trans (by decide) hRl) hRc (va_recv hK hP.r (q0 := 0) (ci := 6) rfl rfl) hK hP hD hS hA hl.1 rfl (Nat.le_of_ble_eq_true rfl) d_La_law_336 (fun _ H locs _ hP hD hS => ?_)
        refine lv_istore hx hb d_La_law_339 hl (by decide) (lv' := [(6, .int 0), (5, .int 2), (4, .int i), (3, .ref (a 25)), (2, .ref (b 0)), (1, .ref (a 24)), (0, .ref sc)]) rfl (fun ls hl => ?_)
        refine lv_aload_n hx hb d_La_law_341 rfl (lv_at hl 4 rfl) ?_
        refine pc_V (As := []) (rest := []) S (c_Mo_thrown l D b cI cJ cZ mki msz mle mel mme mal mic mil mio mab mae msa mlc mli mna mva mma mch mre mlv mwr msh 1 mnv mns mfa mmo) wB_blind k_Mo_thrown i_Mo_thrown e_Mo_thrown o_Mo ml_La_84 hd_Mo_thrown (Nat.le_trans (by decide) hRf) (Nat.le_trans (by decide) hRl) hRc (va_recv hK hP.r (q0 := 0) (ci := 6) rfl rfl) (wB_at hP.r hK) hl.1 rfl (Nat.le_of_ble_eq_true rfl) d_La_law_342 ?_
        refine lv_iload hx hb d_La_law_345 (lv_at hl 1 rfl) ?_
        refine lv_icmp_eq (tgt := 352) hx hb d_La_law_347 (by decide) (fun h => ?_) (fun h => ?_)
        · exact absurd h (by decide)
        · skip
          refine lv_iconst (v := 0) hx hb d_La_law_350 (by decide) ?_
          exact vc.elim
      · have vc := vc.2 hv1
        by_cases hv2 : mnv = 40
        · have vc := vc.1 hv2
          refine wc_2 (As := [.int k1]) (rest := []) S (c_Mo_text_2 l D b cI cJ cZ mki msz mle mel mme mal mic mil mio mab mae msa mlc mli mna mva mma mch mre mlv mwr msh mth mnv mns mfa mmo k1 hpre hv1 hv2) k_Mo_text i_Mo_text e_Mo_text o_Mo ml_La_97 hd_Mo_text (Nat.le_trans (by decide) hRf) (Nat.le_trans (by decide) hRl) hRc (va_recv hK hP.r (q0 := 0) (ci := 6) rfl rfl) hK hP hD hS hA hl.1 rfl (Nat.le_of_ble_eq_true rfl) d_La_law_336 (fun _ H locs _ hP hD hS => ?_)
          refine lv_istore hx hb d_La_law_339 hl (by decide) (lv' := [(6, .int 0), (5, .int 2), (4, .int i), (3, .ref (a 25)), (2, .ref (b 0)), (1, .ref (a 24)), (0, .ref sc)]) rfl (fun ls hl => ?_)
          refine lv_aload_n hx hb d_La_law_341 rfl (lv_at hl 4 rfl) ?_
          refine pc_V (As := []) (rest := []) S (c_Mo_thrown l D b cI cJ cZ mki msz mle mel mme mal mic mil mio mab mae msa mlc mli mna mva mma mch mre mlv mwr msh 2 mnv mns mfa mmo) wB_blind k_Mo_thrown i_Mo_thrown e_Mo_thrown o_Mo ml_La_84 hd_Mo_thrown (Nat.le_trans (by decide) hRf) (Nat.le_trans (by decide) hRl) hRc (va_recv hK hP.r (q0 := 0) (ci := 6) rfl rfl) (wB_at hP.r hK) hl.1 rfl (Nat.le_of_ble_eq_true rfl) d_La_law_342 ?_
          refine lv_iload hx hb d_La_law_345 (lv_at hl 1 rfl) ?_
          refine lv_icmp_eq (tgt := 352) hx hb d_La_law_347 (by decide) (fun h => ?_) (fun h => ?_)
          · skip
            refine lv_iload hx hb d_La_law_352 (lv_at hl 1 rfl) ?_
            refine lv_if_ne (tgt := 369) hx hb d_La_law_354 (by decide) (fun h => ?_) (fun h => ?_)
            · skip
              refine lv_goto (tgt := 1215) hx hb d_La_law_369 (by decide) ?_
              exact hnext ki co pr pa tw nv sv pn pl po pf pt ru le li bn ip aw ns ch ma br tl ou mki msz mle mel mme mal mic mil mio mab mae msa mlc mli mna mva mma mch mre mlv mwr msh 2 mnv mns mfa mmo ls H locs vc (lv_sub hl [6, 5, 4, 3, 2] rfl) hP hD hS
            · exact absurd h (by decide)
          · exact absurd h (by decide)
        · have vc := vc.2 hv2
          refine wc_2 (As := [.int k1]) (rest := []) S (c_Mo_text_3 l D b cI cJ cZ mki msz mle mel mme mal mic mil mio mab mae msa mlc mli mna mva mma mch mre mlv mwr msh mth mnv mns mfa mmo k1 hpre hv1 hv2) k_Mo_text i_Mo_text e_Mo_text o_Mo ml_La_97 hd_Mo_text (Nat.le_trans (by decide) hRf) (Nat.le_trans (by decide) hRl) hRc (va_recv hK hP.r (q0 := 0) (ci := 6) rfl rfl) hK hP hD hS hA hl.1 rfl (Nat.le_of_ble_eq_true rfl) d_La_law_336 (fun _ H locs _ hP hD hS => ?_)
          refine lv_istore hx hb d_La_law_339 hl (by decide) (lv' := [(6, .int (mnv + 1 - 1)), (5, .int 2), (4, .int i), (3, .ref (a 25)), (2, .ref (b 0)), (1, .ref (a 24)), (0, .ref sc)]) rfl (fun ls hl => ?_)
          refine lv_aload_n hx hb d_La_law_341 rfl (lv_at hl 4 rfl) ?_
          refine pc_V (As := []) (rest := []) S (c_Mo_thrown l D b cI cJ cZ (upd mki mnv.toNatClampNeg 3) (vp_updL msz mnv.toNatClampNeg k1.toInt64) mle mel mme mal mic mil mio mab mae msa mlc mli mna mva mma mch mre mlv mwr msh 0 (mnv + 1) mns mfa mmo) wB_blind k_Mo_thrown i_Mo_thrown e_Mo_thrown o_Mo ml_La_84 hd_Mo_thrown (Nat.le_trans (by decide) hRf) (Nat.le_trans (by decide) hRl) hRc (va_recv hK hP.r (q0 := 0) (ci := 6) rfl rfl) (wB_at hP.r hK) hl.1 rfl (Nat.le_of_ble_eq_true rfl) d_La_law_342 ?_
          refine lv_iload hx hb d_La_law_345 (lv_at hl 1 rfl) ?_
          refine lv_icmp_eq (tgt := 352) hx hb d_La_law_347 (by decide) (fun h => ?_) (fun h => ?_)
          · exact absurd h (by decide)
          · skip
            refine lv_iconst (v := 0) hx hb d_La_law_350 (by decide) ?_
            exact vc.elim
    · have vc := vc.2 hv2
      refine hc_1 (As := [.ref (a 24), .int k1, .ref (a 25)]) (rest := []) S (c_La_text_3 l hls D a cI cJ cZ ki co pr pa tw nv sv pn pl po pf pt ru le li bn ip aw ns ch ma br tl ou k1 hpre hv1 hv2) kw_La_text s_La_text o_La ml_La_95 hd_La_text (Nat.le_trans (by decide) hRf) (Nat.le_trans (by decide) hRl) hRc hK hP hD hS hA hX hN hl.1 rfl (Nat.le_of_ble_eq_true rfl) d_La_law_324 (fun _ H locs _ hP hD hS => ?_)
      refine lv_istore hx hb d_La_law_327 hl (by decide) (lv' := [(5, .int 0), (4, .int i), (3, .ref (a 25)), (2, .ref (b 0)), (1, .ref (a 24)), (0, .ref sc)]) rfl (fun ls hl => ?_)
      refine lv_aload_n hx hb d_La_law_329 rfl (lv_at hl 3 rfl) ?_
      refine lv_aload_n hx hb d_La_law_330 rfl (lv_at hl 5 rfl) ?_
      refine lv_iload hx hb d_La_law_331 (lv_at hl 1 rfl) ?_
      refine lv_iconst (v := 1) hx hb d_La_law_333 (by decide) ?_
      refine lv_iadd hx hb d_La_law_334 ?_
      refine va_sld hx hb hXs hbl hbA hS hi1 d_La_law_335 ?_
      rw [e1]
      obtain ⟨hpre, vc⟩ := vc
      by_cases hv1 : ¬ sText k1 = true
      · have vc := vc.1 hv1
        refine wc_2 (As := [.int k1]) (rest := []) S (c_Mo_text_1 l D b cI cJ cZ mki msz mle mel mme mal mic mil mio mab mae msa mlc mli mna mva mma mch mre mlv mwr msh mth mnv mns mfa mmo k1 hpre hv1) k_Mo_text i_Mo_text e_Mo_text o_Mo ml_La_97 hd_Mo_text (Nat.le_trans (by decide) hRf) (Nat.le_trans (by decide) hRl) hRc (va_recv hK hP.r (q0 := 0) (ci := 6) rfl rfl) hK hP hD hS hA hl.1 rfl (Nat.le_of_ble_eq_true rfl) d_La_law_336 (fun _ H locs _ hP hD hS => ?_)
        refine lv_istore hx hb d_La_law_339 hl (by decide) (lv' := [(6, .int 0), (5, .int 0), (4, .int i), (3, .ref (a 25)), (2, .ref (b 0)), (1, .ref (a 24)), (0, .ref sc)]) rfl (fun ls hl => ?_)
        refine lv_aload_n hx hb d_La_law_341 rfl (lv_at hl 4 rfl) ?_
        refine pc_V (As := []) (rest := []) S (c_Mo_thrown l D b cI cJ cZ mki msz mle mel mme mal mic mil mio mab mae msa mlc mli mna mva mma mch mre mlv mwr msh 1 mnv mns mfa mmo) wB_blind k_Mo_thrown i_Mo_thrown e_Mo_thrown o_Mo ml_La_84 hd_Mo_thrown (Nat.le_trans (by decide) hRf) (Nat.le_trans (by decide) hRl) hRc (va_recv hK hP.r (q0 := 0) (ci := 6) rfl rfl) (wB_at hP.r hK) hl.1 rfl (Nat.le_of_ble_eq_true rfl) d_La_law_342 ?_
        refine lv_iload hx hb d_La_law_345 (lv_at hl 1 rfl) ?_
        refine lv_icmp_eq (tgt := 352) hx hb d_La_law_347 (by decide) (fun h => ?_) (fun h => ?_)
        · exact absurd h (by decide)
        · skip
          refine lv_iconst (v := 0) hx hb d_La_law_350 (by decide) ?_
          exact vc.elim
      · have vc := vc.2 hv1
        by_cases hv2 : mnv = 40
        · have vc := vc.1 hv2
          refine wc_2 (As := [.int k1]) (rest := []) S (c_Mo_text_2 l D b cI cJ cZ mki msz mle mel mme mal mic mil mio mab mae msa mlc mli mna mva mma mch mre mlv mwr msh mth mnv mns mfa mmo k1 hpre hv1 hv2) k_Mo_text i_Mo_text e_Mo_text o_Mo ml_La_97 hd_Mo_text (Nat.le_trans (by decide) hRf) (Nat.le_trans (by decide) hRl) hRc (va_recv hK hP.r (q0 := 0) (ci := 6) rfl rfl) hK hP hD hS hA hl.1 rfl (Nat.le_of_ble_eq_true rfl) d_La_law_336 (fun _ H locs _ hP hD hS => ?_)
          refine lv_istore hx hb d_La_law_339 hl (by decide) (lv' := [(6, .int 0), (5, .int 0), (4, .int i), (3, .ref (a 25)), (2, .ref (b 0)), (1, .ref (a 24)), (0, .ref sc)]) rfl (fun ls hl => ?_)
          refine lv_aload_n hx hb d_La_law_341 rfl (lv_at hl 4 rfl) ?_
          refine pc_V (As := []) (rest := []) S (c_Mo_thrown l D b cI cJ cZ mki msz mle mel mme mal mic mil mio mab mae msa mlc mli mna mva mma mch mre mlv mwr msh 2 mnv mns mfa mmo) wB_blind k_Mo_thrown i_Mo_thrown e_Mo_thrown o_Mo ml_La_84 hd_Mo_thrown (Nat.le_trans (by decide) hRf) (Nat.le_trans (by decide) hRl) hRc (va_recv hK hP.r (q0 := 0) (ci := 6) rfl rfl) (wB_at hP.r hK) hl.1 rfl (Nat.le_of_ble_eq_true rfl) d_La_law_342 ?_
          refine lv_iload hx hb d_La_law_345 (lv_at hl 1 rfl) ?_
          refine lv_icmp_eq (tgt := 352) hx hb d_La_law_347 (by decide) (fun h => ?_) (fun h => ?_)
          · exact absurd h (by decide)
          · skip
            refine lv_iconst (v := 0) hx hb d_La_law_350 (by decide) ?_
            exact vc.elim
        · have vc := vc.2 hv2
          refine wc_2 (As := [.int k1]) (rest := []) S (c_Mo_text_3 l D b cI cJ cZ mki msz mle mel mme mal mic mil mio mab mae msa mlc mli mna mva mma mch mre mlv mwr msh mth mnv mns mfa mmo k1 hpre hv1 hv2) k_Mo_text i_Mo_text e_Mo_text o_Mo ml_La_97 hd_Mo_text (Nat.le_trans (by decide) hRf) (Nat.le_trans (by decide) hRl) hRc (va_recv hK hP.r (q0 := 0) (ci := 6) rfl rfl) hK hP hD hS hA hl.1 rfl (Nat.le_of_ble_eq_true rfl) d_La_law_336 (fun _ H locs _ hP hD hS => ?_)
          refine lv_istore hx hb d_La_law_339 hl (by decide) (lv' := [(6, .int (mnv + 1 - 1)), (5, .int 0), (4, .int i), (3, .ref (a 25)), (2, .ref (b 0)), (1, .ref (a 24)), (0, .ref sc)]) rfl (fun ls hl => ?_)
          refine lv_aload_n hx hb d_La_law_341 rfl (lv_at hl 4 rfl) ?_
          refine pc_V (As := []) (rest := []) S (c_Mo_thrown l D b cI cJ cZ (upd mki mnv.toNatClampNeg 3) (vp_updL msz mnv.toNatClampNeg k1.toInt64) mle mel mme mal mic mil mio mab mae msa mlc mli mna mva mma mch mre mlv mwr msh 0 (mnv + 1) mns mfa mmo) wB_blind k_Mo_thrown i_Mo_thrown e_Mo_thrown o_Mo ml_La_84 hd_Mo_thrown (Nat.le_trans (by decide) hRf) (Nat.le_trans (by decide) hRl) hRc (va_recv hK hP.r (q0 := 0) (ci := 6) rfl rfl) (wB_at hP.r hK) hl.1 rfl (Nat.le_of_ble_eq_true rfl) d_La_law_342 ?_
          refine lv_iload hx hb d_La_law_345 (lv_at hl 1 rfl) ?_
          refine lv_icmp_eq (tgt := 352) hx hb d_La_law_347 (by decide) (fun h => ?_) (fun h => ?_)
          · skip
            refine lv_iload hx hb d_La_law_352 (lv_at hl 1 rfl) ?_
            refine lv_if_ne (tgt := 369) hx hb d_La_law_354 (by decide) (fun h => ?_) (fun h => ?_)
            · exact absurd h (by decide)
            · skip
              refine lv_aload_n hx hb d_La_law_357 rfl (lv_at hl 3 rfl) ?_
              refine lv_iconst (v := 0) hx hb d_La_law_358 (by decide) ?_
              refine va_lald hx hb hK hP.l 25 1 rfl rfl h01 d_La_law_359 ?_
              refine lv_iload hx hb d_La_law_360 (lv_at hl 0 rfl) ?_
              refine lv_i2l hx hb d_La_law_362 rfl ?_
              refine W.lcmp hx hb d_La_law_363 ?_
              refine lv_if_eq (tgt := 369) hx hb d_La_law_364 (by decide) (fun h => ?_) (fun h => ?_)
              · have vc := vc.1 h
                refine lv_goto (tgt := 1215) hx hb d_La_law_369 (by decide) ?_
                exact hnext (upd ki nv.toNatClampNeg 3) (vp_updL co nv.toNatClampNeg k1.toInt64) pr pa tw (nv + 1) sv pn pl po pf pt ru le li bn ip aw ns ch ma br tl (vp_updL ou 0 ((nv + 1 - 1 : Int32).toInt64)) (upd mki mnv.toNatClampNeg 3) (vp_updL msz mnv.toNatClampNeg k1.toInt64) mle mel mme mal mic mil mio mab mae msa mlc mli mna mva mma mch mre mlv mwr msh 0 (mnv + 1) mns mfa mmo ls H locs vc (lv_sub hl [6, 5, 4, 3, 2] rfl) hP hD hS
              · have vc := vc.2 h
                refine lv_iconst (v := 0) hx hb d_La_law_367 (by decide) ?_
                exact vc.elim
          · exact absurd h (by decide)
def V_L4 (ki : Nat → Int32) (co : Nat → Int64) (pr : Nat → Int32) (pa : Nat → Int32) (tw : Nat → Int32) (nv : Int32) (sv : Int32) (pn : Nat → Int32) (pl : Nat → Int32) (po : Nat → Int32) (pf : Nat → Int32) (pt : Nat → Int32) (ru : Nat → Int32) (le : Nat → Int32) (li : Nat → Int32) (bn : Nat → Int32) (ip : Nat → Int32) (aw : Nat → Int32) (ns : Int32) (ch : Nat → Int32) (ma : Nat → Int32) (br : Nat → Int64) (tl : Int32) (ou : Nat → Int64) (mki : Nat → Int32) (msz : Nat → Int64) (mle : Nat → Int32) (mel : Nat → Int32) (mme : Nat → Int32) (mal : Nat → Int32) (mic : Nat → Int32) (mil : Nat → Int32) (mio : Nat → Int32) (mab : Nat → Int32) (mae : Nat → Int32) (msa : Nat → Int32) (mlc : Nat → Int32) (mli : Nat → Int32) (mna : Nat → Int32) (mva : Nat → Int32) (mma : Nat → Int32) (mch : Nat → Int32) (mre : Nat → Int32) (mlv : Nat → Int32) (mwr : Nat → Int64) (msh : Nat → Int32) (mth : Int32) (mnv : Int32) (mns : Int32) (mfa : Int32) (mmo : Int32) (k1 k2 k3 k4 : Int32) (post : (Nat → Int32) → (Nat → Int64) → (Nat → Int32) → (Nat → Int32) → (Nat → Int32) → Int32 → Int32 → (Nat → Int32) → (Nat → Int32) → (Nat → Int32) → (Nat → Int32) → (Nat → Int32) → (Nat → Int32) → (Nat → Int32) → (Nat → Int32) → (Nat → Int32) → (Nat → Int32) → (Nat → Int32) → Int32 → (Nat → Int32) → (Nat → Int32) → (Nat → Int64) → Int32 → (Nat → Int64) → (Nat → Int32) → (Nat → Int64) → (Nat → Int32) → (Nat → Int32) → (Nat → Int32) → (Nat → Int32) → (Nat → Int32) → (Nat → Int32) → (Nat → Int32) → (Nat → Int32) → (Nat → Int32) → (Nat → Int32) → (Nat → Int32) → (Nat → Int32) → (Nat → Int32) → (Nat → Int32) → (Nat → Int32) → (Nat → Int32) → (Nat → Int32) → (Nat → Int32) → (Nat → Int64) → (Nat → Int32) → Int32 → Int32 → Int32 → Int32 → Int32 → Prop) : Prop :=
  ((nv ≤ 40 ∧ ∀ j : Nat, j < 40 → ∃ b : Nat, b < 4096 ∧ pr j = nI b) ∧ ((¬ (sKind ki nv k1 4 && sIn k2 0 (k1 - 1)) = true → ((mnv ≤ 40 ∧ ∀ j : Nat, j < 40 → ∃ b : Nat, b ≤ 8 ∧ mle j = nI b) ∧ ((¬ (sKind mki mnv k1 4 && sHas k1 k2) = true → post ki co pr pa tw nv sv pn pl po pf pt ru le li bn ip aw ns ch ma br tl ou mki msz mle mel mme mal mic mil mio mab mae msa mlc mli mna mva mma mch mre mlv mwr msh 1 mnv mns mfa mmo) ∧ (¬ (¬ (sKind mki mnv k1 4 && sHas k1 k2) = true) → ((mle k1.toNatClampNeg = 8 → False) ∧ (¬ (mle k1.toNatClampNeg = 8) → False)))))) ∧ (¬ (¬ (sKind ki nv k1 4 && sIn k2 0 (k1 - 1)) = true) → ((8 ≤ iBits (pr k1.toNatClampNeg) → ((mnv ≤ 40 ∧ ∀ j : Nat, j < 40 → ∃ b : Nat, b ≤ 8 ∧ mle j = nI b) ∧ ((¬ (sKind mki mnv k1 4 && sHas k1 k2) = true → False) ∧ (¬ (¬ (sKind mki mnv k1 4 && sHas k1 k2) = true) → ((mle k1.toNatClampNeg = 8 → post ki co pr pa tw nv sv pn pl po pf pt ru le li bn ip aw ns ch ma br tl ou mki msz mle mel mme mal mic mil mio mab mae msa mlc mli mna mva mma mch mre mlv mwr msh 2 mnv mns mfa mmo) ∧ (¬ (mle k1.toNatClampNeg = 8) → False)))))) ∧ (¬ (8 ≤ iBits (pr k1.toNatClampNeg)) → ((mnv ≤ 40 ∧ ∀ j : Nat, j < 40 → ∃ b : Nat, b ≤ 8 ∧ mle j = nI b) ∧ ((¬ (sKind mki mnv k1 4 && sHas k1 k2) = true → False) ∧ (¬ (¬ (sKind mki mnv k1 4 && sHas k1 k2) = true) → ((mle k1.toNatClampNeg = 8 → False) ∧ (¬ (mle k1.toNatClampNeg = 8) → (((lg_cmp ((vp_updL ou 0 ((iBits ((upd pr k1.toNatClampNeg (pr k1.toNatClampNeg ||| (1 <<< ((iBits (pr k1.toNatClampNeg)) &&& 31)))) k1.toNatClampNeg) : Int32).toInt64)) (0 : Int32).toNatClampNeg) ((mle k1.toNatClampNeg + 1 : Int32).toInt64)) = 0 → post ki co (upd pr k1.toNatClampNeg (pr k1.toNatClampNeg ||| (1 <<< ((iBits (pr k1.toNatClampNeg)) &&& 31)))) (upd pa (k1 * 12 + iBits (pr k1.toNatClampNeg) : Int32).toNatClampNeg k2) tw nv (if k1 < sv then k1 else sv) pn pl po pf pt ru le li bn ip aw ns ch ma br tl (vp_updL ou 0 ((iBits ((upd pr k1.toNatClampNeg (pr k1.toNatClampNeg ||| (1 <<< ((iBits (pr k1.toNatClampNeg)) &&& 31)))) k1.toNatClampNeg) : Int32).toInt64)) mki msz (upd mle k1.toNatClampNeg (mle k1.toNatClampNeg + 1)) (upd mel (8 * k1 + mle k1.toNatClampNeg : Int32).toNatClampNeg k2) mme mal mic mil mio mab mae msa mlc mli mna mva mma mch mre mlv mwr msh 0 mnv mns mfa mmo) ∧ (¬ (lg_cmp ((vp_updL ou 0 ((iBits ((upd pr k1.toNatClampNeg (pr k1.toNatClampNeg ||| (1 <<< ((iBits (pr k1.toNatClampNeg)) &&& 31)))) k1.toNatClampNeg) : Int32).toInt64)) (0 : Int32).toNatClampNeg) ((mle k1.toNatClampNeg + 1 : Int32).toInt64)) = 0 → False))))))))))))
set_option maxHeartbeats 4000000 in
set_option maxRecDepth 100000 in
theorem g_L4 {p : Program} {l : Launch} {e : Env} {R : Room} {s : State} {m : MethodId} {args : Array Value} {below : List Frame} {meth : Method} {c : Code} {H : Heap} {locs : List Loc} {cells slots : Nat} {Q : State → Prop} {ls : Array Slot} {A : Nat → Prop} (hls : l.stackTraces = false) (S : CallFix p m c code 7 s args W0 "SchemaJudgeLaw") (hN : eN s) (hRf : 8 ≤ R.frames) (hRl : 136 ≤ R.locals) (hRc : cells + 1 ≤ R.cells ∧ slots + 6 ≤ R.slots) (D : va_G) (a b : Nat → Nat) (cI cJ cZ : ClassId) (ki : Nat → Int32) (co : Nat → Int64) (pr : Nat → Int32) (pa : Nat → Int32) (tw : Nat → Int32) (nv : Int32) (sv : Int32) (pn : Nat → Int32) (pl : Nat → Int32) (po : Nat → Int32) (pf : Nat → Int32) (pt : Nat → Int32) (ru : Nat → Int32) (le : Nat → Int32) (li : Nat → Int32) (bn : Nat → Int32) (ip : Nat → Int32) (aw : Nat → Int32) (ns : Int32) (ch : Nat → Int32) (ma : Nat → Int32) (br : Nat → Int64) (tl : Int32) (ou : Nat → Int64) (mki : Nat → Int32) (msz : Nat → Int64) (mle : Nat → Int32) (mel : Nat → Int32) (mme : Nat → Int32) (mal : Nat → Int32) (mic : Nat → Int32) (mil : Nat → Int32) (mio : Nat → Int32) (mab : Nat → Int32) (mae : Nat → Int32) (msa : Nat → Int32) (mlc : Nat → Int32) (mli : Nat → Int32) (mna : Nat → Int32) (mva : Nat → Int32) (mma : Nat → Int32) (mch : Nat → Int32) (mre : Nat → Int32) (mlv : Nat → Int32) (mwr : Nat → Int64) (msh : Nat → Int32) (mth : Int32) (mnv : Int32) (mns : Int32) (mfa : Int32) (mmo : Int32) (k1 k2 k3 k4 : Int32) (sc L : Nat) (xs : Nat → Int32) (i : Int32) (hXs : va_X sc L xs s s.heap) (hbl : sc < s.heap.size) (hbA : ¬ A sc) (hi1 : vp_in (i + 1) L) (e1 : xs (i + 1 : Int32).toNatClampNeg = k1) (hi2 : vp_in (i + 2) L) (e2 : xs (i + 2 : Int32).toNatClampNeg = k2) (hi3 : vp_in (i + 3) L) (e3 : xs (i + 3 : Int32).toNatClampNeg = k3) (hi4 : vp_in (i + 4) L) (e4 : xs (i + 4 : Int32).toNatClampNeg = k4) (hK : va_K D vwCl (tyA cI cJ cZ) s) (hP : va_P D vwCl ((wX a ++ wV a cI cJ ki co pr pa tw nv sv ++ wP a cI cZ pn pl po pf pt ++ wS a cI ru le li bn ip aw ns ++ wL a ++ wJ a cI cJ ch ma br tl ++ wO a cJ ou) ++ (wM b cI cJ cZ mki msz mle mel mme mal mic mil mio mab mae msa mlc mli mna mva mma mch mre mlv mwr msh mth mnv mns mfa mmo)) H) (hD : va_D A ((wX a ++ wV a cI cJ ki co pr pa tw nv sv ++ wP a cI cZ pn pl po pf pt ++ wS a cI ru le li bn ip aw ns ++ wL a ++ wJ a cI cJ ch ma br tl ++ wO a cJ ou) ++ (wM b cI cJ cZ mki msz mle mel mme mal mic mil mio mab mae msa mlc mli mna mva mma mch mre mlv mwr msh mth mnv mns mfa mmo))) (hA : ∀ q, s.heap.size ≤ q → A q) (hS : va_S A s.heap H locs) (hX : eX A s s.heap) (hl : lv_has ls 7 [(4, .int i), (3, .ref (a 25)), (2, .ref (b 0)), (1, .ref (a 24)), (0, .ref sc)]) {post : (Nat → Int32) → (Nat → Int64) → (Nat → Int32) → (Nat → Int32) → (Nat → Int32) → Int32 → Int32 → (Nat → Int32) → (Nat → Int32) → (Nat → Int32) → (Nat → Int32) → (Nat → Int32) → (Nat → Int32) → (Nat → Int32) → (Nat → Int32) → (Nat → Int32) → (Nat → Int32) → (Nat → Int32) → Int32 → (Nat → Int32) → (Nat → Int32) → (Nat → Int64) → Int32 → (Nat → Int64) → (Nat → Int32) → (Nat → Int64) → (Nat → Int32) → (Nat → Int32) → (Nat → Int32) → (Nat → Int32) → (Nat → Int32) → (Nat → Int32) → (Nat → Int32) → (Nat → Int32) → (Nat → Int32) → (Nat → Int32) → (Nat → Int32) → (Nat → Int32) → (Nat → Int32) → (Nat → Int32) → (Nat → Int32) → (Nat → Int32) → (Nat → Int32) → (Nat → Int32) → (Nat → Int64) → (Nat → Int32) → Int32 → Int32 → Int32 → Int32 → Int32 → Prop} (vc : V_L4 ki co pr pa tw nv sv pn pl po pf pt ru le li bn ip aw ns ch ma br tl ou mki msz mle mel mme mal mic mil mio mab mae msa mlc mli mna mva mma mch mre mlv mwr msh mth mnv mns mfa mmo k1 k2 k3 k4 post)
    (hnext : ∀ (ki : Nat → Int32) (co : Nat → Int64) (pr : Nat → Int32) (pa : Nat → Int32) (tw : Nat → Int32) (nv : Int32) (sv : Int32) (pn : Nat → Int32) (pl : Nat → Int32) (po : Nat → Int32) (pf : Nat → Int32) (pt : Nat → Int32) (ru : Nat → Int32) (le : Nat → Int32) (li : Nat → Int32) (bn : Nat → Int32) (ip : Nat → Int32) (aw : Nat → Int32) (ns : Int32) (ch : Nat → Int32) (ma : Nat → Int32) (br : Nat → Int64) (tl : Int32) (ou : Nat → Int64) (mki : Nat → Int32) (msz : Nat → Int64) (mle : Nat → Int32) (mel : Nat → Int32) (mme : Nat → Int32) (mal : Nat → Int32) (mic : Nat → Int32) (mil : Nat → Int32) (mio : Nat → Int32) (mab : Nat → Int32) (mae : Nat → Int32) (msa : Nat → Int32) (mlc : Nat → Int32) (mli : Nat → Int32) (mna : Nat → Int32) (mva : Nat → Int32) (mma : Nat → Int32) (mch : Nat → Int32) (mre : Nat → Int32) (mlv : Nat → Int32) (mwr : Nat → Int64) (msh : Nat → Int32) (mth : Int32) (mnv : Int32) (mns : Int32) (mfa : Int32) (mmo : Int32) (ls : Array Slot) (H : Heap) (locs : List Loc), post ki co pr pa tw nv sv pn pl po pf pt ru le li bn ip aw ns ch ma br tl ou mki msz mle mel mme mal mic mil mio mab mae msa mlc mli mna mva mma mch mre mlv mwr msh mth mnv mns mfa mmo → lv_has ls 7 [(0, .ref sc), (1, .ref (a 24)), (2, .ref (b 0)), (3, .ref (a 25)), (4, .int i)] → va_P D vwCl ((wX a ++ wV a cI cJ ki co pr pa tw nv sv ++ wP a cI cZ pn pl po pf pt ++ wS a cI ru le li bn ip aw ns ++ wL a ++ wJ a cI cJ ch ma br tl ++ wO a cJ ou) ++ (wM b cI cJ cZ mki msz mle mel mme mal mic mil mio mab mae msa mlc mli mna mva mma mch mre mlv mwr msh mth mnv mns mfa mmo)) H → va_D A ((wX a ++ wV a cI cJ ki co pr pa tw nv sv ++ wP a cI cZ pn pl po pf pt ++ wS a cI ru le li bn ip aw ns ++ wL a ++ wJ a cI cJ ch ma br tl ++ wO a cJ ou) ++ (wM b cI cJ cZ mki msz mle mel mme mal mic mil mio mab mae msa mlc mli mna mva mma mch mre mlv mwr msh mth mnv mns mfa mmo)) → va_S A s.heap H locs → W p l e R s m args below meth c H locs (cells + 1) (slots + 6) Q (F0 m 1215 ls [])) : W p l e R s m args below meth c H locs cells slots Q (F0 m 372 ls []) := by
  have hx := S.1
  have hb := S.2.1
  have hown := S.2.2.2.1
  have hts := S.2.2.2.2
  have h01 : vp_in (0 : Int32) 1 := vp_in_nI (n := 0) (by decide) (by decide)
  unfold V_L4 at vc
  refine lv_aload_n hx hb d_La_law_372 rfl (lv_at hl 3 rfl) ?_
  refine lv_aload_n hx hb d_La_law_373 rfl (lv_at hl 4 rfl) ?_
  refine lv_iload hx hb d_La_law_374 (lv_at hl 0 rfl) ?_
  refine lv_iconst (v := 1) hx hb d_La_law_376 (by decide) ?_
  refine lv_iadd hx hb d_La_law_377 ?_
  refine va_sld hx hb hXs hbl hbA hS hi1 d_La_law_378 ?_
  rw [e1]
  refine lv_aload_n hx hb d_La_law_379 rfl (lv_at hl 4 rfl) ?_
  refine lv_iload hx hb d_La_law_380 (lv_at hl 0 rfl) ?_
  refine lv_iconst (v := 2) hx hb d_La_law_382 (by decide) ?_
  refine lv_iadd hx hb d_La_law_383 ?_
  refine va_sld hx hb hXs hbl hbA hS hi2 d_La_law_384 ?_
  rw [e2]
  refine lv_aload_n hx hb d_La_law_385 rfl (lv_at hl 1 rfl) ?_
  obtain ⟨hpre, vc⟩ := vc
  by_cases hv1 : ¬ (sKind ki nv k1 4 && sIn k2 0 (k1 - 1)) = true
  · have vc := vc.1 hv1
    refine hc_1 (As := [.ref (a 24), .int k1, .int k2, .ref (a 25)]) (rest := []) S (c_La_push_1 l hls D a cI cJ cZ ki co pr pa tw nv sv pn pl po pf pt ru le li bn ip aw ns ch ma br tl ou k1 k2 hpre hv1) kw_La_push s_La_push o_La ml_La_98 hd_La_push (Nat.le_trans (by decide) hRf) (Nat.le_trans (by decide) hRl) hRc hK hP hD hS hA hX hN hl.1 rfl (Nat.le_of_ble_eq_true rfl) d_La_law_386 (fun _ H locs _ hP hD hS => ?_)
    refine lv_istore hx hb d_La_law_389 hl (by decide) (lv' := [(5, .int 1), (4, .int i), (3, .ref (a 25)), (2, .ref (b 0)), (1, .ref (a 24)), (0, .ref sc)]) rfl (fun ls hl => ?_)
    refine lv_aload_n hx hb d_La_law_391 rfl (lv_at hl 3 rfl) ?_
    refine lv_aload_n hx hb d_La_law_392 rfl (lv_at hl 5 rfl) ?_
    refine lv_iload hx hb d_La_law_393 (lv_at hl 1 rfl) ?_
    refine lv_iconst (v := 1) hx hb d_La_law_395 (by decide) ?_
    refine lv_iadd hx hb d_La_law_396 ?_
    refine va_sld hx hb hXs hbl hbA hS hi1 d_La_law_397 ?_
    rw [e1]
    refine lv_aload_n hx hb d_La_law_398 rfl (lv_at hl 5 rfl) ?_
    refine lv_iload hx hb d_La_law_399 (lv_at hl 1 rfl) ?_
    refine lv_iconst (v := 2) hx hb d_La_law_401 (by decide) ?_
    refine lv_iadd hx hb d_La_law_402 ?_
    refine va_sld hx hb hXs hbl hbA hS hi2 d_La_law_403 ?_
    rw [e2]
    obtain ⟨hpre, vc⟩ := vc
    by_cases hv1 : ¬ (sKind mki mnv k1 4 && sHas k1 k2) = true
    · have vc := vc.1 hv1
      refine wc_2 (As := [.int k1, .int k2]) (rest := []) S (c_Mo_push_1 l D b cI cJ cZ mki msz mle mel mme mal mic mil mio mab mae msa mlc mli mna mva mma mch mre mlv mwr msh mth mnv mns mfa mmo k1 k2 hpre hv1) k_Mo_push i_Mo_push e_Mo_push o_Mo ml_La_100 hd_Mo_push (Nat.le_trans (by decide) hRf) (Nat.le_trans (by decide) hRl) hRc (va_recv hK hP.r (q0 := 0) (ci := 6) rfl rfl) hK hP hD hS hA hl.1 rfl (Nat.le_of_ble_eq_true rfl) d_La_law_404 (fun _ H locs _ hP hD hS => ?_)
      refine lv_istore hx hb d_La_law_407 hl (by decide) (lv' := [(6, .int 0), (5, .int 1), (4, .int i), (3, .ref (a 25)), (2, .ref (b 0)), (1, .ref (a 24)), (0, .ref sc)]) rfl (fun ls hl => ?_)
      refine lv_aload_n hx hb d_La_law_409 rfl (lv_at hl 4 rfl) ?_
      refine pc_V (As := []) (rest := []) S (c_Mo_thrown l D b cI cJ cZ mki msz mle mel mme mal mic mil mio mab mae msa mlc mli mna mva mma mch mre mlv mwr msh 1 mnv mns mfa mmo) wB_blind k_Mo_thrown i_Mo_thrown e_Mo_thrown o_Mo ml_La_84 hd_Mo_thrown (Nat.le_trans (by decide) hRf) (Nat.le_trans (by decide) hRl) hRc (va_recv hK hP.r (q0 := 0) (ci := 6) rfl rfl) (wB_at hP.r hK) hl.1 rfl (Nat.le_of_ble_eq_true rfl) d_La_law_410 ?_
      refine lv_iload hx hb d_La_law_413 (lv_at hl 1 rfl) ?_
      refine lv_icmp_eq (tgt := 420) hx hb d_La_law_415 (by decide) (fun h => ?_) (fun h => ?_)
      · skip
        refine lv_iload hx hb d_La_law_420 (lv_at hl 1 rfl) ?_
        refine lv_if_ne (tgt := 437) hx hb d_La_law_422 (by decide) (fun h => ?_) (fun h => ?_)
        · skip
          refine lv_goto (tgt := 1215) hx hb d_La_law_437 (by decide) ?_
          exact hnext ki co pr pa tw nv sv pn pl po pf pt ru le li bn ip aw ns ch ma br tl ou mki msz mle mel mme mal mic mil mio mab mae msa mlc mli mna mva mma mch mre mlv mwr msh 1 mnv mns mfa mmo ls H locs vc (lv_sub hl [6, 5, 4, 3, 2] rfl) hP hD hS
        · exact absurd h (by decide)
      · exact absurd h (by decide)
    · have vc := vc.2 hv1
      by_cases hv2 : mle k1.toNatClampNeg = 8
      · have vc := vc.1 hv2
        refine wc_2 (As := [.int k1, .int k2]) (rest := []) S (c_Mo_push_2 l D b cI cJ cZ mki msz mle mel mme mal mic mil mio mab mae msa mlc mli mna mva mma mch mre mlv mwr msh mth mnv mns mfa mmo k1 k2 hpre hv1 hv2) k_Mo_push i_Mo_push e_Mo_push o_Mo ml_La_100 hd_Mo_push (Nat.le_trans (by decide) hRf) (Nat.le_trans (by decide) hRl) hRc (va_recv hK hP.r (q0 := 0) (ci := 6) rfl rfl) hK hP hD hS hA hl.1 rfl (Nat.le_of_ble_eq_true rfl) d_La_law_404 (fun _ H locs _ hP hD hS => ?_)
        refine lv_istore hx hb d_La_law_407 hl (by decide) (lv' := [(6, .int 0), (5, .int 1), (4, .int i), (3, .ref (a 25)), (2, .ref (b 0)), (1, .ref (a 24)), (0, .ref sc)]) rfl (fun ls hl => ?_)
        refine lv_aload_n hx hb d_La_law_409 rfl (lv_at hl 4 rfl) ?_
        refine pc_V (As := []) (rest := []) S (c_Mo_thrown l D b cI cJ cZ mki msz mle mel mme mal mic mil mio mab mae msa mlc mli mna mva mma mch mre mlv mwr msh 2 mnv mns mfa mmo) wB_blind k_Mo_thrown i_Mo_thrown e_Mo_thrown o_Mo ml_La_84 hd_Mo_thrown (Nat.le_trans (by decide) hRf) (Nat.le_trans (by decide) hRl) hRc (va_recv hK hP.r (q0 := 0) (ci := 6) rfl rfl) (wB_at hP.r hK) hl.1 rfl (Nat.le_of_ble_eq_true rfl) d_La_law_410 ?_
        refine lv_iload hx hb d_La_law_413 (lv_at hl 1 rfl) ?_
        refine lv_icmp_eq (tgt := 420) hx hb d_La_law_415 (by decide) (fun h => ?_) (fun h => ?_)
        · exact absurd h (by decide)
        · skip
          refine lv_iconst (v := 0) hx hb d_La_law_418 (by decide) ?_
          exact vc.elim
      · have vc := vc.2 hv2
        refine wc_2 (As := [.int k1, .int k2]) (rest := []) S (c_Mo_push_3 l D b cI cJ cZ mki msz mle mel mme mal mic mil mio mab mae msa mlc mli mna mva mma mch mre mlv mwr msh mth mnv mns mfa mmo k1 k2 hpre hv1 hv2) k_Mo_push i_Mo_push e_Mo_push o_Mo ml_La_100 hd_Mo_push (Nat.le_trans (by decide) hRf) (Nat.le_trans (by decide) hRl) hRc (va_recv hK hP.r (q0 := 0) (ci := 6) rfl rfl) hK hP hD hS hA hl.1 rfl (Nat.le_of_ble_eq_true rfl) d_La_law_404 (fun _ H locs _ hP hD hS => ?_)
        refine lv_istore hx hb d_La_law_407 hl (by decide) (lv' := [(6, .int (mle k1.toNatClampNeg + 1)), (5, .int 1), (4, .int i), (3, .ref (a 25)), (2, .ref (b 0)), (1, .ref (a 24)), (0, .ref sc)]) rfl (fun ls hl => ?_)
        refine lv_aload_n hx hb d_La_law_409 rfl (lv_at hl 4 rfl) ?_
        refine pc_V (As := []) (rest := []) S (c_Mo_thrown l D b cI cJ cZ mki msz (upd mle k1.toNatClampNeg (mle k1.toNatClampNeg + 1)) (upd mel (8 * k1 + mle k1.toNatClampNeg : Int32).toNatClampNeg k2) mme mal mic mil mio mab mae msa mlc mli mna mva mma mch mre mlv mwr msh 0 mnv mns mfa mmo) wB_blind k_Mo_thrown i_Mo_thrown e_Mo_thrown o_Mo ml_La_84 hd_Mo_thrown (Nat.le_trans (by decide) hRf) (Nat.le_trans (by decide) hRl) hRc (va_recv hK hP.r (q0 := 0) (ci := 6) rfl rfl) (wB_at hP.r hK) hl.1 rfl (Nat.le_of_ble_eq_true rfl) d_La_law_410 ?_
        refine lv_iload hx hb d_La_law_413 (lv_at hl 1 rfl) ?_
        refine lv_icmp_eq (tgt := 420) hx hb d_La_law_415 (by decide) (fun h => ?_) (fun h => ?_)
        · exact absurd h (by decide)
        · skip
          refine lv_iconst (v := 0) hx hb d_La_law_418 (by decide) ?_
          exact vc.elim
  · have vc := vc.2 hv1
    by_cases hv2 : 8 ≤ iBits (pr k1.toNatClampNeg)
    · have vc := vc.1 hv2
      refine hc_1 (As := [.ref (a 24), .int k1, .int k2, .ref (a 25)]) (rest := []) S (c_La_push_2 l hls D a cI cJ cZ ki co pr pa tw nv sv pn pl po pf pt ru le li bn ip aw ns ch ma br tl ou k1 k2 hpre hv1 hv2) kw_La_push s_La_push o_La ml_La_98 hd_La_push (Nat.le_trans (by decide) hRf) (Nat.le_trans (by decide) hRl) hRc hK hP hD hS hA hX hN hl.1 rfl (Nat.le_of_ble_eq_true rfl) d_La_law_386 (fun _ H locs _ hP hD hS => ?_)
      refine lv_istore hx hb d_La_law_389 hl (by decide) (lv' := [(5, .int 2), (4, .int i), (3, .ref (a 25)), (2, .ref (b 0)), (1, .ref (a 24)), (0, .ref sc)]) rfl (fun ls hl => ?_)
      refine lv_aload_n hx hb d_La_law_391 rfl (lv_at hl 3 rfl) ?_
      refine lv_aload_n hx hb d_La_law_392 rfl (lv_at hl 5 rfl) ?_
      refine lv_iload hx hb d_La_law_393 (lv_at hl 1 rfl) ?_
      refine lv_iconst (v := 1) hx hb d_La_law_395 (by decide) ?_
      refine lv_iadd hx hb d_La_law_396 ?_
      refine va_sld hx hb hXs hbl hbA hS hi1 d_La_law_397 ?_
      rw [e1]
      refine lv_aload_n hx hb d_La_law_398 rfl (lv_at hl 5 rfl) ?_
      refine lv_iload hx hb d_La_law_399 (lv_at hl 1 rfl) ?_
      refine lv_iconst (v := 2) hx hb d_La_law_401 (by decide) ?_
      refine lv_iadd hx hb d_La_law_402 ?_
      refine va_sld hx hb hXs hbl hbA hS hi2 d_La_law_403 ?_
      rw [e2]
      obtain ⟨hpre, vc⟩ := vc
      by_cases hv1 : ¬ (sKind mki mnv k1 4 && sHas k1 k2) = true
      · have vc := vc.1 hv1
        refine wc_2 (As := [.int k1, .int k2]) (rest := []) S (c_Mo_push_1 l D b cI cJ cZ mki msz mle mel mme mal mic mil mio mab mae msa mlc mli mna mva mma mch mre mlv mwr msh mth mnv mns mfa mmo k1 k2 hpre hv1) k_Mo_push i_Mo_push e_Mo_push o_Mo ml_La_100 hd_Mo_push (Nat.le_trans (by decide) hRf) (Nat.le_trans (by decide) hRl) hRc (va_recv hK hP.r (q0 := 0) (ci := 6) rfl rfl) hK hP hD hS hA hl.1 rfl (Nat.le_of_ble_eq_true rfl) d_La_law_404 (fun _ H locs _ hP hD hS => ?_)
        refine lv_istore hx hb d_La_law_407 hl (by decide) (lv' := [(6, .int 0), (5, .int 2), (4, .int i), (3, .ref (a 25)), (2, .ref (b 0)), (1, .ref (a 24)), (0, .ref sc)]) rfl (fun ls hl => ?_)
        refine lv_aload_n hx hb d_La_law_409 rfl (lv_at hl 4 rfl) ?_
        refine pc_V (As := []) (rest := []) S (c_Mo_thrown l D b cI cJ cZ mki msz mle mel mme mal mic mil mio mab mae msa mlc mli mna mva mma mch mre mlv mwr msh 1 mnv mns mfa mmo) wB_blind k_Mo_thrown i_Mo_thrown e_Mo_thrown o_Mo ml_La_84 hd_Mo_thrown (Nat.le_trans (by decide) hRf) (Nat.le_trans (by decide) hRl) hRc (va_recv hK hP.r (q0 := 0) (ci := 6) rfl rfl) (wB_at hP.r hK) hl.1 rfl (Nat.le_of_ble_eq_true rfl) d_La_law_410 ?_
        refine lv_iload hx hb d_La_law_413 (lv_at hl 1 rfl) ?_
        refine lv_icmp_eq (tgt := 420) hx hb d_La_law_415 (by decide) (fun h => ?_) (fun h => ?_)
        · exact absurd h (by decide)
        · skip
          refine lv_iconst (v := 0) hx hb d_La_law_418 (by decide) ?_
          exact vc.elim
      · have vc := vc.2 hv1
        by_cases hv2 : mle k1.toNatClampNeg = 8
        · have vc := vc.1 hv2
          refine wc_2 (As := [.int k1, .int k2]) (rest := []) S (c_Mo_push_2 l D b cI cJ cZ mki msz mle mel mme mal mic mil mio mab mae msa mlc mli mna mva mma mch mre mlv mwr msh mth mnv mns mfa mmo k1 k2 hpre hv1 hv2) k_Mo_push i_Mo_push e_Mo_push o_Mo ml_La_100 hd_Mo_push (Nat.le_trans (by decide) hRf) (Nat.le_trans (by decide) hRl) hRc (va_recv hK hP.r (q0 := 0) (ci := 6) rfl rfl) hK hP hD hS hA hl.1 rfl (Nat.le_of_ble_eq_true rfl) d_La_law_404 (fun _ H locs _ hP hD hS => ?_)
          refine lv_istore hx hb d_La_law_407 hl (by decide) (lv' := [(6, .int 0), (5, .int 2), (4, .int i), (3, .ref (a 25)), (2, .ref (b 0)), (1, .ref (a 24)), (0, .ref sc)]) rfl (fun ls hl => ?_)
          refine lv_aload_n hx hb d_La_law_409 rfl (lv_at hl 4 rfl) ?_
          refine pc_V (As := []) (rest := []) S (c_Mo_thrown l D b cI cJ cZ mki msz mle mel mme mal mic mil mio mab mae msa mlc mli mna mva mma mch mre mlv mwr msh 2 mnv mns mfa mmo) wB_blind k_Mo_thrown i_Mo_thrown e_Mo_thrown o_Mo ml_La_84 hd_Mo_thrown (Nat.le_trans (by decide) hRf) (Nat.le_trans (by decide) hRl) hRc (va_recv hK hP.r (q0 := 0) (ci := 6) rfl rfl) (wB_at hP.r hK) hl.1 rfl (Nat.le_of_ble_eq_true rfl) d_La_law_410 ?_
          refine lv_iload hx hb d_La_law_413 (lv_at hl 1 rfl) ?_
          refine lv_icmp_eq (tgt := 420) hx hb d_La_law_415 (by decide) (fun h => ?_) (fun h => ?_)
          · skip
            refine lv_iload hx hb d_La_law_420 (lv_at hl 1 rfl) ?_
            refine lv_if_ne (tgt := 437) hx hb d_La_law_422 (by decide) (fun h => ?_) (fun h => ?_)
            · skip
              refine lv_goto (tgt := 1215) hx hb d_La_law_437 (by decide) ?_
              exact hnext ki co pr pa tw nv sv pn pl po pf pt ru le li bn ip aw ns ch ma br tl ou mki msz mle mel mme mal mic mil mio mab mae msa mlc mli mna mva mma mch mre mlv mwr msh 2 mnv mns mfa mmo ls H locs vc (lv_sub hl [6, 5, 4, 3, 2] rfl) hP hD hS
            · exact absurd h (by decide)
          · exact absurd h (by decide)
        · have vc := vc.2 hv2
          refine wc_2 (As := [.int k1, .int k2]) (rest := []) S (c_Mo_push_3 l D b cI cJ cZ mki msz mle mel mme mal mic mil mio mab mae msa mlc mli mna mva mma mch mre mlv mwr msh mth mnv mns mfa mmo k1 k2 hpre hv1 hv2) k_Mo_push i_Mo_push e_Mo_push o_Mo ml_La_100 hd_Mo_push (Nat.le_trans (by decide) hRf) (Nat.le_trans (by decide) hRl) hRc (va_recv hK hP.r (q0 := 0) (ci := 6) rfl rfl) hK hP hD hS hA hl.1 rfl (Nat.le_of_ble_eq_true rfl) d_La_law_404 (fun _ H locs _ hP hD hS => ?_)
          refine lv_istore hx hb d_La_law_407 hl (by decide) (lv' := [(6, .int (mle k1.toNatClampNeg + 1)), (5, .int 2), (4, .int i), (3, .ref (a 25)), (2, .ref (b 0)), (1, .ref (a 24)), (0, .ref sc)]) rfl (fun ls hl => ?_)
          refine lv_aload_n hx hb d_La_law_409 rfl (lv_at hl 4 rfl) ?_
          refine pc_V (As := []) (rest := []) S (c_Mo_thrown l D b cI cJ cZ mki msz (upd mle k1.toNatClampNeg (mle k1.toNatClampNeg + 1)) (upd mel (8 * k1 + mle k1.toNatClampNeg : Int32).toNatClampNeg k2) mme mal mic mil mio mab mae msa mlc mli mna mva mma mch mre mlv mwr msh 0 mnv mns mfa mmo) wB_blind k_Mo_thrown i_Mo_thrown e_Mo_thrown o_Mo ml_La_84 hd_Mo_thrown (Nat.le_trans (by decide) hRf) (Nat.le_trans (by decide) hRl) hRc (va_recv hK hP.r (q0 := 0) (ci := 6) rfl rfl) (wB_at hP.r hK) hl.1 rfl (Nat.le_of_ble_eq_true rfl) d_La_law_410 ?_
          refine lv_iload hx hb d_La_law_413 (lv_at hl 1 rfl) ?_
          refine lv_icmp_eq (tgt := 420) hx hb d_La_law_415 (by decide) (fun h => ?_) (fun h => ?_)
          · exact absurd h (by decide)
          · skip
            refine lv_iconst (v := 0) hx hb d_La_law_418 (by decide) ?_
            exact vc.elim
    · have vc := vc.2 hv2
      refine hc_1 (As := [.ref (a 24), .int k1, .int k2, .ref (a 25)]) (rest := []) S (c_La_push_3 l hls D a cI cJ cZ ki co pr pa tw nv sv pn pl po pf pt ru le li bn ip aw ns ch ma br tl ou k1 k2 hpre hv1 hv2) kw_La_push s_La_push o_La ml_La_98 hd_La_push (Nat.le_trans (by decide) hRf) (Nat.le_trans (by decide) hRl) hRc hK hP hD hS hA hX hN hl.1 rfl (Nat.le_of_ble_eq_true rfl) d_La_law_386 (fun _ H locs _ hP hD hS => ?_)
      refine lv_istore hx hb d_La_law_389 hl (by decide) (lv' := [(5, .int 0), (4, .int i), (3, .ref (a 25)), (2, .ref (b 0)), (1, .ref (a 24)), (0, .ref sc)]) rfl (fun ls hl => ?_)
      refine lv_aload_n hx hb d_La_law_391 rfl (lv_at hl 3 rfl) ?_
      refine lv_aload_n hx hb d_La_law_392 rfl (lv_at hl 5 rfl) ?_
      refine lv_iload hx hb d_La_law_393 (lv_at hl 1 rfl) ?_
      refine lv_iconst (v := 1) hx hb d_La_law_395 (by decide) ?_
      refine lv_iadd hx hb d_La_law_396 ?_
      refine va_sld hx hb hXs hbl hbA hS hi1 d_La_law_397 ?_
      rw [e1]
      refine lv_aload_n hx hb d_La_law_398 rfl (lv_at hl 5 rfl) ?_
      refine lv_iload hx hb d_La_law_399 (lv_at hl 1 rfl) ?_
      refine lv_iconst (v := 2) hx hb d_La_law_401 (by decide) ?_
      refine lv_iadd hx hb d_La_law_402 ?_
      refine va_sld hx hb hXs hbl hbA hS hi2 d_La_law_403 ?_
      rw [e2]
      obtain ⟨hpre, vc⟩ := vc
      by_cases hv1 : ¬ (sKind mki mnv k1 4 && sHas k1 k2) = true
      · have vc := vc.1 hv1
        refine wc_2 (As := [.int k1, .int k2]) (rest := []) S (c_Mo_push_1 l D b cI cJ cZ mki msz mle mel mme mal mic mil mio mab mae msa mlc mli mna mva mma mch mre mlv mwr msh mth mnv mns mfa mmo k1 k2 hpre hv1) k_Mo_push i_Mo_push e_Mo_push o_Mo ml_La_100 hd_Mo_push (Nat.le_trans (by decide) hRf) (Nat.le_trans (by decide) hRl) hRc (va_recv hK hP.r (q0 := 0) (ci := 6) rfl rfl) hK hP hD hS hA hl.1 rfl (Nat.le_of_ble_eq_true rfl) d_La_law_404 (fun _ H locs _ hP hD hS => ?_)
        refine lv_istore hx hb d_La_law_407 hl (by decide) (lv' := [(6, .int 0), (5, .int 0), (4, .int i), (3, .ref (a 25)), (2, .ref (b 0)), (1, .ref (a 24)), (0, .ref sc)]) rfl (fun ls hl => ?_)
        refine lv_aload_n hx hb d_La_law_409 rfl (lv_at hl 4 rfl) ?_
        refine pc_V (As := []) (rest := []) S (c_Mo_thrown l D b cI cJ cZ mki msz mle mel mme mal mic mil mio mab mae msa mlc mli mna mva mma mch mre mlv mwr msh 1 mnv mns mfa mmo) wB_blind k_Mo_thrown i_Mo_thrown e_Mo_thrown o_Mo ml_La_84 hd_Mo_thrown (Nat.le_trans (by decide) hRf) (Nat.le_trans (by decide) hRl) hRc (va_recv hK hP.r (q0 := 0) (ci := 6) rfl rfl) (wB_at hP.r hK) hl.1 rfl (Nat.le_of_ble_eq_true rfl) d_La_law_410 ?_
        refine lv_iload hx hb d_La_law_413 (lv_at hl 1 rfl) ?_
        refine lv_icmp_eq (tgt := 420) hx hb d_La_law_415 (by decide) (fun h => ?_) (fun h => ?_)
        · exact absurd h (by decide)
        · skip
          refine lv_iconst (v := 0) hx hb d_La_law_418 (by decide) ?_
          exact vc.elim
      · have vc := vc.2 hv1
        by_cases hv2 : mle k1.toNatClampNeg = 8
        · have vc := vc.1 hv2
          refine wc_2 (As := [.int k1, .int k2]) (rest := []) S (c_Mo_push_2 l D b cI cJ cZ mki msz mle mel mme mal mic mil mio mab mae msa mlc mli mna mva mma mch mre mlv mwr msh mth mnv mns mfa mmo k1 k2 hpre hv1 hv2) k_Mo_push i_Mo_push e_Mo_push o_Mo ml_La_100 hd_Mo_push (Nat.le_trans (by decide) hRf) (Nat.le_trans (by decide) hRl) hRc (va_recv hK hP.r (q0 := 0) (ci := 6) rfl rfl) hK hP hD hS hA hl.1 rfl (Nat.le_of_ble_eq_true rfl) d_La_law_404 (fun _ H locs _ hP hD hS => ?_)
          refine lv_istore hx hb d_La_law_407 hl (by decide) (lv' := [(6, .int 0), (5, .int 0), (4, .int i), (3, .ref (a 25)), (2, .ref (b 0)), (1, .ref (a 24)), (0, .ref sc)]) rfl (fun ls hl => ?_)
          refine lv_aload_n hx hb d_La_law_409 rfl (lv_at hl 4 rfl) ?_
          refine pc_V (As := []) (rest := []) S (c_Mo_thrown l D b cI cJ cZ mki msz mle mel mme mal mic mil mio mab mae msa mlc mli mna mva mma mch mre mlv mwr msh 2 mnv mns mfa mmo) wB_blind k_Mo_thrown i_Mo_thrown e_Mo_thrown o_Mo ml_La_84 hd_Mo_thrown (Nat.le_trans (by decide) hRf) (Nat.le_trans (by decide) hRl) hRc (va_recv hK hP.r (q0 := 0) (ci := 6) rfl rfl) (wB_at hP.r hK) hl.1 rfl (Nat.le_of_ble_eq_true rfl) d_La_law_410 ?_
          refine lv_iload hx hb d_La_law_413 (lv_at hl 1 rfl) ?_
          refine lv_icmp_eq (tgt := 420) hx hb d_La_law_415 (by decide) (fun h => ?_) (fun h => ?_)
          · exact absurd h (by decide)
          · skip
            refine lv_iconst (v := 0) hx hb d_La_law_418 (by decide) ?_
            exact vc.elim
        · have vc := vc.2 hv2
          refine wc_2 (As := [.int k1, .int k2]) (rest := []) S (c_Mo_push_3 l D b cI cJ cZ mki msz mle mel mme mal mic mil mio mab mae msa mlc mli mna mva mma mch mre mlv mwr msh mth mnv mns mfa mmo k1 k2 hpre hv1 hv2) k_Mo_push i_Mo_push e_Mo_push o_Mo ml_La_100 hd_Mo_push (Nat.le_trans (by decide) hRf) (Nat.le_trans (by decide) hRl) hRc (va_recv hK hP.r (q0 := 0) (ci := 6) rfl rfl) hK hP hD hS hA hl.1 rfl (Nat.le_of_ble_eq_true rfl) d_La_law_404 (fun _ H locs _ hP hD hS => ?_)
          refine lv_istore hx hb d_La_law_407 hl (by decide) (lv' := [(6, .int (mle k1.toNatClampNeg + 1)), (5, .int 0), (4, .int i), (3, .ref (a 25)), (2, .ref (b 0)), (1, .ref (a 24)), (0, .ref sc)]) rfl (fun ls hl => ?_)
          refine lv_aload_n hx hb d_La_law_409 rfl (lv_at hl 4 rfl) ?_
          refine pc_V (As := []) (rest := []) S (c_Mo_thrown l D b cI cJ cZ mki msz (upd mle k1.toNatClampNeg (mle k1.toNatClampNeg + 1)) (upd mel (8 * k1 + mle k1.toNatClampNeg : Int32).toNatClampNeg k2) mme mal mic mil mio mab mae msa mlc mli mna mva mma mch mre mlv mwr msh 0 mnv mns mfa mmo) wB_blind k_Mo_thrown i_Mo_thrown e_Mo_thrown o_Mo ml_La_84 hd_Mo_thrown (Nat.le_trans (by decide) hRf) (Nat.le_trans (by decide) hRl) hRc (va_recv hK hP.r (q0 := 0) (ci := 6) rfl rfl) (wB_at hP.r hK) hl.1 rfl (Nat.le_of_ble_eq_true rfl) d_La_law_410 ?_
          refine lv_iload hx hb d_La_law_413 (lv_at hl 1 rfl) ?_
          refine lv_icmp_eq (tgt := 420) hx hb d_La_law_415 (by decide) (fun h => ?_) (fun h => ?_)
          · skip
            refine lv_iload hx hb d_La_law_420 (lv_at hl 1 rfl) ?_
            refine lv_if_ne (tgt := 437) hx hb d_La_law_422 (by decide) (fun h => ?_) (fun h => ?_)
            · exact absurd h (by decide)
            · skip
              refine lv_aload_n hx hb d_La_law_425 rfl (lv_at hl 3 rfl) ?_
              refine lv_iconst (v := 0) hx hb d_La_law_426 (by decide) ?_
              refine va_lald hx hb hK hP.l 25 1 rfl rfl h01 d_La_law_427 ?_
              refine lv_iload hx hb d_La_law_428 (lv_at hl 0 rfl) ?_
              refine lv_i2l hx hb d_La_law_430 rfl ?_
              refine W.lcmp hx hb d_La_law_431 ?_
              refine lv_if_eq (tgt := 437) hx hb d_La_law_432 (by decide) (fun h => ?_) (fun h => ?_)
              · have vc := vc.1 h
                refine lv_goto (tgt := 1215) hx hb d_La_law_437 (by decide) ?_
                exact hnext ki co (upd pr k1.toNatClampNeg (pr k1.toNatClampNeg ||| (1 <<< ((iBits (pr k1.toNatClampNeg)) &&& 31)))) (upd pa (k1 * 12 + iBits (pr k1.toNatClampNeg) : Int32).toNatClampNeg k2) tw nv (if k1 < sv then k1 else sv) pn pl po pf pt ru le li bn ip aw ns ch ma br tl (vp_updL ou 0 ((iBits ((upd pr k1.toNatClampNeg (pr k1.toNatClampNeg ||| (1 <<< ((iBits (pr k1.toNatClampNeg)) &&& 31)))) k1.toNatClampNeg) : Int32).toInt64)) mki msz (upd mle k1.toNatClampNeg (mle k1.toNatClampNeg + 1)) (upd mel (8 * k1 + mle k1.toNatClampNeg : Int32).toNatClampNeg k2) mme mal mic mil mio mab mae msa mlc mli mna mva mma mch mre mlv mwr msh 0 mnv mns mfa mmo ls H locs vc (lv_sub hl [6, 5, 4, 3, 2] rfl) hP hD hS
              · have vc := vc.2 h
                refine lv_iconst (v := 0) hx hb d_La_law_435 (by decide) ?_
                exact vc.elim
          · exact absurd h (by decide)
