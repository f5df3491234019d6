def V_L0 (ki : Nat → Int32) (co : Nat → Int64) (pr : Nat → Int32) (pa : Nat → Int32) (tw : Nat → Int32) (nv : Int32) (sv : Int32) (pn : Nat → Int32) (pl : Nat → Int32) (po : Nat → Int32) (pf : Nat → Int32) (pt : Nat → Int32) (ru : Nat → Int32) (le : Nat → Int32) (li : Nat → Int32) (bn : Nat → Int32) (ip : Nat → Int32) (aw : Nat → Int32) (ns : Int32) (ch : Nat → Int32) (ma : Nat → Int32) (br : Nat → Int64) (tl : Int32) (ou : Nat → Int64) (mki : Nat → Int32) (msz : Nat → Int64) (mle : Nat → Int32) (mel : Nat → Int32) (mme : Nat → Int32) (mal : Nat → Int32) (mic : Nat → Int32) (mil : Nat → Int32) (mio : Nat → Int32) (mab : Nat → Int32) (mae : Nat → Int32) (msa : Nat → Int32) (mlc : Nat → Int32) (mli : Nat → Int32) (mna : Nat → Int32) (mva : Nat → Int32) (mma : Nat → Int32) (mch : Nat → Int32) (mre : Nat → Int32) (mlv : Nat → Int32) (mwr : Nat → Int64) (msh : Nat → Int32) (mth : Int32) (mnv : Int32) (mns : Int32) (mfa : Int32) (mmo : Int32) (k1 k2 k3 k4 : Int32) (post : (Nat → Int32) → (Nat → Int64) → (Nat → Int32) → (Nat → Int32) → (Nat → Int32) → Int32 → Int32 → (Nat → Int32) → (Nat → Int32) → (Nat → Int32) → (Nat → Int32) → (Nat → Int32) → (Nat → Int32) → (Nat → Int32) → (Nat → Int32) → (Nat → Int32) → (Nat → Int32) → (Nat → Int32) → Int32 → (Nat → Int32) → (Nat → Int32) → (Nat → Int64) → Int32 → (Nat → Int64) → (Nat → Int32) → (Nat → Int64) → (Nat → Int32) → (Nat → Int32) → (Nat → Int32) → (Nat → Int32) → (Nat → Int32) → (Nat → Int32) → (Nat → Int32) → (Nat → Int32) → (Nat → Int32) → (Nat → Int32) → (Nat → Int32) → (Nat → Int32) → (Nat → Int32) → (Nat → Int32) → (Nat → Int32) → (Nat → Int32) → (Nat → Int32) → (Nat → Int32) → (Nat → Int64) → (Nat → Int32) → Int32 → Int32 → Int32 → Int32 → Int32 → Prop) : Prop :=
  (¬ nv < 0 ∧ ((¬ (k1 = 0 ∨ k1 = 4 ∨ k1 = 5) → ((¬ mnv < 0 ∧ mnv ≤ 40) ∧ ((¬ (k1 = 0 ∨ k1 = 4 ∨ k1 = 5) → post ki co pr pa tw nv sv pn pl po pf pt ru le li bn ip aw ns ch ma br tl ou mki msz mle mel mme mal mic mil mio mab mae msa mlc mli mna mva mma mch mre mlv mwr msh 1 mnv mns mfa mmo) ∧ (¬ (¬ (k1 = 0 ∨ k1 = 4 ∨ k1 = 5)) → ((mnv = 40 → False) ∧ (¬ (mnv = 40) → False)))))) ∧ (¬ (¬ (k1 = 0 ∨ k1 = 4 ∨ k1 = 5)) → ((¬ nv < 40 → ((¬ mnv < 0 ∧ mnv ≤ 40) ∧ ((¬ (k1 = 0 ∨ k1 = 4 ∨ k1 = 5) → False) ∧ (¬ (¬ (k1 = 0 ∨ k1 = 4 ∨ k1 = 5)) → ((mnv = 40 → post ki co pr pa tw nv sv pn pl po pf pt ru le li bn ip aw ns ch ma br tl ou mki msz mle mel mme mal mic mil mio mab mae msa mlc mli mna mva mma mch mre mlv mwr msh 2 mnv mns mfa mmo) ∧ (¬ (mnv = 40) → False)))))) ∧ (¬ (¬ nv < 40) → ((¬ mnv < 0 ∧ mnv ≤ 40) ∧ ((¬ (k1 = 0 ∨ k1 = 4 ∨ k1 = 5) → False) ∧ (¬ (¬ (k1 = 0 ∨ k1 = 4 ∨ k1 = 5)) → ((mnv = 40 → False) ∧ (¬ (mnv = 40) → (((lg_cmp ((vp_updL ou 0 ((nv + 1 - 1 : Int32).toInt64)) (0 : Int32).toNatClampNeg) ((mnv + 1 - 1 : Int32).toInt64)) = 0 → post (upd ki nv.toNatClampNeg k1) (vp_updL co nv.toNatClampNeg 0) pr pa tw (nv + 1) sv pn pl po pf pt ru le li bn ip aw ns ch ma br tl (vp_updL ou 0 ((nv + 1 - 1 : Int32).toInt64)) (upd mki mnv.toNatClampNeg k1) (vp_updL msz mnv.toNatClampNeg 0) mle mel mme mal mic mil mio mab mae msa mlc mli mna mva mma mch mre mlv mwr msh 0 (mnv + 1) mns mfa mmo) ∧ (¬ (lg_cmp ((vp_updL ou 0 ((nv + 1 - 1 : Int32).toInt64)) (0 : Int32).toNatClampNeg) ((mnv + 1 - 1 : Int32).toInt64)) = 0 → False))))))))))))
set_option maxHeartbeats 4000000 in
set_option maxRecDepth 100000 in
theorem g_L0 {p : Program} {l : Launch} {e : Env} {R : Room} {s : State} {m : MethodId} {args : Array Value} {below : List Frame} {meth : Method} {c : Code} {H : Heap} {locs : List Loc} {cells slots : Nat} {Q : State → Prop} {ls : Array Slot} {A : Nat → Prop} (hls : l.stackTraces = false) (S : CallFix p m c code 7 s args W0 "SchemaJudgeLaw") (hN : eN s) (hRf : 9 ≤ R.frames) (hRl : 157 ≤ R.locals) (hRc : cells + 1 ≤ R.cells ∧ slots + 6 ≤ R.slots) (D : va_G) (a b : Nat → Nat) (cI cJ cZ : ClassId) (ki : Nat → Int32) (co : Nat → Int64) (pr : Nat → Int32) (pa : Nat → Int32) (tw : Nat → Int32) (nv : Int32) (sv : Int32) (pn : Nat → Int32) (pl : Nat → Int32) (po : Nat → Int32) (pf : Nat → Int32) (pt : Nat → Int32) (ru : Nat → Int32) (le : Nat → Int32) (li : Nat → Int32) (bn : Nat → Int32) (ip : Nat → Int32) (aw : Nat → Int32) (ns : Int32) (ch : Nat → Int32) (ma : Nat → Int32) (br : Nat → Int64) (tl : Int32) (ou : Nat → Int64) (mki : Nat → Int32) (msz : Nat → Int64) (mle : Nat → Int32) (mel : Nat → Int32) (mme : Nat → Int32) (mal : Nat → Int32) (mic : Nat → Int32) (mil : Nat → Int32) (mio : Nat → Int32) (mab : Nat → Int32) (mae : Nat → Int32) (msa : Nat → Int32) (mlc : Nat → Int32) (mli : Nat → Int32) (mna : Nat → Int32) (mva : Nat → Int32) (mma : Nat → Int32) (mch : Nat → Int32) (mre : Nat → Int32) (mlv : Nat → Int32) (mwr : Nat → Int64) (msh : Nat → Int32) (mth : Int32) (mnv : Int32) (mns : Int32) (mfa : Int32) (mmo : Int32) (k1 k2 k3 k4 : Int32) (sc L : Nat) (xs : Nat → Int32) (i : Int32) (hXs : va_X sc L xs s s.heap) (hbl : sc < s.heap.size) (hbA : ¬ A sc) (hi1 : vp_in (i + 1) L) (e1 : xs (i + 1 : Int32).toNatClampNeg = k1) (hi2 : vp_in (i + 2) L) (e2 : xs (i + 2 : Int32).toNatClampNeg = k2) (hi3 : vp_in (i + 3) L) (e3 : xs (i + 3 : Int32).toNatClampNeg = k3) (hi4 : vp_in (i + 4) L) (e4 : xs (i + 4 : Int32).toNatClampNeg = k4) (hK : va_K D vwCl (tyA cI cJ cZ) s) (hP : va_P D vwCl ((wX a ++ wV a cI cJ ki co pr pa tw nv sv ++ wP a cI cZ pn pl po pf pt ++ wS a cI ru le li bn ip aw ns ++ wL a ++ wJ a cI cJ ch ma br tl ++ wO a cJ ou) ++ (wM b cI cJ cZ mki msz mle mel mme mal mic mil mio mab mae msa mlc mli mna mva mma mch mre mlv mwr msh mth mnv mns mfa mmo)) H) (hD : va_D A ((wX a ++ wV a cI cJ ki co pr pa tw nv sv ++ wP a cI cZ pn pl po pf pt ++ wS a cI ru le li bn ip aw ns ++ wL a ++ wJ a cI cJ ch ma br tl ++ wO a cJ ou) ++ (wM b cI cJ cZ mki msz mle mel mme mal mic mil mio mab mae msa mlc mli mna mva mma mch mre mlv mwr msh mth mnv mns mfa mmo))) (hA : ∀ q, s.heap.size ≤ q → A q) (hS : va_S A s.heap H locs) (hX : eX A s s.heap) (hl : lv_has ls 7 [(4, .int i), (3, .ref (a 25)), (2, .ref (b 0)), (1, .ref (a 24)), (0, .ref sc)]) {post : (Nat → Int32) → (Nat → Int64) → (Nat → Int32) → (Nat → Int32) → (Nat → Int32) → Int32 → Int32 → (Nat → Int32) → (Nat → Int32) → (Nat → Int32) → (Nat → Int32) → (Nat → Int32) → (Nat → Int32) → (Nat → Int32) → (Nat → Int32) → (Nat → Int32) → (Nat → Int32) → (Nat → Int32) → Int32 → (Nat → Int32) → (Nat → Int32) → (Nat → Int64) → Int32 → (Nat → Int64) → (Nat → Int32) → (Nat → Int64) → (Nat → Int32) → (Nat → Int32) → (Nat → Int32) → (Nat → Int32) → (Nat → Int32) → (Nat → Int32) → (Nat → Int32) → (Nat → Int32) → (Nat → Int32) → (Nat → Int32) → (Nat → Int32) → (Nat → Int32) → (Nat → Int32) → (Nat → Int32) → (Nat → Int32) → (Nat → Int32) → (Nat → Int32) → (Nat → Int32) → (Nat → Int64) → (Nat → Int32) → Int32 → Int32 → Int32 → Int32 → Int32 → Prop} (vc : V_L0 ki co pr pa tw nv sv pn pl po pf pt ru le li bn ip aw ns ch ma br tl ou mki msz mle mel mme mal mic mil mio mab mae msa mlc mli mna mva mma mch mre mlv mwr msh mth mnv mns mfa mmo k1 k2 k3 k4 post)
    (hnext : ∀ (ki : Nat → Int32) (co : Nat → Int64) (pr : Nat → Int32) (pa : Nat → Int32) (tw : Nat → Int32) (nv : Int32) (sv : Int32) (pn : Nat → Int32) (pl : Nat → Int32) (po : Nat → Int32) (pf : Nat → Int32) (pt : Nat → Int32) (ru : Nat → Int32) (le : Nat → Int32) (li : Nat → Int32) (bn : Nat → Int32) (ip : Nat → Int32) (aw : Nat → Int32) (ns : Int32) (ch : Nat → Int32) (ma : Nat → Int32) (br : Nat → Int64) (tl : Int32) (ou : Nat → Int64) (mki : Nat → Int32) (msz : Nat → Int64) (mle : Nat → Int32) (mel : Nat → Int32) (mme : Nat → Int32) (mal : Nat → Int32) (mic : Nat → Int32) (mil : Nat → Int32) (mio : Nat → Int32) (mab : Nat → Int32) (mae : Nat → Int32) (msa : Nat → Int32) (mlc : Nat → Int32) (mli : Nat → Int32) (mna : Nat → Int32) (mva : Nat → Int32) (mma : Nat → Int32) (mch : Nat → Int32) (mre : Nat → Int32) (mlv : Nat → Int32) (mwr : Nat → Int64) (msh : Nat → Int32) (mth : Int32) (mnv : Int32) (mns : Int32) (mfa : Int32) (mmo : Int32) (ls : Array Slot) (H : Heap) (locs : List Loc), post ki co pr pa tw nv sv pn pl po pf pt ru le li bn ip aw ns ch ma br tl ou mki msz mle mel mme mal mic mil mio mab mae msa mlc mli mna mva mma mch mre mlv mwr msh mth mnv mns mfa mmo → lv_has ls 7 [(0, .ref sc), (1, .ref (a 24)), (2, .ref (b 0)), (3, .ref (a 25)), (4, .int i)] → va_P D vwCl ((wX a ++ wV a cI cJ ki co pr pa tw nv sv ++ wP a cI cZ pn pl po pf pt ++ wS a cI ru le li bn ip aw ns ++ wL a ++ wJ a cI cJ ch ma br tl ++ wO a cJ ou) ++ (wM b cI cJ cZ mki msz mle mel mme mal mic mil mio mab mae msa mlc mli mna mva mma mch mre mlv mwr msh mth mnv mns mfa mmo)) H → va_D A ((wX a ++ wV a cI cJ ki co pr pa tw nv sv ++ wP a cI cZ pn pl po pf pt ++ wS a cI ru le li bn ip aw ns ++ wL a ++ wJ a cI cJ ch ma br tl ++ wO a cJ ou) ++ (wM b cI cJ cZ mki msz mle mel mme mal mic mil mio mab mae msa mlc mli mna mva mma mch mre mlv mwr msh mth mnv mns mfa mmo)) → va_S A s.heap H locs → W p l e R s m args below meth c H locs (cells + 1) (slots + 6) Q (F0 m 1215 ls [])) : W p l e R s m args below meth c H locs cells slots Q (F0 m 120 ls []) := by
  have hx := S.1
  have hb := S.2.1
  have hown := S.2.2.2.1
  have hts := S.2.2.2.2
  have h01 : vp_in (0 : Int32) 1 := vp_in_nI (n := 0) (by decide) (by decide)
  unfold V_L0 at vc
  refine lv_aload_n hx hb d_La_law_120 rfl (lv_at hl 3 rfl) ?_
  refine lv_aload_n hx hb d_La_law_121 rfl (lv_at hl 4 rfl) ?_
  refine lv_iload hx hb d_La_law_122 (lv_at hl 0 rfl) ?_
  refine lv_iconst (v := 1) hx hb d_La_law_124 (by decide) ?_
  refine lv_iadd hx hb d_La_law_125 ?_
  refine va_sld hx hb hXs hbl hbA hS hi1 d_La_law_126 ?_
  rw [e1]
  refine lv_aload_n hx hb d_La_law_127 rfl (lv_at hl 1 rfl) ?_
  obtain ⟨hpre, vc⟩ := vc
  by_cases hv1 : ¬ (k1 = 0 ∨ k1 = 4 ∨ k1 = 5)
  · have vc := vc.1 hv1
    refine hc_1 (As := [.ref (a 24), .int k1, .ref (a 25)]) (rest := []) S (c_La_make_1 l hls D a cI cJ cZ ki co pr pa tw nv sv pn pl po pf pt ru le li bn ip aw ns ch ma br tl ou k1 hpre hv1) kw_La_make s_La_make o_La ml_La_78 hd_La_make (Nat.le_trans (by decide) hRf) (Nat.le_trans (by decide) hRl) hRc hK hP hD hS hA hX hN hl.1 rfl (Nat.le_of_ble_eq_true rfl) d_La_law_128 (fun _ H locs _ hP hD hS => ?_)
    refine lv_istore hx hb d_La_law_131 hl (by decide) (lv' := [(5, .int 1), (4, .int i), (3, .ref (a 25)), (2, .ref (b 0)), (1, .ref (a 24)), (0, .ref sc)]) rfl (fun ls hl => ?_)
    refine lv_aload_n hx hb d_La_law_133 rfl (lv_at hl 3 rfl) ?_
    refine lv_aload_n hx hb d_La_law_134 rfl (lv_at hl 5 rfl) ?_
    refine lv_iload hx hb d_La_law_135 (lv_at hl 1 rfl) ?_
    refine lv_iconst (v := 1) hx hb d_La_law_137 (by decide) ?_
    refine lv_iadd hx hb d_La_law_138 ?_
    refine va_sld hx hb hXs hbl hbA hS hi1 d_La_law_139 ?_
    rw [e1]
    obtain ⟨hpre, vc⟩ := vc
    by_cases hv1 : ¬ (k1 = 0 ∨ k1 = 4 ∨ k1 = 5)
    · have vc := vc.1 hv1
      refine wc_2 (As := [.int k1]) (rest := []) S (c_Mo_make_1 l D b cI cJ cZ mki msz mle mel mme mal mic mil mio mab mae msa mlc mli mna mva mma mch mre mlv mwr msh mth mnv mns mfa mmo k1 hpre hv1) k_Mo_make i_Mo_make e_Mo_make o_Mo ml_La_83 hd_Mo_make (Nat.le_trans (by decide) hRf) (Nat.le_trans (by decide) hRl) hRc (va_recv hK hP.r (q0 := 0) (ci := 6) rfl rfl) hK hP hD hS hA hl.1 rfl (Nat.le_of_ble_eq_true rfl) d_La_law_140 (fun _ H locs _ hP hD hS => ?_)
      refine lv_istore hx hb d_La_law_143 hl (by decide) (lv' := [(6, .int 0), (5, .int 1), (4, .int i), (3, .ref (a 25)), (2, .ref (b 0)), (1, .ref (a 24)), (0, .ref sc)]) rfl (fun ls hl => ?_)
      refine lv_aload_n hx hb d_La_law_145 rfl (lv_at hl 4 rfl) ?_
      refine pc_V (As := []) (rest := []) S (c_Mo_thrown l D b cI cJ cZ mki msz mle mel mme mal mic mil mio mab mae msa mlc mli mna mva mma mch mre mlv mwr msh 1 mnv mns mfa mmo) wB_blind k_Mo_thrown i_Mo_thrown e_Mo_thrown o_Mo ml_La_84 hd_Mo_thrown (Nat.le_trans (by decide) hRf) (Nat.le_trans (by decide) hRl) hRc (va_recv hK hP.r (q0 := 0) (ci := 6) rfl rfl) (wB_at hP.r hK) hl.1 rfl (Nat.le_of_ble_eq_true rfl) d_La_law_146 ?_
      refine lv_iload hx hb d_La_law_149 (lv_at hl 1 rfl) ?_
      refine lv_icmp_eq (tgt := 156) hx hb d_La_law_151 (by decide) (fun h => ?_) (fun h => ?_)
      · skip
        refine lv_iload hx hb d_La_law_156 (lv_at hl 1 rfl) ?_
        refine lv_if_ne (tgt := 173) hx hb d_La_law_158 (by decide) (fun h => ?_) (fun h => ?_)
        · skip
          refine lv_goto (tgt := 1215) hx hb d_La_law_173 (by decide) ?_
          exact hnext ki co pr pa tw nv sv pn pl po pf pt ru le li bn ip aw ns ch ma br tl ou mki msz mle mel mme mal mic mil mio mab mae msa mlc mli mna mva mma mch mre mlv mwr msh 1 mnv mns mfa mmo ls H locs vc (lv_sub hl [6, 5, 4, 3, 2] rfl) hP hD hS
        · exact absurd h (by decide)
      · exact absurd h (by decide)
    · have vc := vc.2 hv1
      by_cases hv2 : mnv = 40
      · have vc := vc.1 hv2
        refine wc_2 (As := [.int k1]) (rest := []) S (c_Mo_make_2 l D b cI cJ cZ mki msz mle mel mme mal mic mil mio mab mae msa mlc mli mna mva mma mch mre mlv mwr msh mth mnv mns mfa mmo k1 hpre hv1 hv2) k_Mo_make i_Mo_make e_Mo_make o_Mo ml_La_83 hd_Mo_make (Nat.le_trans (by decide) hRf) (Nat.le_trans (by decide) hRl) hRc (va_recv hK hP.r (q0 := 0) (ci := 6) rfl rfl) hK hP hD hS hA hl.1 rfl (Nat.le_of_ble_eq_true rfl) d_La_law_140 (fun _ H locs _ hP hD hS => ?_)
        refine lv_istore hx hb d_La_law_143 hl (by decide) (lv' := [(6, .int 0), (5, .int 1), (4, .int i), (3, .ref (a 25)), (2, .ref (b 0)), (1, .ref (a 24)), (0, .ref sc)]) rfl (fun ls hl => ?_)
        refine lv_aload_n hx hb d_La_law_145 rfl (lv_at hl 4 rfl) ?_
        refine pc_V (As := []) (rest := []) S (c_Mo_thrown l D b cI cJ cZ mki msz mle mel mme mal mic mil mio mab mae msa mlc mli mna mva mma mch mre mlv mwr msh 2 mnv mns mfa mmo) wB_blind k_Mo_thrown i_Mo_thrown e_Mo_thrown o_Mo ml_La_84 hd_Mo_thrown (Nat.le_trans (by decide) hRf) (Nat.le_trans (by decide) hRl) hRc (va_recv hK hP.r (q0 := 0) (ci := 6) rfl rfl) (wB_at hP.r hK) hl.1 rfl (Nat.le_of_ble_eq_true rfl) d_La_law_146 ?_
        refine lv_iload hx hb d_La_law_149 (lv_at hl 1 rfl) ?_
        refine lv_icmp_eq (tgt := 156) hx hb d_La_law_151 (by decide) (fun h => ?_) (fun h => ?_)
        · exact absurd h (by decide)
        · skip
          refine lv_iconst (v := 0) hx hb d_La_law_154 (by decide) ?_
          exact vc.elim
      · have vc := vc.2 hv2
        refine wc_2 (As := [.int k1]) (rest := []) S (c_Mo_make_3 l D b cI cJ cZ mki msz mle mel mme mal mic mil mio mab mae msa mlc mli mna mva mma mch mre mlv mwr msh mth mnv mns mfa mmo k1 hpre hv1 hv2) k_Mo_make i_Mo_make e_Mo_make o_Mo ml_La_83 hd_Mo_make (Nat.le_trans (by decide) hRf) (Nat.le_trans (by decide) hRl) hRc (va_recv hK hP.r (q0 := 0) (ci := 6) rfl rfl) hK hP hD hS hA hl.1 rfl (Nat.le_of_ble_eq_true rfl) d_La_law_140 (fun _ H locs _ hP hD hS => ?_)
        refine lv_istore hx hb d_La_law_143 hl (by decide) (lv' := [(6, .int (mnv + 1 - 1)), (5, .int 1), (4, .int i), (3, .ref (a 25)), (2, .ref (b 0)), (1, .ref (a 24)), (0, .ref sc)]) rfl (fun ls hl => ?_)
        refine lv_aload_n hx hb d_La_law_145 rfl (lv_at hl 4 rfl) ?_
        refine pc_V (As := []) (rest := []) S (c_Mo_thrown l D b cI cJ cZ (upd mki mnv.toNatClampNeg k1) (vp_updL msz mnv.toNatClampNeg 0) mle mel mme mal mic mil mio mab mae msa mlc mli mna mva mma mch mre mlv mwr msh 0 (mnv + 1) mns mfa mmo) wB_blind k_Mo_thrown i_Mo_thrown e_Mo_thrown o_Mo ml_La_84 hd_Mo_thrown (Nat.le_trans (by decide) hRf) (Nat.le_trans (by decide) hRl) hRc (va_recv hK hP.r (q0 := 0) (ci := 6) rfl rfl) (wB_at hP.r hK) hl.1 rfl (Nat.le_of_ble_eq_true rfl) d_La_law_146 ?_
        refine lv_iload hx hb d_La_law_149 (lv_at hl 1 rfl) ?_
        refine lv_icmp_eq (tgt := 156) hx hb d_La_law_151 (by decide) (fun h => ?_) (fun h => ?_)
        · exact absurd h (by decide)
        · skip
          refine lv_iconst (v := 0) hx hb d_La_law_154 (by decide) ?_
          exact vc.elim
  · have vc := vc.2 hv1
    by_cases hv2 : ¬ nv < 40
    · have vc := vc.1 hv2
      refine hc_1 (As := [.ref (a 24), .int k1, .ref (a 25)]) (rest := []) S (c_La_make_2 l hls D a cI cJ cZ ki co pr pa tw nv sv pn pl po pf pt ru le li bn ip aw ns ch ma br tl ou k1 hpre hv1 hv2) kw_La_make s_La_make o_La ml_La_78 hd_La_make (Nat.le_trans (by decide) hRf) (Nat.le_trans (by decide) hRl) hRc hK hP hD hS hA hX hN hl.1 rfl (Nat.le_of_ble_eq_true rfl) d_La_law_128 (fun _ H locs _ hP hD hS => ?_)
      refine lv_istore hx hb d_La_law_131 hl (by decide) (lv' := [(5, .int 2), (4, .int i), (3, .ref (a 25)), (2, .ref (b 0)), (1, .ref (a 24)), (0, .ref sc)]) rfl (fun ls hl => ?_)
      refine lv_aload_n hx hb d_La_law_133 rfl (lv_at hl 3 rfl) ?_
      refine lv_aload_n hx hb d_La_law_134 rfl (lv_at hl 5 rfl) ?_
      refine lv_iload hx hb d_La_law_135 (lv_at hl 1 rfl) ?_
      refine lv_iconst (v := 1) hx hb d_La_law_137 (by decide) ?_
      refine lv_iadd hx hb d_La_law_138 ?_
      refine va_sld hx hb hXs hbl hbA hS hi1 d_La_law_139 ?_
      rw [e1]
      obtain ⟨hpre, vc⟩ := vc
      by_cases hv1 : ¬ (k1 = 0 ∨ k1 = 4 ∨ k1 = 5)
      · have vc := vc.1 hv1
        refine wc_2 (As := [.int k1]) (rest := []) S (c_Mo_make_1 l D b cI cJ cZ mki msz mle mel mme mal mic mil mio mab mae msa mlc mli mna mva mma mch mre mlv mwr msh mth mnv mns mfa mmo k1 hpre hv1) k_Mo_make i_Mo_make e_Mo_make o_Mo ml_La_83 hd_Mo_make (Nat.le_trans (by decide) hRf) (Nat.le_trans (by decide) hRl) hRc (va_recv hK hP.r (q0 := 0) (ci := 6) rfl rfl) hK hP hD hS hA hl.1 rfl (Nat.le_of_ble_eq_true rfl) d_La_law_140 (fun _ H locs _ hP hD hS => ?_)
        refine lv_istore hx hb d_La_law_143 hl (by decide) (lv' := [(6, .int 0), (5, .int 2), (4, .int i), (3, .ref (a 25)), (2, .ref (b 0)), (1, .ref (a 24)), (0, .ref sc)]) rfl (fun ls hl => ?_)
        refine lv_aload_n hx hb d_La_law_145 rfl (lv_at hl 4 rfl) ?_
        refine pc_V (As := []) (rest := []) S (c_Mo_thrown l D b cI cJ cZ mki msz mle mel mme mal mic mil mio mab mae msa mlc mli mna mva mma mch mre mlv mwr msh 1 mnv mns mfa mmo) wB_blind k_Mo_thrown i_Mo_thrown e_Mo_thrown o_Mo ml_La_84 hd_Mo_thrown (Nat.le_trans (by decide) hRf) (Nat.le_trans (by decide) hRl) hRc (va_recv hK hP.r (q0 := 0) (ci := 6) rfl rfl) (wB_at hP.r hK) hl.1 rfl (Nat.le_of_ble_eq_true rfl) d_La_law_146 ?_
        refine lv_iload hx hb d_La_law_149 (lv_at hl 1 rfl) ?_
        refine lv_icmp_eq (tgt := 156) hx hb d_La_law_151 (by decide) (fun h => ?_) (fun h => ?_)
        · exact absurd h (by decide)
        · skip
          refine lv_iconst (v := 0) hx hb d_La_law_154 (by decide) ?_
          exact vc.elim
      · have vc := vc.2 hv1
        by_cases hv2 : mnv = 40
        · have vc := vc.1 hv2
          refine wc_2 (As := [.int k1]) (rest := []) S (c_Mo_make_2 l D b cI cJ cZ mki msz mle mel mme mal mic mil mio mab mae msa mlc mli mna mva mma mch mre mlv mwr msh mth mnv mns mfa mmo k1 hpre hv1 hv2) k_Mo_make i_Mo_make e_Mo_make o_Mo ml_La_83 hd_Mo_make (Nat.le_trans (by decide) hRf) (Nat.le_trans (by decide) hRl) hRc (va_recv hK hP.r (q0 := 0) (ci := 6) rfl rfl) hK hP hD hS hA hl.1 rfl (Nat.le_of_ble_eq_true rfl) d_La_law_140 (fun _ H locs _ hP hD hS => ?_)
          refine lv_istore hx hb d_La_law_143 hl (by decide) (lv' := [(6, .int 0), (5, .int 2), (4, .int i), (3, .ref (a 25)), (2, .ref (b 0)), (1, .ref (a 24)), (0, .ref sc)]) rfl (fun ls hl => ?_)
          refine lv_aload_n hx hb d_La_law_145 rfl (lv_at hl 4 rfl) ?_
          refine pc_V (As := []) (rest := []) S (c_Mo_thrown l D b cI cJ cZ mki msz mle mel mme mal mic mil mio mab mae msa mlc mli mna mva mma mch mre mlv mwr msh 2 mnv mns mfa mmo) wB_blind k_Mo_thrown i_Mo_thrown e_Mo_thrown o_Mo ml_La_84 hd_Mo_thrown (Nat.le_trans (by decide) hRf) (Nat.le_trans (by decide) hRl) hRc (va_recv hK hP.r (q0 := 0) (ci := 6) rfl rfl) (wB_at hP.r hK) hl.1 rfl (Nat.le_of_ble_eq_true rfl) d_La_law_146 ?_
          refine lv_iload hx hb d_La_law_149 (lv_at hl 1 rfl) ?_
          refine lv_icmp_eq (tgt := 156) hx hb d_La_law_151 (by decide) (fun h => ?_) (fun h => ?_)
          · skip
            refine lv_iload hx hb d_La_law_156 (lv_at hl 1 rfl) ?_
            refine lv_if_ne (tgt := 173) hx hb d_La_law_158 (by decide) (fun h => ?_) (fun h => ?_)
            · skip
              refine lv_goto (tgt := 1215) hx hb d_La_law_173 (by decide) ?_
              exact hnext ki co pr pa tw nv sv pn pl po pf pt ru le li bn ip aw ns ch ma br tl ou mki msz mle mel mme mal mic mil mio mab mae msa mlc mli mna mva mma mch mre mlv mwr msh 2 mnv mns mfa mmo ls H locs vc (lv_sub hl [6, 5, 4, 3, 2] rfl) hP hD hS
            · exact absurd h (by decide)
          · exact absurd h (by decide)
        · have vc := vc.2 hv2
          refine wc_2 (As := [.int k1]) (rest := []) S (c_Mo_make_3 l D b cI cJ cZ mki msz mle mel mme mal mic mil mio mab mae msa mlc mli mna mva mma mch mre mlv mwr msh mth mnv mns mfa mmo k1 hpre hv1 hv2) k_Mo_make i_Mo_make e_Mo_make o_Mo ml_La_83 hd_Mo_make (Nat.le_trans (by decide) hRf) (Nat.le_trans (by decide) hRl) hRc (va_recv hK hP.r (q0 := 0) (ci := 6) rfl rfl) hK hP hD hS hA hl.1 rfl (Nat.le_of_ble_eq_true rfl) d_La_law_140 (fun _ H locs _ hP hD hS => ?_)
          refine lv_istore hx hb d_La_law_143 hl (by decide) (lv' := [(6, .int (mnv + 1 - 1)), (5, .int 2), (4, .int i), (3, .ref (a 25)), (2, .ref (b 0)), (1, .ref (a 24)), (0, .ref sc)]) rfl (fun ls hl => ?_)
          refine lv_aload_n hx hb d_La_law_145 rfl (lv_at hl 4 rfl) ?_
          refine pc_V (As := []) (rest := []) S (c_Mo_thrown l D b cI cJ cZ (upd mki mnv.toNatClampNeg k1) (vp_updL msz mnv.toNatClampNeg 0) mle mel mme mal mic mil mio mab mae msa mlc mli mna mva mma mch mre mlv mwr msh 0 (mnv + 1) mns mfa mmo) wB_blind k_Mo_thrown i_Mo_thrown e_Mo_thrown o_Mo ml_La_84 hd_Mo_thrown (Nat.le_trans (by decide) hRf) (Nat.le_trans (by decide) hRl) hRc (va_recv hK hP.r (q0 := 0) (ci := 6) rfl rfl) (wB_at hP.r hK) hl.1 rfl (Nat.le_of_ble_eq_true rfl) d_La_law_146 ?_
          refine lv_iload hx hb d_La_law_149 (lv_at hl 1 rfl) ?_
          refine lv_icmp_eq (tgt := 156) hx hb d_La_law_151 (by decide) (fun h => ?_) (fun h => ?_)
          · exact absurd h (by decide)
          · skip
            refine lv_iconst (v := 0) hx hb d_La_law_154 (by decide) ?_
            exact vc.elim
    · have vc := vc.2 hv2
      refine hc_1 (As := [.ref (a 24), .int k1, .ref (a 25)]) (rest := []) S (c_La_make_3 l hls D a cI cJ cZ ki co pr pa tw nv sv pn pl po pf pt ru le li bn ip aw ns ch ma br tl ou k1 hpre hv1 hv2) kw_La_make s_La_make o_La ml_La_78 hd_La_make (Nat.le_trans (by decide) hRf) (Nat.le_trans (by decide) hRl) hRc hK hP hD hS hA hX hN hl.1 rfl (Nat.le_of_ble_eq_true rfl) d_La_law_128 (fun _ H locs _ hP hD hS => ?_)
      refine lv_istore hx hb d_La_law_131 hl (by decide) (lv' := [(5, .int 0), (4, .int i), (3, .ref (a 25)), (2, .ref (b 0)), (1, .ref (a 24)), (0, .ref sc)]) rfl (fun ls hl => ?_)
      refine lv_aload_n hx hb d_La_law_133 rfl (lv_at hl 3 rfl) ?_
      refine lv_aload_n hx hb d_La_law_134 rfl (lv_at hl 5 rfl) ?_
      refine lv_iload hx hb d_La_law_135 (lv_at hl 1 rfl) ?_
      refine lv_iconst (v := 1) hx hb d_La_law_137 (by decide) ?_
      refine lv_iadd hx hb d_La_law_138 ?_
      refine va_sld hx hb hXs hbl hbA hS hi1 d_La_law_139 ?_
      rw [e1]
      obtain ⟨hpre, vc⟩ := vc
      by_cases hv1 : ¬ (k1 = 0 ∨ k1 = 4 ∨ k1 = 5)
      · have vc := vc.1 hv1
        refine wc_2 (As := [.int k1]) (rest := []) S (c_Mo_make_1 l D b cI cJ cZ mki msz mle mel mme mal mic mil mio mab mae msa mlc mli mna mva mma mch mre mlv mwr msh mth mnv mns mfa mmo k1 hpre hv1) k_Mo_make i_Mo_make e_Mo_make o_Mo ml_La_83 hd_Mo_make (Nat.le_trans (by decide) hRf) (Nat.le_trans (by decide) hRl) hRc (va_recv hK hP.r (q0 := 0) (ci := 6) rfl rfl) hK hP hD hS hA hl.1 rfl (Nat.le_of_ble_eq_true rfl) d_La_law_140 (fun _ H locs _ hP hD hS => ?_)
        refine lv_istore hx hb d_La_law_143 hl (by decide) (lv' := [(6, .int 0), (5, .int 0), (4, .int i), (3, .ref (a 25)), (2, .ref (b 0)), (1, .ref (a 24)), (0, .ref sc)]) rfl (fun ls hl => ?_)
        refine lv_aload_n hx hb d_La_law_145 rfl (lv_at hl 4 rfl) ?_
        refine pc_V (As := []) (rest := []) S (c_Mo_thrown l D b cI cJ cZ mki msz mle mel mme mal mic mil mio mab mae msa mlc mli mna mva mma mch mre mlv mwr msh 1 mnv mns mfa mmo) wB_blind k_Mo_thrown i_Mo_thrown e_Mo_thrown o_Mo ml_La_84 hd_Mo_thrown (Nat.le_trans (by decide) hRf) (Nat.le_trans (by decide) hRl) hRc (va_recv hK hP.r (q0 := 0) (ci := 6) rfl rfl) (wB_at hP.r hK) hl.1 rfl (Nat.le_of_ble_eq_true rfl) d_La_law_146 ?_
        refine lv_iload hx hb d_La_law_149 (lv_at hl 1 rfl) ?_
        refine lv_icmp_eq (tgt := 156) hx hb d_La_law_151 (by decide) (fun h => ?_) (fun h => ?_)
        · exact absurd h (by decide)
        · skip
          refine lv_iconst (v := 0) hx hb d_La_law_154 (by decide) ?_
          exact vc.elim
      · have vc := vc.2 hv1
        by_cases hv2 : mnv = 40
        · have vc := vc.1 hv2
          refine wc_2 (As := [.int k1]) (rest := []) S (c_Mo_make_2 l D b cI cJ cZ mki msz mle mel mme mal mic mil mio mab mae msa mlc mli mna mva mma mch mre mlv mwr msh mth mnv mns mfa mmo k1 hpre hv1 hv2) k_Mo_make i_Mo_make e_Mo_make o_Mo ml_La_83 hd_Mo_make (Nat.le_trans (by decide) hRf) (Nat.le_trans (by decide) hRl) hRc (va_recv hK hP.r (q0 := 0) (ci := 6) rfl rfl) hK hP hD hS hA hl.1 rfl (Nat.le_of_ble_eq_true rfl) d_La_law_140 (fun _ H locs _ hP hD hS => ?_)
          refine lv_istore hx hb d_La_law_143 hl (by decide) (lv' := [(6, .int 0), (5, .int 0), (4, .int i), (3, .ref (a 25)), (2, .ref (b 0)), (1, .ref (a 24)), (0, .ref sc)]) rfl (fun ls hl => ?_)
          refine lv_aload_n hx hb d_La_law_145 rfl (lv_at hl 4 rfl) ?_
          refine pc_V (As := []) (rest := []) S (c_Mo_thrown l D b cI cJ cZ mki msz mle mel mme mal mic mil mio mab mae msa mlc mli mna mva mma mch mre mlv mwr msh 2 mnv mns mfa mmo) wB_blind k_Mo_thrown i_Mo_thrown e_Mo_thrown o_Mo ml_La_84 hd_Mo_thrown (Nat.le_trans (by decide) hRf) (Nat.le_trans (by decide) hRl) hRc (va_recv hK hP.r (q0 := 0) (ci := 6) rfl rfl) (wB_at hP.r hK) hl.1 rfl (Nat.le_of_ble_eq_true rfl) d_La_law_146 ?_
          refine lv_iload hx hb d_La_law_149 (lv_at hl 1 rfl) ?_
          refine lv_icmp_eq (tgt := 156) hx hb d_La_law_151 (by decide) (fun h => ?_) (fun h => ?_)
          · exact absurd h (by decide)
          · skip
            refine lv_iconst (v := 0) hx hb d_La_law_154 (by decide) ?_
            exact vc.elim
        · have vc := vc.2 hv2
          refine wc_2 (As := [.int k1]) (rest := []) S (c_Mo_make_3 l D b cI cJ cZ mki msz mle mel mme mal mic mil mio mab mae msa mlc mli mna mva mma mch mre mlv mwr msh mth mnv mns mfa mmo k1 hpre hv1 hv2) k_Mo_make i_Mo_make e_Mo_make o_Mo ml_La_83 hd_Mo_make (Nat.le_trans (by decide) hRf) (Nat.le_trans (by decide) hRl) hRc (va_recv hK hP.r (q0 := 0) (ci := 6) rfl rfl) hK hP hD hS hA hl.1 rfl (Nat.le_of_ble_eq_true rfl) d_La_law_140 (fun _ H locs _ hP hD hS => ?_)
          refine lv_istore hx hb d_La_law_143 hl (by decide) (lv' := [(6, .int (mnv + 1 - 1)), (5, .int 0), (4, .int i), (3, .ref (a 25)), (2, .ref (b 0)), (1, .ref (a 24)), (0, .ref sc)]) rfl (fun ls hl => ?_)
          refine lv_aload_n hx hb d_La_law_145 rfl (lv_at hl 4 rfl) ?_
          refine pc_V (As := []) (rest := []) S (c_Mo_thrown l D b cI cJ cZ (upd mki mnv.toNatClampNeg k1) (vp_updL msz mnv.toNatClampNeg 0) mle mel mme mal mic mil mio mab mae msa mlc mli mna mva mma mch mre mlv mwr msh 0 (mnv + 1) mns mfa mmo) wB_blind k_Mo_thrown i_Mo_thrown e_Mo_thrown o_Mo ml_La_84 hd_Mo_thrown (Nat.le_trans (by decide) hRf) (Nat.le_trans (by decide) hRl) hRc (va_recv hK hP.r (q0 := 0) (ci := 6) rfl rfl) (wB_at hP.r hK) hl.1 rfl (Nat.le_of_ble_eq_true rfl) d_La_law_146 ?_
          refine lv_iload hx hb d_La_law_149 (lv_at hl 1 rfl) ?_
          refine lv_icmp_eq (tgt := 156) hx hb d_La_law_151 (by decide) (fun h => ?_) (fun h => ?_)
          · skip
            refine lv_iload hx hb d_La_law_156 (lv_at hl 1 rfl) ?_
            refine lv_if_ne (tgt := 173) hx hb d_La_law_158 (by decide) (fun h => ?_) (fun h => ?_)
            · exact absurd h (by decide)
            · skip
              refine lv_aload_n hx hb d_La_law_161 rfl (lv_at hl 3 rfl) ?_
              refine lv_iconst (v := 0) hx hb d_La_law_162 (by decide) ?_
              refine va_lald hx hb hK hP.l 25 1 rfl rfl h01 d_La_law_163 ?_
              refine lv_iload hx hb d_La_law_164 (lv_at hl 0 rfl) ?_
              refine lv_i2l hx hb d_La_law_166 rfl ?_
              refine W.lcmp hx hb d_La_law_167 ?_
              refine lv_if_eq (tgt := 173) hx hb d_La_law_168 (by decide) (fun h => ?_) (fun h => ?_)
              · have vc := vc.1 h
                refine lv_goto (tgt := 1215) hx hb d_La_law_173 (by decide) ?_
                exact hnext (upd ki nv.toNatClampNeg k1) (vp_updL co nv.toNatClampNeg 0) pr pa tw (nv + 1) sv pn pl po pf pt ru le li bn ip aw ns ch ma br tl (vp_updL ou 0 ((nv + 1 - 1 : Int32).toInt64)) (upd mki mnv.toNatClampNeg k1) (vp_updL msz mnv.toNatClampNeg 0) mle mel mme mal mic mil mio mab mae msa mlc mli mna mva mma mch mre mlv mwr msh 0 (mnv + 1) mns mfa mmo ls H locs vc (lv_sub hl [6, 5, 4, 3, 2] rfl) hP hD hS
              · have vc := vc.2 h
                refine lv_iconst (v := 0) hx hb d_La_law_171 (by decide) ?_
                exact vc.elim
          · exact absurd h (by decide)
