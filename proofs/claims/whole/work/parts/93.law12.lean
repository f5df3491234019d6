def V_L12F (ki : Nat → Int32) (co : Nat → Int64) (pr : Nat → Int32) (pa : Nat → Int32) (tw : Nat → Int32) (nv : Int32) (sv : Int32) (pn : Nat → Int32) (pl : Nat → Int32) (po : Nat → Int32) (pf : Nat → Int32) (pt : Nat → Int32) (ru : Nat → Int32) (le : Nat → Int32) (li : Nat → Int32) (bn : Nat → Int32) (ip : Nat → Int32) (aw : Nat → Int32) (ns : Int32) (ch : Nat → Int32) (ma : Nat → Int32) (br : Nat → Int64) (tl : Int32) (ou : Nat → Int64) (mki : Nat → Int32) (msz : Nat → Int64) (mle : Nat → Int32) (mel : Nat → Int32) (mme : Nat → Int32) (mal : Nat → Int32) (mic : Nat → Int32) (mil : Nat → Int32) (mio : Nat → Int32) (mab : Nat → Int32) (mae : Nat → Int32) (msa : Nat → Int32) (mlc : Nat → Int32) (mli : Nat → Int32) (mna : Nat → Int32) (mva : Nat → Int32) (mma : Nat → Int32) (mch : Nat → Int32) (mre : Nat → Int32) (mlv : Nat → Int32) (mwr : Nat → Int64) (msh : Nat → Int32) (mth : Int32) (mnv : Int32) (mns : Int32) (mfa : Int32) (mmo : Int32) (k1 k2 k3 k4 : Int32) (post : (Nat → Int32) → (Nat → Int64) → (Nat → Int32) → (Nat → Int32) → (Nat → Int32) → Int32 → Int32 → (Nat → Int32) → (Nat → Int32) → (Nat → Int32) → (Nat → Int32) → (Nat → Int32) → (Nat → Int32) → (Nat → Int32) → (Nat → Int32) → (Nat → Int32) → (Nat → Int32) → (Nat → Int32) → Int32 → (Nat → Int32) → (Nat → Int32) → (Nat → Int64) → Int32 → (Nat → Int64) → (Nat → Int32) → (Nat → Int64) → (Nat → Int32) → (Nat → Int32) → (Nat → Int32) → (Nat → Int32) → (Nat → Int32) → (Nat → Int32) → (Nat → Int32) → (Nat → Int32) → (Nat → Int32) → (Nat → Int32) → (Nat → Int32) → (Nat → Int32) → (Nat → Int32) → (Nat → Int32) → (Nat → Int32) → (Nat → Int32) → (Nat → Int32) → (Nat → Int32) → (Nat → Int64) → (Nat → Int32) → Int32 → Int32 → Int32 → Int32 → Int32 → Prop) : Prop :=
  ((∃ n0 m0 k0 : Nat, nv = nI n0 ∧ ns = nI m0 ∧ SOK ki co pr pa pn po ru le li bn n0 m0 ∧ k0 ≤ n0 ∧ sv = nI k0 ∧ TwOK ki co pr pa tw k0) ∧ (∀ (x1 : Int32) (f2 : Nat → Int32) (u3 : Int32) (f4 : Nat → Int32) (f5 : Nat → Int32) (f6 : Nat → Int32) (f7 : Nat → Int32) (f8 : Nat → Int64) (u9 : Int32) (f10 : Nat → Int64), (((x1 = 1 ∧ ¬ (sHas ns k1 = true ∧ sHas nv k2 = true) ∧ f2 = tw ∧ u3 = sv ∧ f4 = ip ∧ f5 = aw ∧ f6 = ch ∧ f7 = ma ∧ f8 = br ∧ u9 = tl) ∨ (x1 = 2 ∧ (sHas ns k1 = true ∧ sHas nv k2 = true) ∧ Cir ru le li bn ns.toNatClampNeg k1.toNatClampNeg ∧ Zst f6 f7 f8 u9 ∧ f2 = tw ∧ u3 = sv) ∨ (x1 = 3 ∧ (sHas ns k1 = true ∧ sHas nv k2 = true) ∧ ¬ Cir ru le li bn ns.toNatClampNeg k1.toNatClampNeg ∧ (∀ n : Nat, nv = nI n → n ≤ 40 → TwOK ki co pr pa f2 n ∧ u3 = nv) ∧ Zst f6 f7 f8 u9 ∧ (∀ (G : Sp) (R : Nat → Nat → Prop) (lv : Nat → Nat), (∃ va mk, G = gC ki co pr pa f2 pn pl po pf pt ru le li bn nv.toNatClampNeg va mk) → Ctx G R lv → R k1.toNatClampNeg k2.toNatClampNeg → Jdone G R k1.toNatClampNeg k2.toNatClampNeg false f6 f7 f8)) ∨ (x1 = 0 ∧ (sHas ns k1 = true ∧ sHas nv k2 = true) ∧ ¬ Cir ru le li bn ns.toNatClampNeg k1.toNatClampNeg ∧ (∀ n : Nat, nv = nI n → n ≤ 40 → TwOK ki co pr pa f2 n ∧ u3 = nv) ∧ u9 = 0 ∧ (∀ (G : Sp) (R : Nat → Nat → Prop) (lv : Nat → Nat), (∃ va mk, G = gC ki co pr pa f2 pn pl po pf pt ru le li bn nv.toNatClampNeg va mk) → Ctx G R lv → R k1.toNatClampNeg k2.toNatClampNeg → Jdone G R k1.toNatClampNeg k2.toNatClampNeg true f6 f7 f8) ∧ ∃ rr : Bool, (rr = true ↔ f8 (k2.toNatClampNeg * 24 + k1.toNatClampNeg) = 0) ∧ f10 0 = if rr = true then 1 else 0))) → ((∃ n0 m0 : Nat, mnv = nI n0 ∧ mns = nI m0 ∧ MSOK mki msz mle mel mme mic mio msa mlc mli mna mva n0 m0) ∧ (∀ (t11 : Bool) (f12 : Nat → Int32) (f13 : Nat → Int32) (f14 : Nat → Int32) (f15 : Nat → Int32) (f16 : Nat → Int32) (f17 : Nat → Int32) (f18 : Nat → Int64) (f19 : Nat → Int32) (u20 : Int32) (u21 : Int32) (u22 : Int32), (((¬ (sHas mns k1 = true ∧ sHas mnv k2 = true) → u20 = 1 ∧ f15 = mch ∧ f18 = mwr ∧ f19 = msh ∧ u21 = mfa ∧ f13 = mva) ∧ (sHas mns k1 = true ∧ sHas mnv k2 = true → Cir msa mlc mli mna mns.toNatClampNeg k1.toNatClampNeg → u20 = 2 ∧ Zm f15 f18 u21 ∧ f13 = mva) ∧ (sHas mns k1 = true ∧ sHas mnv k2 = true → ¬ Cir msa mlc mli mna mns.toNatClampNeg k1.toNatClampNeg → (∀ j, j < 960 → f13 j = 0 ∨ f13 j = 1) ∧ AlOK mki msz mle mel mme f12 mnv.toNatClampNeg ∧ ∃ lv, Ctx (gM mki msz mle mel mme f12 mic mil mio mab mae msa mlc mli mna f13 f14 mnv.toNatClampNeg) (RD (gM mki msz mle mel mme f12 mic mil mio mab mae msa mlc mli mna f13 f14 mnv.toNatClampNeg) k1.toNatClampNeg k2.toNatClampNeg) lv ∧ ((Path (gM mki msz mle mel mme f12 mic mil mio mab mae msa mlc mli mna f13 f14 mnv.toNatClampNeg) 31 k1.toNatClampNeg k2.toNatClampNeg ∧ u20 = 3 ∧ Zm f15 f18 u21) ∨ (u20 = 0 ∧ MJd (gM mki msz mle mel mme f12 mic mil mio mab mae msa mlc mli mna f13 f14 mnv.toNatClampNeg) k1.toNatClampNeg k2.toNatClampNeg t11 f15 f19 f18 u21))))) → ((u20 = x1 → ((¬ x1 = 0 → post ki co pr pa f2 nv u3 pn pl po pf pt ru le li bn f4 f5 ns f6 f7 f8 u9 f10 mki msz mle mel mme f12 mic mil mio mab mae msa mlc mli mna f13 f14 f15 f16 f17 f18 f19 u20 mnv mns u21 u22) ∧ (x1 = 0 → (((bI t11) = 0 → (((lg_cmp (f10 (0 : Int32).toNatClampNeg) 0) = 0 → post ki co pr pa f2 nv u3 pn pl po pf pt ru le li bn f4 f5 ns f6 f7 f8 u9 f10 mki msz mle mel mme f12 mic mil mio mab mae msa mlc mli mna f13 f14 f15 f16 f17 f18 f19 u20 mnv mns u21 u22) ∧ (¬ (lg_cmp (f10 (0 : Int32).toNatClampNeg) 0) = 0 → False))) ∧ (¬ (bI t11) = 0 → (((lg_cmp (f10 (0 : Int32).toNatClampNeg) 1) = 0 → post ki co pr pa f2 nv u3 pn pl po pf pt ru le li bn f4 f5 ns f6 f7 f8 u9 f10 mki msz mle mel mme f12 mic mil mio mab mae msa mlc mli mna f13 f14 f15 f16 f17 f18 f19 u20 mnv mns u21 u22) ∧ (¬ (lg_cmp (f10 (0 : Int32).toNatClampNeg) 1) = 0 → False))))))) ∧ (¬ u20 = x1 → False))))))
set_option maxHeartbeats 4000000 in
set_option maxRecDepth 100000 in
theorem g_L12F {p : Program} {l : Launch} {e : Env} {R : Room} {s : State} {m : MethodId} {args : Array Value} {below : List Frame} {meth : Method} {c : Code} {H : Heap} {locs : List Loc} {cells slots : Nat} {Q : State → Prop} {ls : Array Slot} {A : Nat → Prop} (hls : l.stackTraces = false) (S : CallFix p m c code 7 s args W0 "SchemaJudgeLaw") (hN : eN s) (hRf : 168 ≤ R.frames) (hRl : 6189 ≤ R.locals) (hRc : cells + 1 ≤ R.cells ∧ slots + 6 ≤ R.slots) (D : va_G) (a b : Nat → Nat) (cI cJ cZ : ClassId) (ki : Nat → Int32) (co : Nat → Int64) (pr : Nat → Int32) (pa : Nat → Int32) (tw : Nat → Int32) (nv : Int32) (sv : Int32) (pn : Nat → Int32) (pl : Nat → Int32) (po : Nat → Int32) (pf : Nat → Int32) (pt : Nat → Int32) (ru : Nat → Int32) (le : Nat → Int32) (li : Nat → Int32) (bn : Nat → Int32) (ip : Nat → Int32) (aw : Nat → Int32) (ns : Int32) (ch : Nat → Int32) (ma : Nat → Int32) (br : Nat → Int64) (tl : Int32) (ou : Nat → Int64) (mki : Nat → Int32) (msz : Nat → Int64) (mle : Nat → Int32) (mel : Nat → Int32) (mme : Nat → Int32) (mal : Nat → Int32) (mic : Nat → Int32) (mil : Nat → Int32) (mio : Nat → Int32) (mab : Nat → Int32) (mae : Nat → Int32) (msa : Nat → Int32) (mlc : Nat → Int32) (mli : Nat → Int32) (mna : Nat → Int32) (mva : Nat → Int32) (mma : Nat → Int32) (mch : Nat → Int32) (mre : Nat → Int32) (mlv : Nat → Int32) (mwr : Nat → Int64) (msh : Nat → Int32) (mth : Int32) (mnv : Int32) (mns : Int32) (mfa : Int32) (mmo : Int32) (k1 k2 k3 k4 : Int32) (sc L : Nat) (xs : Nat → Int32) (i : Int32) (hXs : va_X sc L xs s s.heap) (hbl : sc < s.heap.size) (hbA : ¬ A sc) (hi1 : vp_in (i + 1) L) (e1 : xs (i + 1 : Int32).toNatClampNeg = k1) (hi2 : vp_in (i + 2) L) (e2 : xs (i + 2 : Int32).toNatClampNeg = k2) (hi3 : vp_in (i + 3) L) (e3 : xs (i + 3 : Int32).toNatClampNeg = k3) (hi4 : vp_in (i + 4) L) (e4 : xs (i + 4 : Int32).toNatClampNeg = k4) (hK : va_K D vwCl (tyA cI cJ cZ) s) (hP : va_P D vwCl ((wX a ++ wV a cI cJ ki co pr pa tw nv sv ++ wP a cI cZ pn pl po pf pt ++ wS a cI ru le li bn ip aw ns ++ wL a ++ wJ a cI cJ ch ma br tl ++ wO a cJ ou) ++ (wM b cI cJ cZ mki msz mle mel mme mal mic mil mio mab mae msa mlc mli mna mva mma mch mre mlv mwr msh mth mnv mns mfa mmo)) H) (hD : va_D A ((wX a ++ wV a cI cJ ki co pr pa tw nv sv ++ wP a cI cZ pn pl po pf pt ++ wS a cI ru le li bn ip aw ns ++ wL a ++ wJ a cI cJ ch ma br tl ++ wO a cJ ou) ++ (wM b cI cJ cZ mki msz mle mel mme mal mic mil mio mab mae msa mlc mli mna mva mma mch mre mlv mwr msh mth mnv mns mfa mmo))) (hA : ∀ q, s.heap.size ≤ q → A q) (hS : va_S A s.heap H locs) (hX : eX A s s.heap) (hl : lv_has ls 7 [(4, .int i), (3, .ref (a 25)), (2, .ref (b 0)), (1, .ref (a 24)), (0, .ref sc)]) {post : (Nat → Int32) → (Nat → Int64) → (Nat → Int32) → (Nat → Int32) → (Nat → Int32) → Int32 → Int32 → (Nat → Int32) → (Nat → Int32) → (Nat → Int32) → (Nat → Int32) → (Nat → Int32) → (Nat → Int32) → (Nat → Int32) → (Nat → Int32) → (Nat → Int32) → (Nat → Int32) → (Nat → Int32) → Int32 → (Nat → Int32) → (Nat → Int32) → (Nat → Int64) → Int32 → (Nat → Int64) → (Nat → Int32) → (Nat → Int64) → (Nat → Int32) → (Nat → Int32) → (Nat → Int32) → (Nat → Int32) → (Nat → Int32) → (Nat → Int32) → (Nat → Int32) → (Nat → Int32) → (Nat → Int32) → (Nat → Int32) → (Nat → Int32) → (Nat → Int32) → (Nat → Int32) → (Nat → Int32) → (Nat → Int32) → (Nat → Int32) → (Nat → Int32) → (Nat → Int32) → (Nat → Int64) → (Nat → Int32) → Int32 → Int32 → Int32 → Int32 → Int32 → Prop} (vc : V_L12F ki co pr pa tw nv sv pn pl po pf pt ru le li bn ip aw ns ch ma br tl ou mki msz mle mel mme mal mic mil mio mab mae msa mlc mli mna mva mma mch mre mlv mwr msh mth mnv mns mfa mmo k1 k2 k3 k4 post)
    (hnext : ∀ (ki : Nat → Int32) (co : Nat → Int64) (pr : Nat → Int32) (pa : Nat → Int32) (tw : Nat → Int32) (nv : Int32) (sv : Int32) (pn : Nat → Int32) (pl : Nat → Int32) (po : Nat → Int32) (pf : Nat → Int32) (pt : Nat → Int32) (ru : Nat → Int32) (le : Nat → Int32) (li : Nat → Int32) (bn : Nat → Int32) (ip : Nat → Int32) (aw : Nat → Int32) (ns : Int32) (ch : Nat → Int32) (ma : Nat → Int32) (br : Nat → Int64) (tl : Int32) (ou : Nat → Int64) (mki : Nat → Int32) (msz : Nat → Int64) (mle : Nat → Int32) (mel : Nat → Int32) (mme : Nat → Int32) (mal : Nat → Int32) (mic : Nat → Int32) (mil : Nat → Int32) (mio : Nat → Int32) (mab : Nat → Int32) (mae : Nat → Int32) (msa : Nat → Int32) (mlc : Nat → Int32) (mli : Nat → Int32) (mna : Nat → Int32) (mva : Nat → Int32) (mma : Nat → Int32) (mch : Nat → Int32) (mre : Nat → Int32) (mlv : Nat → Int32) (mwr : Nat → Int64) (msh : Nat → Int32) (mth : Int32) (mnv : Int32) (mns : Int32) (mfa : Int32) (mmo : Int32) (ls : Array Slot) (H : Heap) (locs : List Loc), post ki co pr pa tw nv sv pn pl po pf pt ru le li bn ip aw ns ch ma br tl ou mki msz mle mel mme mal mic mil mio mab mae msa mlc mli mna mva mma mch mre mlv mwr msh mth mnv mns mfa mmo → lv_has ls 7 [(0, .ref sc), (1, .ref (a 24)), (2, .ref (b 0)), (3, .ref (a 25)), (4, .int i)] → va_P D vwCl ((wX a ++ wV a cI cJ ki co pr pa tw nv sv ++ wP a cI cZ pn pl po pf pt ++ wS a cI ru le li bn ip aw ns ++ wL a ++ wJ a cI cJ ch ma br tl ++ wO a cJ ou) ++ (wM b cI cJ cZ mki msz mle mel mme mal mic mil mio mab mae msa mlc mli mna mva mma mch mre mlv mwr msh mth mnv mns mfa mmo)) H → va_D A ((wX a ++ wV a cI cJ ki co pr pa tw nv sv ++ wP a cI cZ pn pl po pf pt ++ wS a cI ru le li bn ip aw ns ++ wL a ++ wJ a cI cJ ch ma br tl ++ wO a cJ ou) ++ (wM b cI cJ cZ mki msz mle mel mme mal mic mil mio mab mae msa mlc mli mna mva mma mch mre mlv mwr msh mth mnv mns mfa mmo)) → va_S A s.heap H locs → W p l e R s m args below meth c H locs (cells + 1) (slots + 6) Q (F0 m 1215 ls [])) : W p l e R s m args below meth c H locs cells slots Q (F0 m 928 ls []) := by
  have hx := S.1
  have hb := S.2.1
  have hown := S.2.2.2.1
  have hts := S.2.2.2.2
  have h01 : vp_in (0 : Int32) 1 := vp_in_nI (n := 0) (by decide) (by decide)
  unfold V_L12F at vc
  refine lv_aload_n hx hb d_La_law_928 rfl (lv_at hl 3 rfl) ?_
  refine lv_aload_n hx hb d_La_law_929 rfl (lv_at hl 4 rfl) ?_
  refine lv_iload hx hb d_La_law_930 (lv_at hl 0 rfl) ?_
  refine lv_iconst (v := 1) hx hb d_La_law_932 (by decide) ?_
  refine lv_iadd hx hb d_La_law_933 ?_
  refine va_sld hx hb hXs hbl hbA hS hi1 d_La_law_934 ?_
  rw [e1]
  refine lv_aload_n hx hb d_La_law_935 rfl (lv_at hl 4 rfl) ?_
  refine lv_iload hx hb d_La_law_936 (lv_at hl 0 rfl) ?_
  refine lv_iconst (v := 2) hx hb d_La_law_938 (by decide) ?_
  refine lv_iadd hx hb d_La_law_939 ?_
  refine va_sld hx hb hXs hbl hbA hS hi2 d_La_law_940 ?_
  rw [e2]
  refine lv_aload_n hx hb d_La_law_941 rfl (lv_at hl 1 rfl) ?_
  obtain ⟨hpre, vc⟩ := vc
  refine hc_1 (As := [.ref (a 24), .int k1, .int k2, .ref (a 25)]) (rest := []) S (c_La_judgeF l hls D a cI cJ cZ ki co pr pa tw nv sv pn pl po pf pt ru le li bn ip aw ns ch ma br tl ou k1 k2 hpre) kw_La_judge s_La_judge o_La ml_La_127 hd_La_judge (Nat.le_trans (by decide) hRf) (Nat.le_trans (by decide) hRl) hRc hK hP hD hS hA hX hN hl.1 rfl (Nat.le_of_ble_eq_true rfl) d_La_law_942 (fun u H locs hu hP hD hS => ?_)
  obtain ⟨x1, f2, u3, f4, f5, f6, f7, f8, u9, f10⟩ := u
  have vc := vc x1 f2 u3 f4 f5 f6 f7 f8 u9 f10 hu
  clear hu
  have hP : va_P D vwCl ((wX a ++ wV a cI cJ ki co pr pa f2 nv u3 ++ wP a cI cZ pn pl po pf pt ++ wS a cI ru le li bn f4 f5 ns ++ wL a ++ wJ a cI cJ f6 f7 f8 u9 ++ wO a cJ f10) ++ (wM b cI cJ cZ mki msz mle mel mme mal mic mil mio mab mae msa mlc mli mna mva mma mch mre mlv mwr msh mth mnv mns mfa mmo)) H := hP
  have hD : va_D A ((wX a ++ wV a cI cJ ki co pr pa f2 nv u3 ++ wP a cI cZ pn pl po pf pt ++ wS a cI ru le li bn f4 f5 ns ++ wL a ++ wJ a cI cJ f6 f7 f8 u9 ++ wO a cJ f10) ++ (wM b cI cJ cZ mki msz mle mel mme mal mic mil mio mab mae msa mlc mli mna mva mma mch mre mlv mwr msh mth mnv mns mfa mmo)) := hD
  refine lv_istore hx hb d_La_law_945 hl (by decide) (lv' := [(5, .int x1), (4, .int i), (3, .ref (a 25)), (2, .ref (b 0)), (1, .ref (a 24)), (0, .ref sc)]) rfl (fun ls hl => ?_)
  refine lv_aload_n hx hb d_La_law_947 rfl (lv_at hl 3 rfl) ?_
  refine lv_aload_n hx hb d_La_law_948 rfl (lv_at hl 5 rfl) ?_
  refine lv_iload hx hb d_La_law_949 (lv_at hl 1 rfl) ?_
  refine lv_iconst (v := 1) hx hb d_La_law_951 (by decide) ?_
  refine lv_iadd hx hb d_La_law_952 ?_
  refine va_sld hx hb hXs hbl hbA hS hi1 d_La_law_953 ?_
  rw [e1]
  refine lv_aload_n hx hb d_La_law_954 rfl (lv_at hl 5 rfl) ?_
  refine lv_iload hx hb d_La_law_955 (lv_at hl 1 rfl) ?_
  refine lv_iconst (v := 2) hx hb d_La_law_957 (by decide) ?_
  refine lv_iadd hx hb d_La_law_958 ?_
  refine va_sld hx hb hXs hbl hbA hS hi2 d_La_law_959 ?_
  rw [e2]
  obtain ⟨hpre, vc⟩ := vc
  refine wc_2 (As := [.int k1, .int k2]) (rest := []) S (c_Mo_judgeF l D b cI cJ cZ mki msz mle mel mme mal mic mil mio mab mae msa mlc mli mna mva mma mch mre mlv mwr msh mth mnv mns mfa mmo k1 k2 hpre) k_Mo_judge i_Mo_judge e_Mo_judge o_Mo ml_La_129 hd_Mo_judge (Nat.le_trans (by decide) hRf) (Nat.le_trans (by decide) hRl) hRc (va_recv hK hP.r (q0 := 0) (ci := 6) rfl rfl) hK hP hD hS hA hl.1 rfl (Nat.le_of_ble_eq_true rfl) d_La_law_960 (fun u H locs hu hP hD hS => ?_)
  obtain ⟨t11, f12, f13, f14, f15, f16, f17, f18, f19, u20, u21, u22⟩ := u
  have vc := vc t11 f12 f13 f14 f15 f16 f17 f18 f19 u20 u21 u22 hu
  clear hu
  have hP : va_P D vwCl ((wX a ++ wV a cI cJ ki co pr pa f2 nv u3 ++ wP a cI cZ pn pl po pf pt ++ wS a cI ru le li bn f4 f5 ns ++ wL a ++ wJ a cI cJ f6 f7 f8 u9 ++ wO a cJ f10) ++ (wM b cI cJ cZ mki msz mle mel mme f12 mic mil mio mab mae msa mlc mli mna f13 f14 f15 f16 f17 f18 f19 u20 mnv mns u21 u22)) H := hP
  have hD : va_D A ((wX a ++ wV a cI cJ ki co pr pa f2 nv u3 ++ wP a cI cZ pn pl po pf pt ++ wS a cI ru le li bn f4 f5 ns ++ wL a ++ wJ a cI cJ f6 f7 f8 u9 ++ wO a cJ f10) ++ (wM b cI cJ cZ mki msz mle mel mme f12 mic mil mio mab mae msa mlc mli mna f13 f14 f15 f16 f17 f18 f19 u20 mnv mns u21 u22)) := hD
  refine lv_istore hx hb d_La_law_963 hl (by decide) (lv' := [(6, .int (bI t11)), (5, .int x1), (4, .int i), (3, .ref (a 25)), (2, .ref (b 0)), (1, .ref (a 24)), (0, .ref sc)]) rfl (fun ls hl => ?_)
  refine lv_aload_n hx hb d_La_law_965 rfl (lv_at hl 4 rfl) ?_
  refine pc_V (As := []) (rest := []) S (c_Mo_thrown l D b cI cJ cZ mki msz mle mel mme f12 mic mil mio mab mae msa mlc mli mna f13 f14 f15 f16 f17 f18 f19 u20 mnv mns u21 u22) wB_blind k_Mo_thrown i_Mo_thrown e_Mo_thrown o_Mo ml_La_84 hd_Mo_thrown (Nat.le_trans (by decide) hRf) (Nat.le_trans (by decide) hRl) hRc (va_recv hK hP.r (q0 := 0) (ci := 6) rfl rfl) (wB_at hP.r hK) hl.1 rfl (Nat.le_of_ble_eq_true rfl) d_La_law_966 ?_
  refine lv_iload hx hb d_La_law_969 (lv_at hl 1 rfl) ?_
  refine lv_icmp_eq (tgt := 976) hx hb d_La_law_971 (by decide) (fun h => ?_) (fun h => ?_)
  · have vc := vc.1 h
    refine lv_iload hx hb d_La_law_976 (lv_at hl 1 rfl) ?_
    refine lv_if_ne (tgt := 1000) hx hb d_La_law_978 (by decide) (fun h => ?_) (fun h => ?_)
    · have vc := vc.1 h
      refine lv_goto (tgt := 1215) hx hb d_La_law_1000 (by decide) ?_
      exact hnext ki co pr pa f2 nv u3 pn pl po pf pt ru le li bn f4 f5 ns f6 f7 f8 u9 f10 mki msz mle mel mme f12 mic mil mio mab mae msa mlc mli mna f13 f14 f15 f16 f17 f18 f19 u20 mnv mns u21 u22 ls H locs vc (lv_sub hl [6, 5, 4, 3, 2] rfl) hP hD hS
    · have vc := vc.2 h
      refine lv_aload_n hx hb d_La_law_981 rfl (lv_at hl 3 rfl) ?_
      refine lv_iconst (v := 0) hx hb d_La_law_982 (by decide) ?_
      refine va_lald hx hb hK hP.l 25 1 rfl rfl h01 d_La_law_983 ?_
      refine lv_iload hx hb d_La_law_984 (lv_at hl 0 rfl) ?_
      refine lv_if_eq (tgt := 993) hx hb d_La_law_986 (by decide) (fun h => ?_) (fun h => ?_)
      · have vc := vc.1 h
        refine lv_lconst (v := 0) hx hb d_La_law_993 (by decide) ?_
        refine W.lcmp hx hb d_La_law_994 ?_
        refine lv_if_eq (tgt := 1000) hx hb d_La_law_995 (by decide) (fun h => ?_) (fun h => ?_)
        · have vc := vc.1 h
          refine lv_goto (tgt := 1215) hx hb d_La_law_1000 (by decide) ?_
          exact hnext ki co pr pa f2 nv u3 pn pl po pf pt ru le li bn f4 f5 ns f6 f7 f8 u9 f10 mki msz mle mel mme f12 mic mil mio mab mae msa mlc mli mna f13 f14 f15 f16 f17 f18 f19 u20 mnv mns u21 u22 ls H locs vc (lv_sub hl [6, 5, 4, 3, 2] rfl) hP hD hS
        · have vc := vc.2 h
          refine lv_iconst (v := 0) hx hb d_La_law_998 (by decide) ?_
          exact vc.elim
      · have vc := vc.2 h
        refine lv_lconst (v := 1) hx hb d_La_law_989 (by decide) ?_
        refine lv_goto (tgt := 994) hx hb d_La_law_990 (by decide) ?_
        refine W.lcmp hx hb d_La_law_994 ?_
        refine lv_if_eq (tgt := 1000) hx hb d_La_law_995 (by decide) (fun h => ?_) (fun h => ?_)
        · have vc := vc.1 h
          refine lv_goto (tgt := 1215) hx hb d_La_law_1000 (by decide) ?_
          exact hnext ki co pr pa f2 nv u3 pn pl po pf pt ru le li bn f4 f5 ns f6 f7 f8 u9 f10 mki msz mle mel mme f12 mic mil mio mab mae msa mlc mli mna f13 f14 f15 f16 f17 f18 f19 u20 mnv mns u21 u22 ls H locs vc (lv_sub hl [6, 5, 4, 3, 2] rfl) hP hD hS
        · have vc := vc.2 h
          refine lv_iconst (v := 0) hx hb d_La_law_998 (by decide) ?_
          exact vc.elim
  · have vc := vc.2 h
    refine lv_iconst (v := 0) hx hb d_La_law_974 (by decide) ?_
    exact vc.elim
def V_L15F (ki : Nat → Int32) (co : Nat → Int64) (pr : Nat → Int32) (pa : Nat → Int32) (tw : Nat → Int32) (nv : Int32) (sv : Int32) (pn : Nat → Int32) (pl : Nat → Int32) (po : Nat → Int32) (pf : Nat → Int32) (pt : Nat → Int32) (ru : Nat → Int32) (le : Nat → Int32) (li : Nat → Int32) (bn : Nat → Int32) (ip : Nat → Int32) (aw : Nat → Int32) (ns : Int32) (ch : Nat → Int32) (ma : Nat → Int32) (br : Nat → Int64) (tl : Int32) (ou : Nat → Int64) (mki : Nat → Int32) (msz : Nat → Int64) (mle : Nat → Int32) (mel : Nat → Int32) (mme : Nat → Int32) (mal : Nat → Int32) (mic : Nat → Int32) (mil : Nat → Int32) (mio : Nat → Int32) (mab : Nat → Int32) (mae : Nat → Int32) (msa : Nat → Int32) (mlc : Nat → Int32) (mli : Nat → Int32) (mna : Nat → Int32) (mva : Nat → Int32) (mma : Nat → Int32) (mch : Nat → Int32) (mre : Nat → Int32) (mlv : Nat → Int32) (mwr : Nat → Int64) (msh : Nat → Int32) (mth : Int32) (mnv : Int32) (mns : Int32) (mfa : Int32) (mmo : Int32) (k1 k2 k3 k4 : Int32) (post : (Nat → Int32) → (Nat → Int64) → (Nat → Int32) → (Nat → Int32) → (Nat → Int32) → Int32 → Int32 → (Nat → Int32) → (Nat → Int32) → (Nat → Int32) → (Nat → Int32) → (Nat → Int32) → (Nat → Int32) → (Nat → Int32) → (Nat → Int32) → (Nat → Int32) → (Nat → Int32) → (Nat → Int32) → Int32 → (Nat → Int32) → (Nat → Int32) → (Nat → Int64) → Int32 → (Nat → Int64) → (Nat → Int32) → (Nat → Int64) → (Nat → Int32) → (Nat → Int32) → (Nat → Int32) → (Nat → Int32) → (Nat → Int32) → (Nat → Int32) → (Nat → Int32) → (Nat → Int32) → (Nat → Int32) → (Nat → Int32) → (Nat → Int32) → (Nat → Int32) → (Nat → Int32) → (Nat → Int32) → (Nat → Int32) → (Nat → Int32) → (Nat → Int32) → (Nat → Int32) → (Nat → Int64) → (Nat → Int32) → Int32 → Int32 → Int32 → Int32 → Int32 → Prop) : Prop :=
  (Hi0 br ∧ (∀ (x1 : Int32) (f2 : Nat → Int64), (((x1 = 1 ∧ ¬ sHas (nI (sumN (FS (BC br)) 960)) k1 = true) ∨ (x1 = 0 ∧ sHas (nI (sumN (FS (BC br)) 960)) k1 = true ∧ ∃ i p k : Nat, k1 = nI i ∧ FaAt (BC br) i p k ∧ f2 0 = (nI (10000 * (p / 24) + 100 * (p % 24) + k)).toInt64))) → ((mfa = nI (sumN (FS (BF mwr)) 960)) ∧ (∀ (x3 : Int32) (u4 : Int32), (((¬ sHas mfa k1 = true → u4 = 1) ∧ (sHas mfa k1 = true → u4 = 0 ∧ ∃ i p k : Nat, k1 = nI i ∧ FaAt (BF mwr) i p k ∧ x3 = nI (10000 * (p / 24) + 100 * (p % 24) + k)))) → ((u4 = x1 → ((¬ x1 = 0 → post ki co pr pa tw nv sv pn pl po pf pt ru le li bn ip aw ns ch ma br tl f2 mki msz mle mel mme mal mic mil mio mab mae msa mlc mli mna mva mma mch mre mlv mwr msh u4 mnv mns mfa mmo) ∧ (x1 = 0 → (((lg_cmp (f2 (0 : Int32).toNatClampNeg) x3.toInt64) = 0 → post ki co pr pa tw nv sv pn pl po pf pt ru le li bn ip aw ns ch ma br tl f2 mki msz mle mel mme mal mic mil mio mab mae msa mlc mli mna mva mma mch mre mlv mwr msh u4 mnv mns mfa mmo) ∧ (¬ (lg_cmp (f2 (0 : Int32).toNatClampNeg) x3.toInt64) = 0 → False))))) ∧ (¬ u4 = x1 → False))))))
set_option maxHeartbeats 4000000 in
set_option maxRecDepth 100000 in
theorem g_L15F {p : Program} {l : Launch} {e : Env} {R : Room} {s : State} {m : MethodId} {args : Array Value} {below : List Frame} {meth : Method} {c : Code} {H : Heap} {locs : List Loc} {cells slots : Nat} {Q : State → Prop} {ls : Array Slot} {A : Nat → Prop} (hls : l.stackTraces = false) (S : CallFix p m c code 7 s args W0 "SchemaJudgeLaw") (hN : eN s) (hRf : 8 ≤ R.frames) (hRl : 136 ≤ R.locals) (hRc : cells + 1 ≤ R.cells ∧ slots + 6 ≤ R.slots) (D : va_G) (a b : Nat → Nat) (cI cJ cZ : ClassId) (ki : Nat → Int32) (co : Nat → Int64) (pr : Nat → Int32) (pa : Nat → Int32) (tw : Nat → Int32) (nv : Int32) (sv : Int32) (pn : Nat → Int32) (pl : Nat → Int32) (po : Nat → Int32) (pf : Nat → Int32) (pt : Nat → Int32) (ru : Nat → Int32) (le : Nat → Int32) (li : Nat → Int32) (bn : Nat → Int32) (ip : Nat → Int32) (aw : Nat → Int32) (ns : Int32) (ch : Nat → Int32) (ma : Nat → Int32) (br : Nat → Int64) (tl : Int32) (ou : Nat → Int64) (mki : Nat → Int32) (msz : Nat → Int64) (mle : Nat → Int32) (mel : Nat → Int32) (mme : Nat → Int32) (mal : Nat → Int32) (mic : Nat → Int32) (mil : Nat → Int32) (mio : Nat → Int32) (mab : Nat → Int32) (mae : Nat → Int32) (msa : Nat → Int32) (mlc : Nat → Int32) (mli : Nat → Int32) (mna : Nat → Int32) (mva : Nat → Int32) (mma : Nat → Int32) (mch : Nat → Int32) (mre : Nat → Int32) (mlv : Nat → Int32) (mwr : Nat → Int64) (msh : Nat → Int32) (mth : Int32) (mnv : Int32) (mns : Int32) (mfa : Int32) (mmo : Int32) (k1 k2 k3 k4 : Int32) (sc L : Nat) (xs : Nat → Int32) (i : Int32) (hXs : va_X sc L xs s s.heap) (hbl : sc < s.heap.size) (hbA : ¬ A sc) (hi1 : vp_in (i + 1) L) (e1 : xs (i + 1 : Int32).toNatClampNeg = k1) (hi2 : vp_in (i + 2) L) (e2 : xs (i + 2 : Int32).toNatClampNeg = k2) (hi3 : vp_in (i + 3) L) (e3 : xs (i + 3 : Int32).toNatClampNeg = k3) (hi4 : vp_in (i + 4) L) (e4 : xs (i + 4 : Int32).toNatClampNeg = k4) (hK : va_K D vwCl (tyA cI cJ cZ) s) (hP : va_P D vwCl ((wX a ++ wV a cI cJ ki co pr pa tw nv sv ++ wP a cI cZ pn pl po pf pt ++ wS a cI ru le li bn ip aw ns ++ wL a ++ wJ a cI cJ ch ma br tl ++ wO a cJ ou) ++ (wM b cI cJ cZ mki msz mle mel mme mal mic mil mio mab mae msa mlc mli mna mva mma mch mre mlv mwr msh mth mnv mns mfa mmo)) H) (hD : va_D A ((wX a ++ wV a cI cJ ki co pr pa tw nv sv ++ wP a cI cZ pn pl po pf pt ++ wS a cI ru le li bn ip aw ns ++ wL a ++ wJ a cI cJ ch ma br tl ++ wO a cJ ou) ++ (wM b cI cJ cZ mki msz mle mel mme mal mic mil mio mab mae msa mlc mli mna mva mma mch mre mlv mwr msh mth mnv mns mfa mmo))) (hA : ∀ q, s.heap.size ≤ q → A q) (hS : va_S A s.heap H locs) (hX : eX A s s.heap) (hl : lv_has ls 7 [(4, .int i), (3, .ref (a 25)), (2, .ref (b 0)), (1, .ref (a 24)), (0, .ref sc)]) {post : (Nat → Int32) → (Nat → Int64) → (Nat → Int32) → (Nat → Int32) → (Nat → Int32) → Int32 → Int32 → (Nat → Int32) → (Nat → Int32) → (Nat → Int32) → (Nat → Int32) → (Nat → Int32) → (Nat → Int32) → (Nat → Int32) → (Nat → Int32) → (Nat → Int32) → (Nat → Int32) → (Nat → Int32) → Int32 → (Nat → Int32) → (Nat → Int32) → (Nat → Int64) → Int32 → (Nat → Int64) → (Nat → Int32) → (Nat → Int64) → (Nat → Int32) → (Nat → Int32) → (Nat → Int32) → (Nat → Int32) → (Nat → Int32) → (Nat → Int32) → (Nat → Int32) → (Nat → Int32) → (Nat → Int32) → (Nat → Int32) → (Nat → Int32) → (Nat → Int32) → (Nat → Int32) → (Nat → Int32) → (Nat → Int32) → (Nat → Int32) → (Nat → Int32) → (Nat → Int32) → (Nat → Int64) → (Nat → Int32) → Int32 → Int32 → Int32 → Int32 → Int32 → Prop} (vc : V_L15F ki co pr pa tw nv sv pn pl po pf pt ru le li bn ip aw ns ch ma br tl ou mki msz mle mel mme mal mic mil mio mab mae msa mlc mli mna mva mma mch mre mlv mwr msh mth mnv mns mfa mmo k1 k2 k3 k4 post)
    (hnext : ∀ (ki : Nat → Int32) (co : Nat → Int64) (pr : Nat → Int32) (pa : Nat → Int32) (tw : Nat → Int32) (nv : Int32) (sv : Int32) (pn : Nat → Int32) (pl : Nat → Int32) (po : Nat → Int32) (pf : Nat → Int32) (pt : Nat → Int32) (ru : Nat → Int32) (le : Nat → Int32) (li : Nat → Int32) (bn : Nat → Int32) (ip : Nat → Int32) (aw : Nat → Int32) (ns : Int32) (ch : Nat → Int32) (ma : Nat → Int32) (br : Nat → Int64) (tl : Int32) (ou : Nat → Int64) (mki : Nat → Int32) (msz : Nat → Int64) (mle : Nat → Int32) (mel : Nat → Int32) (mme : Nat → Int32) (mal : Nat → Int32) (mic : Nat → Int32) (mil : Nat → Int32) (mio : Nat → Int32) (mab : Nat → Int32) (mae : Nat → Int32) (msa : Nat → Int32) (mlc : Nat → Int32) (mli : Nat → Int32) (mna : Nat → Int32) (mva : Nat → Int32) (mma : Nat → Int32) (mch : Nat → Int32) (mre : Nat → Int32) (mlv : Nat → Int32) (mwr : Nat → Int64) (msh : Nat → Int32) (mth : Int32) (mnv : Int32) (mns : Int32) (mfa : Int32) (mmo : Int32) (ls : Array Slot) (H : Heap) (locs : List Loc), post ki co pr pa tw nv sv pn pl po pf pt ru le li bn ip aw ns ch ma br tl ou mki msz mle mel mme mal mic mil mio mab mae msa mlc mli mna mva mma mch mre mlv mwr msh mth mnv mns mfa mmo → lv_has ls 7 [(0, .ref sc), (1, .ref (a 24)), (2, .ref (b 0)), (3, .ref (a 25)), (4, .int i)] → va_P D vwCl ((wX a ++ wV a cI cJ ki co pr pa tw nv sv ++ wP a cI cZ pn pl po pf pt ++ wS a cI ru le li bn ip aw ns ++ wL a ++ wJ a cI cJ ch ma br tl ++ wO a cJ ou) ++ (wM b cI cJ cZ mki msz mle mel mme mal mic mil mio mab mae msa mlc mli mna mva mma mch mre mlv mwr msh mth mnv mns mfa mmo)) H → va_D A ((wX a ++ wV a cI cJ ki co pr pa tw nv sv ++ wP a cI cZ pn pl po pf pt ++ wS a cI ru le li bn ip aw ns ++ wL a ++ wJ a cI cJ ch ma br tl ++ wO a cJ ou) ++ (wM b cI cJ cZ mki msz mle mel mme mal mic mil mio mab mae msa mlc mli mna mva mma mch mre mlv mwr msh mth mnv mns mfa mmo)) → va_S A s.heap H locs → W p l e R s m args below meth c H locs (cells + 1) (slots + 6) Q (F0 m 1215 ls [])) : W p l e R s m args below meth c H locs cells slots Q (F0 m 1084 ls []) := by
  have hx := S.1
  have hb := S.2.1
  have hown := S.2.2.2.1
  have hts := S.2.2.2.2
  have h01 : vp_in (0 : Int32) 1 := vp_in_nI (n := 0) (by decide) (by decide)
  unfold V_L15F at vc
  refine lv_aload_n hx hb d_La_law_1084 rfl (lv_at hl 3 rfl) ?_
  refine lv_aload_n hx hb d_La_law_1085 rfl (lv_at hl 4 rfl) ?_
  refine lv_iload hx hb d_La_law_1086 (lv_at hl 0 rfl) ?_
  refine lv_iconst (v := 1) hx hb d_La_law_1088 (by decide) ?_
  refine lv_iadd hx hb d_La_law_1089 ?_
  refine va_sld hx hb hXs hbl hbA hS hi1 d_La_law_1090 ?_
  rw [e1]
  refine lv_aload_n hx hb d_La_law_1091 rfl (lv_at hl 1 rfl) ?_
  obtain ⟨hpre, vc⟩ := vc
  refine hc_1 (As := [.ref (a 24), .int k1, .ref (a 25)]) (rest := []) S (c_La_faultF l hls D a cI cJ cZ ki co pr pa tw nv sv pn pl po pf pt ru le li bn ip aw ns ch ma br tl ou k1 hpre) kw_La_fault s_La_fault o_La ml_La_137 hd_La_fault (Nat.le_trans (by decide) hRf) (Nat.le_trans (by decide) hRl) hRc hK hP hD hS hA hX hN hl.1 rfl (Nat.le_of_ble_eq_true rfl) d_La_law_1092 (fun u H locs hu hP hD hS => ?_)
  obtain ⟨x1, f2⟩ := u
  have vc := vc x1 f2 hu
  clear hu
  have hP : va_P D vwCl ((wX a ++ wV a cI cJ ki co pr pa tw nv sv ++ wP a cI cZ pn pl po pf pt ++ wS a cI ru le li bn ip aw ns ++ wL a ++ wJ a cI cJ ch ma br tl ++ wO a cJ f2) ++ (wM b cI cJ cZ mki msz mle mel mme mal mic mil mio mab mae msa mlc mli mna mva mma mch mre mlv mwr msh mth mnv mns mfa mmo)) H := hP
  have hD : va_D A ((wX a ++ wV a cI cJ ki co pr pa tw nv sv ++ wP a cI cZ pn pl po pf pt ++ wS a cI ru le li bn ip aw ns ++ wL a ++ wJ a cI cJ ch ma br tl ++ wO a cJ f2) ++ (wM b cI cJ cZ mki msz mle mel mme mal mic mil mio mab mae msa mlc mli mna mva mma mch mre mlv mwr msh mth mnv mns mfa mmo)) := hD
  refine lv_istore hx hb d_La_law_1095 hl (by decide) (lv' := [(5, .int x1), (4, .int i), (3, .ref (a 25)), (2, .ref (b 0)), (1, .ref (a 24)), (0, .ref sc)]) rfl (fun ls hl => ?_)
  refine lv_aload_n hx hb d_La_law_1097 rfl (lv_at hl 3 rfl) ?_
  refine lv_aload_n hx hb d_La_law_1098 rfl (lv_at hl 5 rfl) ?_
  refine lv_iload hx hb d_La_law_1099 (lv_at hl 1 rfl) ?_
  refine lv_iconst (v := 1) hx hb d_La_law_1101 (by decide) ?_
  refine lv_iadd hx hb d_La_law_1102 ?_
  refine va_sld hx hb hXs hbl hbA hS hi1 d_La_law_1103 ?_
  rw [e1]
  obtain ⟨hpre, vc⟩ := vc
  refine wc_2 (As := [.int k1]) (rest := []) S (c_Mo_faultF l D b cI cJ cZ mki msz mle mel mme mal mic mil mio mab mae msa mlc mli mna mva mma mch mre mlv mwr msh mth mnv mns mfa mmo k1 hpre) k_Mo_fault i_Mo_fault e_Mo_fault o_Mo ml_La_139 hd_Mo_fault (Nat.le_trans (by decide) hRf) (Nat.le_trans (by decide) hRl) hRc (va_recv hK hP.r (q0 := 0) (ci := 6) rfl rfl) hK hP hD hS hA hl.1 rfl (Nat.le_of_ble_eq_true rfl) d_La_law_1104 (fun u H locs hu hP hD hS => ?_)
  obtain ⟨x3, u4⟩ := u
  have vc := vc x3 u4 hu
  clear hu
  have hP : va_P D vwCl ((wX a ++ wV a cI cJ ki co pr pa tw nv sv ++ wP a cI cZ pn pl po pf pt ++ wS a cI ru le li bn ip aw ns ++ wL a ++ wJ a cI cJ ch ma br tl ++ wO a cJ f2) ++ (wM b cI cJ cZ mki msz mle mel mme mal mic mil mio mab mae msa mlc mli mna mva mma mch mre mlv mwr msh u4 mnv mns mfa mmo)) H := hP
  have hD : va_D A ((wX a ++ wV a cI cJ ki co pr pa tw nv sv ++ wP a cI cZ pn pl po pf pt ++ wS a cI ru le li bn ip aw ns ++ wL a ++ wJ a cI cJ ch ma br tl ++ wO a cJ f2) ++ (wM b cI cJ cZ mki msz mle mel mme mal mic mil mio mab mae msa mlc mli mna mva mma mch mre mlv mwr msh u4 mnv mns mfa mmo)) := hD
  refine lv_istore hx hb d_La_law_1107 hl (by decide) (lv' := [(6, .int x3), (5, .int x1), (4, .int i), (3, .ref (a 25)), (2, .ref (b 0)), (1, .ref (a 24)), (0, .ref sc)]) rfl (fun ls hl => ?_)
  refine lv_aload_n hx hb d_La_law_1109 rfl (lv_at hl 4 rfl) ?_
  refine pc_V (As := []) (rest := []) S (c_Mo_thrown l D b cI cJ cZ mki msz mle mel mme mal mic mil mio mab mae msa mlc mli mna mva mma mch mre mlv mwr msh u4 mnv mns mfa mmo) wB_blind k_Mo_thrown i_Mo_thrown e_Mo_thrown o_Mo ml_La_84 hd_Mo_thrown (Nat.le_trans (by decide) hRf) (Nat.le_trans (by decide) hRl) hRc (va_recv hK hP.r (q0 := 0) (ci := 6) rfl rfl) (wB_at hP.r hK) hl.1 rfl (Nat.le_of_ble_eq_true rfl) d_La_law_1110 ?_
  refine lv_iload hx hb d_La_law_1113 (lv_at hl 1 rfl) ?_
  refine lv_icmp_eq (tgt := 1120) hx hb d_La_law_1115 (by decide) (fun h => ?_) (fun h => ?_)
  · have vc := vc.1 h
    refine lv_iload hx hb d_La_law_1120 (lv_at hl 1 rfl) ?_
    refine lv_if_ne (tgt := 1137) hx hb d_La_law_1122 (by decide) (fun h => ?_) (fun h => ?_)
    · have vc := vc.1 h
      refine lv_goto (tgt := 1215) hx hb d_La_law_1137 (by decide) ?_
      exact hnext ki co pr pa tw nv sv pn pl po pf pt ru le li bn ip aw ns ch ma br tl f2 mki msz mle mel mme mal mic mil mio mab mae msa mlc mli mna mva mma mch mre mlv mwr msh u4 mnv mns mfa mmo ls H locs vc (lv_sub hl [6, 5, 4, 3, 2] rfl) hP hD hS
    · have vc := vc.2 h
      refine lv_aload_n hx hb d_La_law_1125 rfl (lv_at hl 3 rfl) ?_
      refine lv_iconst (v := 0) hx hb d_La_law_1126 (by decide) ?_
      refine va_lald hx hb hK hP.l 25 1 rfl rfl h01 d_La_law_1127 ?_
      refine lv_iload hx hb d_La_law_1128 (lv_at hl 0 rfl) ?_
      refine lv_i2l hx hb d_La_law_1130 rfl ?_
      refine W.lcmp hx hb d_La_law_1131 ?_
      refine lv_if_eq (tgt := 1137) hx hb d_La_law_1132 (by decide) (fun h => ?_) (fun h => ?_)
      · have vc := vc.1 h
        refine lv_goto (tgt := 1215) hx hb d_La_law_1137 (by decide) ?_
        exact hnext ki co pr pa tw nv sv pn pl po pf pt ru le li bn ip aw ns ch ma br tl f2 mki msz mle mel mme mal mic mil mio mab mae msa mlc mli mna mva mma mch mre mlv mwr msh u4 mnv mns mfa mmo ls H locs vc (lv_sub hl [6, 5, 4, 3, 2] rfl) hP hD hS
      · have vc := vc.2 h
        refine lv_iconst (v := 0) hx hb d_La_law_1135 (by decide) ?_
        exact vc.elim
  · have vc := vc.2 h
    refine lv_iconst (v := 0) hx hb d_La_law_1118 (by decide) ?_
    exact vc.elim
def V_L16F (ki : Nat → Int32) (co : Nat → Int64) (pr : Nat → Int32) (pa : Nat → Int32) (tw : Nat → Int32) (nv : Int32) (sv : Int32) (pn : Nat → Int32) (pl : Nat → Int32) (po : Nat → Int32) (pf : Nat → Int32) (pt : Nat → Int32) (ru : Nat → Int32) (le : Nat → Int32) (li : Nat → Int32) (bn : Nat → Int32) (ip : Nat → Int32) (aw : Nat → Int32) (ns : Int32) (ch : Nat → Int32) (ma : Nat → Int32) (br : Nat → Int64) (tl : Int32) (ou : Nat → Int64) (mki : Nat → Int32) (msz : Nat → Int64) (mle : Nat → Int32) (mel : Nat → Int32) (mme : Nat → Int32) (mal : Nat → Int32) (mic : Nat → Int32) (mil : Nat → Int32) (mio : Nat → Int32) (mab : Nat → Int32) (mae : Nat → Int32) (msa : Nat → Int32) (mlc : Nat → Int32) (mli : Nat → Int32) (mna : Nat → Int32) (mva : Nat → Int32) (mma : Nat → Int32) (mch : Nat → Int32) (mre : Nat → Int32) (mlv : Nat → Int32) (mwr : Nat → Int64) (msh : Nat → Int32) (mth : Int32) (mnv : Int32) (mns : Int32) (mfa : Int32) (mmo : Int32) (k1 k2 k3 k4 : Int32) (post : (Nat → Int32) → (Nat → Int64) → (Nat → Int32) → (Nat → Int32) → (Nat → Int32) → Int32 → Int32 → (Nat → Int32) → (Nat → Int32) → (Nat → Int32) → (Nat → Int32) → (Nat → Int32) → (Nat → Int32) → (Nat → Int32) → (Nat → Int32) → (Nat → Int32) → (Nat → Int32) → (Nat → Int32) → Int32 → (Nat → Int32) → (Nat → Int32) → (Nat → Int64) → Int32 → (Nat → Int64) → (Nat → Int32) → (Nat → Int64) → (Nat → Int32) → (Nat → Int32) → (Nat → Int32) → (Nat → Int32) → (Nat → Int32) → (Nat → Int32) → (Nat → Int32) → (Nat → Int32) → (Nat → Int32) → (Nat → Int32) → (Nat → Int32) → (Nat → Int32) → (Nat → Int32) → (Nat → Int32) → (Nat → Int32) → (Nat → Int32) → (Nat → Int32) → (Nat → Int32) → (Nat → Int64) → (Nat → Int32) → Int32 → Int32 → Int32 → Int32 → Int32 → Prop) : Prop :=
  ((∃ n k : Nat, n ≤ 40 ∧ k ≤ n ∧ nv = nI n ∧ sv = nI k ∧ (∀ j : Nat, j < 480 → vp_in (pa j) 40) ∧ PaOK pr pa ∧ TwOK ki co pr pa tw k) ∧ (∀ (x1 : Int32) (f2 : Nat → Int32) (u3 : Int32) (f4 : Nat → Int64), (((x1 = 1 ∧ ¬ (sHas nv k1 = true ∧ sHas nv k2 = true) ∧ f2 = tw ∧ u3 = sv) ∨ (x1 = 0 ∧ (sHas nv k1 = true ∧ sHas nv k2 = true) ∧ (∀ n : Nat, nv = nI n → n ≤ 40 → TwOK ki co pr pa f2 n ∧ u3 = nv) ∧ ∃ rr : Bool, (rr = true ↔ f2 k1.toNatClampNeg = f2 k2.toNatClampNeg) ∧ f4 0 = if rr = true then 1 else 0))) → ((∃ n0 : Nat, mnv = nI n0 ∧ MVOK mki msz mle mel mme n0) ∧ (∀ (t5 : Bool) (u6 : Int32) (f7 : Nat → Int32), (((¬ (sHas mnv k1 = true ∧ sHas mnv k2 = true) → u6 = 1 ∧ f7 = mal) ∧ (sHas mnv k1 = true ∧ sHas mnv k2 = true → u6 = 0 ∧ AlOK mki msz mle mel mme f7 mnv.toNatClampNeg ∧ (t5 = true ↔ f7 k1.toNatClampNeg = f7 k2.toNatClampNeg)))) → ((u6 = x1 → ((¬ x1 = 0 → post ki co pr pa f2 nv u3 pn pl po pf pt ru le li bn ip aw ns ch ma br tl f4 mki msz mle mel mme f7 mic mil mio mab mae msa mlc mli mna mva mma mch mre mlv mwr msh u6 mnv mns mfa mmo) ∧ (x1 = 0 → (((bI t5) = 0 → (((lg_cmp (f4 (0 : Int32).toNatClampNeg) 0) = 0 → post ki co pr pa f2 nv u3 pn pl po pf pt ru le li bn ip aw ns ch ma br tl f4 mki msz mle mel mme f7 mic mil mio mab mae msa mlc mli mna mva mma mch mre mlv mwr msh u6 mnv mns mfa mmo) ∧ (¬ (lg_cmp (f4 (0 : Int32).toNatClampNeg) 0) = 0 → False))) ∧ (¬ (bI t5) = 0 → (((lg_cmp (f4 (0 : Int32).toNatClampNeg) 1) = 0 → post ki co pr pa f2 nv u3 pn pl po pf pt ru le li bn ip aw ns ch ma br tl f4 mki msz mle mel mme f7 mic mil mio mab mae msa mlc mli mna mva mma mch mre mlv mwr msh u6 mnv mns mfa mmo) ∧ (¬ (lg_cmp (f4 (0 : Int32).toNatClampNeg) 1) = 0 → False))))))) ∧ (¬ u6 = x1 → False))))))
set_option maxHeartbeats 4000000 in
set_option maxRecDepth 100000 in
theorem g_L16F {p : Program} {l : Launch} {e : Env} {R : Room} {s : State} {m : MethodId} {args : Array Value} {below : List Frame} {meth : Method} {c : Code} {H : Heap} {locs : List Loc} {cells slots : Nat} {Q : State → Prop} {ls : Array Slot} {A : Nat → Prop} (hls : l.stackTraces = false) (S : CallFix p m c code 7 s args W0 "SchemaJudgeLaw") (hN : eN s) (hRf : 8 ≤ R.frames) (hRl : 136 ≤ R.locals) (hRc : cells + 1 ≤ R.cells ∧ slots + 6 ≤ R.slots) (D : va_G) (a b : Nat → Nat) (cI cJ cZ : ClassId) (ki : Nat → Int32) (co : Nat → Int64) (pr : Nat → Int32) (pa : Nat → Int32) (tw : Nat → Int32) (nv : Int32) (sv : Int32) (pn : Nat → Int32) (pl : Nat → Int32) (po : Nat → Int32) (pf : Nat → Int32) (pt : Nat → Int32) (ru : Nat → Int32) (le : Nat → Int32) (li : Nat → Int32) (bn : Nat → Int32) (ip : Nat → Int32) (aw : Nat → Int32) (ns : Int32) (ch : Nat → Int32) (ma : Nat → Int32) (br : Nat → Int64) (tl : Int32) (ou : Nat → Int64) (mki : Nat → Int32) (msz : Nat → Int64) (mle : Nat → Int32) (mel : Nat → Int32) (mme : Nat → Int32) (mal : Nat → Int32) (mic : Nat → Int32) (mil : Nat → Int32) (mio : Nat → Int32) (mab : Nat → Int32) (mae : Nat → Int32) (msa : Nat → Int32) (mlc : Nat → Int32) (mli : Nat → Int32) (mna : Nat → Int32) (mva : Nat → Int32) (mma : Nat → Int32) (mch : Nat → Int32) (mre : Nat → Int32) (mlv : Nat → Int32) (mwr : Nat → Int64) (msh : Nat → Int32) (mth : Int32) (mnv : Int32) (mns : Int32) (mfa : Int32) (mmo : Int32) (k1 k2 k3 k4 : Int32) (sc L : Nat) (xs : Nat → Int32) (i : Int32) (hXs : va_X sc L xs s s.heap) (hbl : sc < s.heap.size) (hbA : ¬ A sc) (hi1 : vp_in (i + 1) L) (e1 : xs (i + 1 : Int32).toNatClampNeg = k1) (hi2 : vp_in (i + 2) L) (e2 : xs (i + 2 : Int32).toNatClampNeg = k2) (hi3 : vp_in (i + 3) L) (e3 : xs (i + 3 : Int32).toNatClampNeg = k3) (hi4 : vp_in (i + 4) L) (e4 : xs (i + 4 : Int32).toNatClampNeg = k4) (hK : va_K D vwCl (tyA cI cJ cZ) s) (hP : va_P D vwCl ((wX a ++ wV a cI cJ ki co pr pa tw nv sv ++ wP a cI cZ pn pl po pf pt ++ wS a cI ru le li bn ip aw ns ++ wL a ++ wJ a cI cJ ch ma br tl ++ wO a cJ ou) ++ (wM b cI cJ cZ mki msz mle mel mme mal mic mil mio mab mae msa mlc mli mna mva mma mch mre mlv mwr msh mth mnv mns mfa mmo)) H) (hD : va_D A ((wX a ++ wV a cI cJ ki co pr pa tw nv sv ++ wP a cI cZ pn pl po pf pt ++ wS a cI ru le li bn ip aw ns ++ wL a ++ wJ a cI cJ ch ma br tl ++ wO a cJ ou) ++ (wM b cI cJ cZ mki msz mle mel mme mal mic mil mio mab mae msa mlc mli mna mva mma mch mre mlv mwr msh mth mnv mns mfa mmo))) (hA : ∀ q, s.heap.size ≤ q → A q) (hS : va_S A s.heap H locs) (hX : eX A s s.heap) (hl : lv_has ls 7 [(4, .int i), (3, .ref (a 25)), (2, .ref (b 0)), (1, .ref (a 24)), (0, .ref sc)]) {post : (Nat → Int32) → (Nat → Int64) → (Nat → Int32) → (Nat → Int32) → (Nat → Int32) → Int32 → Int32 → (Nat → Int32) → (Nat → Int32) → (Nat → Int32) → (Nat → Int32) → (Nat → Int32) → (Nat → Int32) → (Nat → Int32) → (Nat → Int32) → (Nat → Int32) → (Nat → Int32) → (Nat → Int32) → Int32 → (Nat → Int32) → (Nat → Int32) → (Nat → Int64) → Int32 → (Nat → Int64) → (Nat → Int32) → (Nat → Int64) → (Nat → Int32) → (Nat → Int32) → (Nat → Int32) → (Nat → Int32) → (Nat → Int32) → (Nat → Int32) → (Nat → Int32) → (Nat → Int32) → (Nat → Int32) → (Nat → Int32) → (Nat → Int32) → (Nat → Int32) → (Nat → Int32) → (Nat → Int32) → (Nat → Int32) → (Nat → Int32) → (Nat → Int32) → (Nat → Int32) → (Nat → Int64) → (Nat → Int32) → Int32 → Int32 → Int32 → Int32 → Int32 → Prop} (vc : V_L16F ki co pr pa tw nv sv pn pl po pf pt ru le li bn ip aw ns ch ma br tl ou mki msz mle mel mme mal mic mil mio mab mae msa mlc mli mna mva mma mch mre mlv mwr msh mth mnv mns mfa mmo k1 k2 k3 k4 post)
    (hnext : ∀ (ki : Nat → Int32) (co : Nat → Int64) (pr : Nat → Int32) (pa : Nat → Int32) (tw : Nat → Int32) (nv : Int32) (sv : Int32) (pn : Nat → Int32) (pl : Nat → Int32) (po : Nat → Int32) (pf : Nat → Int32) (pt : Nat → Int32) (ru : Nat → Int32) (le : Nat → Int32) (li : Nat → Int32) (bn : Nat → Int32) (ip : Nat → Int32) (aw : Nat → Int32) (ns : Int32) (ch : Nat → Int32) (ma : Nat → Int32) (br : Nat → Int64) (tl : Int32) (ou : Nat → Int64) (mki : Nat → Int32) (msz : Nat → Int64) (mle : Nat → Int32) (mel : Nat → Int32) (mme : Nat → Int32) (mal : Nat → Int32) (mic : Nat → Int32) (mil : Nat → Int32) (mio : Nat → Int32) (mab : Nat → Int32) (mae : Nat → Int32) (msa : Nat → Int32) (mlc : Nat → Int32) (mli : Nat → Int32) (mna : Nat → Int32) (mva : Nat → Int32) (mma : Nat → Int32) (mch : Nat → Int32) (mre : Nat → Int32) (mlv : Nat → Int32) (mwr : Nat → Int64) (msh : Nat → Int32) (mth : Int32) (mnv : Int32) (mns : Int32) (mfa : Int32) (mmo : Int32) (ls : Array Slot) (H : Heap) (locs : List Loc), post ki co pr pa tw nv sv pn pl po pf pt ru le li bn ip aw ns ch ma br tl ou mki msz mle mel mme mal mic mil mio mab mae msa mlc mli mna mva mma mch mre mlv mwr msh mth mnv mns mfa mmo → lv_has ls 7 [(0, .ref sc), (1, .ref (a 24)), (2, .ref (b 0)), (3, .ref (a 25)), (4, .int i)] → va_P D vwCl ((wX a ++ wV a cI cJ ki co pr pa tw nv sv ++ wP a cI cZ pn pl po pf pt ++ wS a cI ru le li bn ip aw ns ++ wL a ++ wJ a cI cJ ch ma br tl ++ wO a cJ ou) ++ (wM b cI cJ cZ mki msz mle mel mme mal mic mil mio mab mae msa mlc mli mna mva mma mch mre mlv mwr msh mth mnv mns mfa mmo)) H → va_D A ((wX a ++ wV a cI cJ ki co pr pa tw nv sv ++ wP a cI cZ pn pl po pf pt ++ wS a cI ru le li bn ip aw ns ++ wL a ++ wJ a cI cJ ch ma br tl ++ wO a cJ ou) ++ (wM b cI cJ cZ mki msz mle mel mme mal mic mil mio mab mae msa mlc mli mna mva mma mch mre mlv mwr msh mth mnv mns mfa mmo)) → va_S A s.heap H locs → W p l e R s m args below meth c H locs (cells + 1) (slots + 6) Q (F0 m 1215 ls [])) : W p l e R s m args below meth c H locs cells slots Q (F0 m 1140 ls []) := by
  have hx := S.1
  have hb := S.2.1
  have hown := S.2.2.2.1
  have hts := S.2.2.2.2
  have h01 : vp_in (0 : Int32) 1 := vp_in_nI (n := 0) (by decide) (by decide)
  unfold V_L16F at vc
  refine lv_aload_n hx hb d_La_law_1140 rfl (lv_at hl 3 rfl) ?_
  refine lv_aload_n hx hb d_La_law_1141 rfl (lv_at hl 4 rfl) ?_
  refine lv_iload hx hb d_La_law_1142 (lv_at hl 0 rfl) ?_
  refine lv_iconst (v := 1) hx hb d_La_law_1144 (by decide) ?_
  refine lv_iadd hx hb d_La_law_1145 ?_
  refine va_sld hx hb hXs hbl hbA hS hi1 d_La_law_1146 ?_
  rw [e1]
  refine lv_aload_n hx hb d_La_law_1147 rfl (lv_at hl 4 rfl) ?_
  refine lv_iload hx hb d_La_law_1148 (lv_at hl 0 rfl) ?_
  refine lv_iconst (v := 2) hx hb d_La_law_1150 (by decide) ?_
  refine lv_iadd hx hb d_La_law_1151 ?_
  refine va_sld hx hb hXs hbl hbA hS hi2 d_La_law_1152 ?_
  rw [e2]
  refine lv_aload_n hx hb d_La_law_1153 rfl (lv_at hl 1 rfl) ?_
  obtain ⟨hpre, vc⟩ := vc
  refine hc_1 (As := [.ref (a 24), .int k1, .int k2, .ref (a 25)]) (rest := []) S (c_La_equalF l hls D a cI cJ cZ ki co pr pa tw nv sv pn pl po pf pt ru le li bn ip aw ns ch ma br tl ou k1 k2 hpre) kw_La_equal s_La_equal o_La ml_La_140 hd_La_equal (Nat.le_trans (by decide) hRf) (Nat.le_trans (by decide) hRl) hRc hK hP hD hS hA hX hN hl.1 rfl (Nat.le_of_ble_eq_true rfl) d_La_law_1154 (fun u H locs hu hP hD hS => ?_)
  obtain ⟨x1, f2, u3, f4⟩ := u
  have vc := vc x1 f2 u3 f4 hu
  clear hu
  have hP : va_P D vwCl ((wX a ++ wV a cI cJ ki co pr pa f2 nv u3 ++ wP a cI cZ pn pl po pf pt ++ wS a cI ru le li bn ip aw ns ++ wL a ++ wJ a cI cJ ch ma br tl ++ wO a cJ f4) ++ (wM b cI cJ cZ mki msz mle mel mme mal mic mil mio mab mae msa mlc mli mna mva mma mch mre mlv mwr msh mth mnv mns mfa mmo)) H := hP
  have hD : va_D A ((wX a ++ wV a cI cJ ki co pr pa f2 nv u3 ++ wP a cI cZ pn pl po pf pt ++ wS a cI ru le li bn ip aw ns ++ wL a ++ wJ a cI cJ ch ma br tl ++ wO a cJ f4) ++ (wM b cI cJ cZ mki msz mle mel mme mal mic mil mio mab mae msa mlc mli mna mva mma mch mre mlv mwr msh mth mnv mns mfa mmo)) := hD
  refine lv_istore hx hb d_La_law_1157 hl (by decide) (lv' := [(5, .int x1), (4, .int i), (3, .ref (a 25)), (2, .ref (b 0)), (1, .ref (a 24)), (0, .ref sc)]) rfl (fun ls hl => ?_)
  refine lv_aload_n hx hb d_La_law_1159 rfl (lv_at hl 3 rfl) ?_
  refine lv_aload_n hx hb d_La_law_1160 rfl (lv_at hl 5 rfl) ?_
  refine lv_iload hx hb d_La_law_1161 (lv_at hl 1 rfl) ?_
  refine lv_iconst (v := 1) hx hb d_La_law_1163 (by decide) ?_
  refine lv_iadd hx hb d_La_law_1164 ?_
  refine va_sld hx hb hXs hbl hbA hS hi1 d_La_law_1165 ?_
  rw [e1]
  refine lv_aload_n hx hb d_La_law_1166 rfl (lv_at hl 5 rfl) ?_
  refine lv_iload hx hb d_La_law_1167 (lv_at hl 1 rfl) ?_
  refine lv_iconst (v := 2) hx hb d_La_law_1169 (by decide) ?_
  refine lv_iadd hx hb d_La_law_1170 ?_
  refine va_sld hx hb hXs hbl hbA hS hi2 d_La_law_1171 ?_
  rw [e2]
  obtain ⟨hpre, vc⟩ := vc
  refine wc_2 (As := [.int k1, .int k2]) (rest := []) S (c_Mo_equalF l D b cI cJ cZ mki msz mle mel mme mal mic mil mio mab mae msa mlc mli mna mva mma mch mre mlv mwr msh mth mnv mns mfa mmo k1 k2 hpre) k_Mo_equal i_Mo_equal e_Mo_equal o_Mo ml_La_142 hd_Mo_equal (Nat.le_trans (by decide) hRf) (Nat.le_trans (by decide) hRl) hRc (va_recv hK hP.r (q0 := 0) (ci := 6) rfl rfl) hK hP hD hS hA hl.1 rfl (Nat.le_of_ble_eq_true rfl) d_La_law_1172 (fun u H locs hu hP hD hS => ?_)
  obtain ⟨t5, u6, f7⟩ := u
  have vc := vc t5 u6 f7 hu
  clear hu
  have hP : va_P D vwCl ((wX a ++ wV a cI cJ ki co pr pa f2 nv u3 ++ wP a cI cZ pn pl po pf pt ++ wS a cI ru le li bn ip aw ns ++ wL a ++ wJ a cI cJ ch ma br tl ++ wO a cJ f4) ++ (wM b cI cJ cZ mki msz mle mel mme f7 mic mil mio mab mae msa mlc mli mna mva mma mch mre mlv mwr msh u6 mnv mns mfa mmo)) H := hP
  have hD : va_D A ((wX a ++ wV a cI cJ ki co pr pa f2 nv u3 ++ wP a cI cZ pn pl po pf pt ++ wS a cI ru le li bn ip aw ns ++ wL a ++ wJ a cI cJ ch ma br tl ++ wO a cJ f4) ++ (wM b cI cJ cZ mki msz mle mel mme f7 mic mil mio mab mae msa mlc mli mna mva mma mch mre mlv mwr msh u6 mnv mns mfa mmo)) := hD
  refine lv_istore hx hb d_La_law_1175 hl (by decide) (lv' := [(6, .int (bI t5)), (5, .int x1), (4, .int i), (3, .ref (a 25)), (2, .ref (b 0)), (1, .ref (a 24)), (0, .ref sc)]) rfl (fun ls hl => ?_)
  refine lv_aload_n hx hb d_La_law_1177 rfl (lv_at hl 4 rfl) ?_
  refine pc_V (As := []) (rest := []) S (c_Mo_thrown l D b cI cJ cZ mki msz mle mel mme f7 mic mil mio mab mae msa mlc mli mna mva mma mch mre mlv mwr msh u6 mnv mns mfa mmo) wB_blind k_Mo_thrown i_Mo_thrown e_Mo_thrown o_Mo ml_La_84 hd_Mo_thrown (Nat.le_trans (by decide) hRf) (Nat.le_trans (by decide) hRl) hRc (va_recv hK hP.r (q0 := 0) (ci := 6) rfl rfl) (wB_at hP.r hK) hl.1 rfl (Nat.le_of_ble_eq_true rfl) d_La_law_1178 ?_
  refine lv_iload hx hb d_La_law_1181 (lv_at hl 1 rfl) ?_
  refine lv_icmp_eq (tgt := 1188) hx hb d_La_law_1183 (by decide) (fun h => ?_) (fun h => ?_)
  · have vc := vc.1 h
    refine lv_iload hx hb d_La_law_1188 (lv_at hl 1 rfl) ?_
    refine lv_if_ne (tgt := 1212) hx hb d_La_law_1190 (by decide) (fun h => ?_) (fun h => ?_)
    · have vc := vc.1 h
      refine lv_goto (tgt := 1215) hx hb d_La_law_1212 (by decide) ?_
      exact hnext ki co pr pa f2 nv u3 pn pl po pf pt ru le li bn ip aw ns ch ma br tl f4 mki msz mle mel mme f7 mic mil mio mab mae msa mlc mli mna mva mma mch mre mlv mwr msh u6 mnv mns mfa mmo ls H locs vc (lv_sub hl [6, 5, 4, 3, 2] rfl) hP hD hS
    · have vc := vc.2 h
      refine lv_aload_n hx hb d_La_law_1193 rfl (lv_at hl 3 rfl) ?_
      refine lv_iconst (v := 0) hx hb d_La_law_1194 (by decide) ?_
      refine va_lald hx hb hK hP.l 25 1 rfl rfl h01 d_La_law_1195 ?_
      refine lv_iload hx hb d_La_law_1196 (lv_at hl 0 rfl) ?_
      refine lv_if_eq (tgt := 1205) hx hb d_La_law_1198 (by decide) (fun h => ?_) (fun h => ?_)
      · have vc := vc.1 h
        refine lv_lconst (v := 0) hx hb d_La_law_1205 (by decide) ?_
        refine W.lcmp hx hb d_La_law_1206 ?_
        refine lv_if_eq (tgt := 1212) hx hb d_La_law_1207 (by decide) (fun h => ?_) (fun h => ?_)
        · have vc := vc.1 h
          refine lv_goto (tgt := 1215) hx hb d_La_law_1212 (by decide) ?_
          exact hnext ki co pr pa f2 nv u3 pn pl po pf pt ru le li bn ip aw ns ch ma br tl f4 mki msz mle mel mme f7 mic mil mio mab mae msa mlc mli mna mva mma mch mre mlv mwr msh u6 mnv mns mfa mmo ls H locs vc (lv_sub hl [6, 5, 4, 3, 2] rfl) hP hD hS
        · have vc := vc.2 h
          refine lv_iconst (v := 0) hx hb d_La_law_1210 (by decide) ?_
          exact vc.elim
      · have vc := vc.2 h
        refine lv_lconst (v := 1) hx hb d_La_law_1201 (by decide) ?_
        refine lv_goto (tgt := 1206) hx hb d_La_law_1202 (by decide) ?_
        refine W.lcmp hx hb d_La_law_1206 ?_
        refine lv_if_eq (tgt := 1212) hx hb d_La_law_1207 (by decide) (fun h => ?_) (fun h => ?_)
        · have vc := vc.1 h
          refine lv_goto (tgt := 1215) hx hb d_La_law_1212 (by decide) ?_
          exact hnext ki co pr pa f2 nv u3 pn pl po pf pt ru le li bn ip aw ns ch ma br tl f4 mki msz mle mel mme f7 mic mil mio mab mae msa mlc mli mna mva mma mch mre mlv mwr msh u6 mnv mns mfa mmo ls H locs vc (lv_sub hl [6, 5, 4, 3, 2] rfl) hP hD hS
        · have vc := vc.2 h
          refine lv_iconst (v := 0) hx hb d_La_law_1210 (by decide) ?_
          exact vc.elim
  · have vc := vc.2 h
    refine lv_iconst (v := 0) hx hb d_La_law_1186 (by decide) ?_
    exact vc.elim
