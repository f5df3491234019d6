def V_L5 (ki : Nat → Int32) (co : Nat → Int64) (pr : Nat → Int32) (pa : Nat → Int32) (tw : Nat → Int32) (nv : Int32) (sv : Int32) (pn : Nat → Int32) (pl : Nat → Int32) (po : Nat → Int32) (pf : Nat → Int32) (pt : Nat → Int32) (ru : Nat → Int32) (le : Nat → Int32) (li : Nat → Int32) (bn : Nat → Int32) (ip : Nat → Int32) (aw : Nat → Int32) (ns : Int32) (ch : Nat → Int32) (ma : Nat → Int32) (br : Nat → Int64) (tl : Int32) (ou : Nat → Int64) (mki : Nat → Int32) (msz : Nat → Int64) (mle : Nat → Int32) (mel : Nat → Int32) (mme : Nat → Int32) (mal : Nat → Int32) (mic : Nat → Int32) (mil : Nat → Int32) (mio : Nat → Int32) (mab : Nat → Int32) (mae : Nat → Int32) (msa : Nat → Int32) (mlc : Nat → Int32) (mli : Nat → Int32) (mna : Nat → Int32) (mva : Nat → Int32) (mma : Nat → Int32) (mch : Nat → Int32) (mre : Nat → Int32) (mlv : Nat → Int32) (mwr : Nat → Int64) (msh : Nat → Int32) (mth : Int32) (mnv : Int32) (mns : Int32) (mfa : Int32) (mmo : Int32) (k1 k2 k3 k4 : Int32) (post : (Nat → Int32) → (Nat → Int64) → (Nat → Int32) → (Nat → Int32) → (Nat → Int32) → Int32 → Int32 → (Nat → Int32) → (Nat → Int32) → (Nat → Int32) → (Nat → Int32) → (Nat → Int32) → (Nat → Int32) → (Nat → Int32) → (Nat → Int32) → (Nat → Int32) → (Nat → Int32) → (Nat → Int32) → Int32 → (Nat → Int32) → (Nat → Int32) → (Nat → Int64) → Int32 → (Nat → Int64) → (Nat → Int32) → (Nat → Int64) → (Nat → Int32) → (Nat → Int32) → (Nat → Int32) → (Nat → Int32) → (Nat → Int32) → (Nat → Int32) → (Nat → Int32) → (Nat → Int32) → (Nat → Int32) → (Nat → Int32) → (Nat → Int32) → (Nat → Int32) → (Nat → Int32) → (Nat → Int32) → (Nat → Int32) → (Nat → Int32) → (Nat → Int32) → (Nat → Int32) → (Nat → Int64) → (Nat → Int32) → Int32 → Int32 → Int32 → Int32 → Int32 → Prop) : Prop :=
  (nv ≤ 40 ∧ ((¬ (sKind ki nv k1 5 && (sIn k2 0 11 && sIn k3 0 (k1 - 1))) = true → (mnv ≤ 40 ∧ ((¬ (sKind mki mnv k1 5 && (sIn k2 0 11 && sHas k1 k3)) = true → post ki co pr pa tw nv sv pn pl po pf pt ru le li bn ip aw ns ch ma br tl ou mki msz mle mel mme mal mic mil mio mab mae msa mlc mli mna mva mma mch mre mlv mwr msh 1 mnv mns mfa mmo) ∧ (¬ (¬ (sKind mki mnv k1 5 && (sIn k2 0 11 && sHas k1 k3)) = true) → False)))) ∧ (¬ (¬ (sKind ki nv k1 5 && (sIn k2 0 11 && sIn k3 0 (k1 - 1))) = true) → (mnv ≤ 40 ∧ ((¬ (sKind mki mnv k1 5 && (sIn k2 0 11 && sHas k1 k3)) = true → False) ∧ (¬ (¬ (sKind mki mnv k1 5 && (sIn k2 0 11 && sHas k1 k3)) = true) → post ki co (upd pr k1.toNatClampNeg (pr k1.toNatClampNeg ||| (1 <<< (k2 &&& 31)))) (upd pa (k1 * 12 + k2 : Int32).toNatClampNeg k3) tw nv (if k1 < sv then k1 else sv) pn pl po pf pt ru le li bn ip aw ns ch ma br tl ou mki msz mle mel (upd mme (12 * k1 + k2 : Int32).toNatClampNeg k3) mal mic mil mio mab mae msa mlc mli mna mva mma mch mre mlv mwr msh 0 mnv mns mfa mmo))))))
set_option maxHeartbeats 4000000 in
set_option maxRecDepth 100000 in
theorem g_L5 {p : Program} {l : Launch} {e : Env} {R : Room} {s : State} {m : MethodId} {args : Array Value} {below : List Frame} {meth : Method} {c : Code} {H : Heap} {locs : List Loc} {cells slots : Nat} {Q : State → Prop} {ls : Array Slot} {A : Nat → Prop} (hls : l.stackTraces = false) (S : CallFix p m c code 7 s args W0 "SchemaJudgeLaw") (hN : eN s) (hRf : 8 ≤ R.frames) (hRl : 137 ≤ R.locals) (hRc : cells + 1 ≤ R.cells ∧ slots + 6 ≤ R.slots) (D : va_G) (a b : Nat → Nat) (cI cJ cZ : ClassId) (ki : Nat → Int32) (co : Nat → Int64) (pr : Nat → Int32) (pa : Nat → Int32) (tw : Nat → Int32) (nv : Int32) (sv : Int32) (pn : Nat → Int32) (pl : Nat → Int32) (po : Nat → Int32) (pf : Nat → Int32) (pt : Nat → Int32) (ru : Nat → Int32) (le : Nat → Int32) (li : Nat → Int32) (bn : Nat → Int32) (ip : Nat → Int32) (aw : Nat → Int32) (ns : Int32) (ch : Nat → Int32) (ma : Nat → Int32) (br : Nat → Int64) (tl : Int32) (ou : Nat → Int64) (mki : Nat → Int32) (msz : Nat → Int64) (mle : Nat → Int32) (mel : Nat → Int32) (mme : Nat → Int32) (mal : Nat → Int32) (mic : Nat → Int32) (mil : Nat → Int32) (mio : Nat → Int32) (mab : Nat → Int32) (mae : Nat → Int32) (msa : Nat → Int32) (mlc : Nat → Int32) (mli : Nat → Int32) (mna : Nat → Int32) (mva : Nat → Int32) (mma : Nat → Int32) (mch : Nat → Int32) (mre : Nat → Int32) (mlv : Nat → Int32) (mwr : Nat → Int64) (msh : Nat → Int32) (mth : Int32) (mnv : Int32) (mns : Int32) (mfa : Int32) (mmo : Int32) (k1 k2 k3 k4 : Int32) (sc L : Nat) (xs : Nat → Int32) (i : Int32) (hXs : va_X sc L xs s s.heap) (hbl : sc < s.heap.size) (hbA : ¬ A sc) (hi1 : vp_in (i + 1) L) (e1 : xs (i + 1 : Int32).toNatClampNeg = k1) (hi2 : vp_in (i + 2) L) (e2 : xs (i + 2 : Int32).toNatClampNeg = k2) (hi3 : vp_in (i + 3) L) (e3 : xs (i + 3 : Int32).toNatClampNeg = k3) (hi4 : vp_in (i + 4) L) (e4 : xs (i + 4 : Int32).toNatClampNeg = k4) (hK : va_K D vwCl (tyA cI cJ cZ) s) (hP : va_P D vwCl ((wX a ++ wV a cI cJ ki co pr pa tw nv sv ++ wP a cI cZ pn pl po pf pt ++ wS a cI ru le li bn ip aw ns ++ wL a ++ wJ a cI cJ ch ma br tl ++ wO a cJ ou) ++ (wM b cI cJ cZ mki msz mle mel mme mal mic mil mio mab mae msa mlc mli mna mva mma mch mre mlv mwr msh mth mnv mns mfa mmo)) H) (hD : va_D A ((wX a ++ wV a cI cJ ki co pr pa tw nv sv ++ wP a cI cZ pn pl po pf pt ++ wS a cI ru le li bn ip aw ns ++ wL a ++ wJ a cI cJ ch ma br tl ++ wO a cJ ou) ++ (wM b cI cJ cZ mki msz mle mel mme mal mic mil mio mab mae msa mlc mli mna mva mma mch mre mlv mwr msh mth mnv mns mfa mmo))) (hA : ∀ q, s.heap.size ≤ q → A q) (hS : va_S A s.heap H locs) (hX : eX A s s.heap) (hl : lv_has ls 7 [(4, .int i), (3, .ref (a 25)), (2, .ref (b 0)), (1, .ref (a 24)), (0, .ref sc)]) {post : (Nat → Int32) → (Nat → Int64) → (Nat → Int32) → (Nat → Int32) → (Nat → Int32) → Int32 → Int32 → (Nat → Int32) → (Nat → Int32) → (Nat → Int32) → (Nat → Int32) → (Nat → Int32) → (Nat → Int32) → (Nat → Int32) → (Nat → Int32) → (Nat → Int32) → (Nat → Int32) → (Nat → Int32) → Int32 → (Nat → Int32) → (Nat → Int32) → (Nat → Int64) → Int32 → (Nat → Int64) → (Nat → Int32) → (Nat → Int64) → (Nat → Int32) → (Nat → Int32) → (Nat → Int32) → (Nat → Int32) → (Nat → Int32) → (Nat → Int32) → (Nat → Int32) → (Nat → Int32) → (Nat → Int32) → (Nat → Int32) → (Nat → Int32) → (Nat → Int32) → (Nat → Int32) → (Nat → Int32) → (Nat → Int32) → (Nat → Int32) → (Nat → Int32) → (Nat → Int32) → (Nat → Int64) → (Nat → Int32) → Int32 → Int32 → Int32 → Int32 → Int32 → Prop} (vc : V_L5 ki co pr pa tw nv sv pn pl po pf pt ru le li bn ip aw ns ch ma br tl ou mki msz mle mel mme mal mic mil mio mab mae msa mlc mli mna mva mma mch mre mlv mwr msh mth mnv mns mfa mmo k1 k2 k3 k4 post)
    (hnext : ∀ (ki : Nat → Int32) (co : Nat → Int64) (pr : Nat → Int32) (pa : Nat → Int32) (tw : Nat → Int32) (nv : Int32) (sv : Int32) (pn : Nat → Int32) (pl : Nat → Int32) (po : Nat → Int32) (pf : Nat → Int32) (pt : Nat → Int32) (ru : Nat → Int32) (le : Nat → Int32) (li : Nat → Int32) (bn : Nat → Int32) (ip : Nat → Int32) (aw : Nat → Int32) (ns : Int32) (ch : Nat → Int32) (ma : Nat → Int32) (br : Nat → Int64) (tl : Int32) (ou : Nat → Int64) (mki : Nat → Int32) (msz : Nat → Int64) (mle : Nat → Int32) (mel : Nat → Int32) (mme : Nat → Int32) (mal : Nat → Int32) (mic : Nat → Int32) (mil : Nat → Int32) (mio : Nat → Int32) (mab : Nat → Int32) (mae : Nat → Int32) (msa : Nat → Int32) (mlc : Nat → Int32) (mli : Nat → Int32) (mna : Nat → Int32) (mva : Nat → Int32) (mma : Nat → Int32) (mch : Nat → Int32) (mre : Nat → Int32) (mlv : Nat → Int32) (mwr : Nat → Int64) (msh : Nat → Int32) (mth : Int32) (mnv : Int32) (mns : Int32) (mfa : Int32) (mmo : Int32) (ls : Array Slot) (H : Heap) (locs : List Loc), post ki co pr pa tw nv sv pn pl po pf pt ru le li bn ip aw ns ch ma br tl ou mki msz mle mel mme mal mic mil mio mab mae msa mlc mli mna mva mma mch mre mlv mwr msh mth mnv mns mfa mmo → lv_has ls 7 [(0, .ref sc), (1, .ref (a 24)), (2, .ref (b 0)), (3, .ref (a 25)), (4, .int i)] → va_P D vwCl ((wX a ++ wV a cI cJ ki co pr pa tw nv sv ++ wP a cI cZ pn pl po pf pt ++ wS a cI ru le li bn ip aw ns ++ wL a ++ wJ a cI cJ ch ma br tl ++ wO a cJ ou) ++ (wM b cI cJ cZ mki msz mle mel mme mal mic mil mio mab mae msa mlc mli mna mva mma mch mre mlv mwr msh mth mnv mns mfa mmo)) H → va_D A ((wX a ++ wV a cI cJ ki co pr pa tw nv sv ++ wP a cI cZ pn pl po pf pt ++ wS a cI ru le li bn ip aw ns ++ wL a ++ wJ a cI cJ ch ma br tl ++ wO a cJ ou) ++ (wM b cI cJ cZ mki msz mle mel mme mal mic mil mio mab mae msa mlc mli mna mva mma mch mre mlv mwr msh mth mnv mns mfa mmo)) → va_S A s.heap H locs → W p l e R s m args below meth c H locs (cells + 1) (slots + 6) Q (F0 m 1215 ls [])) : W p l e R s m args below meth c H locs cells slots Q (F0 m 440 ls []) := by
  have hx := S.1
  have hb := S.2.1
  have hown := S.2.2.2.1
  have hts := S.2.2.2.2
  have h01 : vp_in (0 : Int32) 1 := vp_in_nI (n := 0) (by decide) (by decide)
  unfold V_L5 at vc
  refine lv_aload_n hx hb d_La_law_440 rfl (lv_at hl 3 rfl) ?_
  refine lv_aload_n hx hb d_La_law_441 rfl (lv_at hl 4 rfl) ?_
  refine lv_iload hx hb d_La_law_442 (lv_at hl 0 rfl) ?_
  refine lv_iconst (v := 1) hx hb d_La_law_444 (by decide) ?_
  refine lv_iadd hx hb d_La_law_445 ?_
  refine va_sld hx hb hXs hbl hbA hS hi1 d_La_law_446 ?_
  rw [e1]
  refine lv_aload_n hx hb d_La_law_447 rfl (lv_at hl 4 rfl) ?_
  refine lv_iload hx hb d_La_law_448 (lv_at hl 0 rfl) ?_
  refine lv_iconst (v := 2) hx hb d_La_law_450 (by decide) ?_
  refine lv_iadd hx hb d_La_law_451 ?_
  refine va_sld hx hb hXs hbl hbA hS hi2 d_La_law_452 ?_
  rw [e2]
  refine lv_aload_n hx hb d_La_law_453 rfl (lv_at hl 4 rfl) ?_
  refine lv_iload hx hb d_La_law_454 (lv_at hl 0 rfl) ?_
  refine lv_iconst (v := 3) hx hb d_La_law_456 (by decide) ?_
  refine lv_iadd hx hb d_La_law_457 ?_
  refine va_sld hx hb hXs hbl hbA hS hi3 d_La_law_458 ?_
  rw [e3]
  obtain ⟨hpre, vc⟩ := vc
  by_cases hv1 : ¬ (sKind ki nv k1 5 && (sIn k2 0 11 && sIn k3 0 (k1 - 1))) = true
  · have vc := vc.1 hv1
    refine hc_1 (As := [.ref (a 24), .int k1, .int k2, .int k3]) (rest := []) S (c_La_put_1 l hls D a cI cJ cZ ki co pr pa tw nv sv pn pl po pf pt ru le li bn ip aw ns ch ma br tl ou k1 k2 k3 hpre hv1) kw_La_put s_La_put o_La ml_La_101 hd_La_put (Nat.le_trans (by decide) hRf) (Nat.le_trans (by decide) hRl) hRc hK hP hD hS hA hX hN hl.1 rfl (Nat.le_of_ble_eq_true rfl) d_La_law_459 (fun _ H locs _ hP hD hS => ?_)
    refine lv_istore hx hb d_La_law_462 hl (by decide) (lv' := [(5, .int 1), (4, .int i), (3, .ref (a 25)), (2, .ref (b 0)), (1, .ref (a 24)), (0, .ref sc)]) rfl (fun ls hl => ?_)
    refine lv_aload_n hx hb d_La_law_464 rfl (lv_at hl 3 rfl) ?_
    refine lv_aload_n hx hb d_La_law_465 rfl (lv_at hl 5 rfl) ?_
    refine lv_iload hx hb d_La_law_466 (lv_at hl 1 rfl) ?_
    refine lv_iconst (v := 1) hx hb d_La_law_468 (by decide) ?_
    refine lv_iadd hx hb d_La_law_469 ?_
    refine va_sld hx hb hXs hbl hbA hS hi1 d_La_law_470 ?_
    rw [e1]
    refine lv_aload_n hx hb d_La_law_471 rfl (lv_at hl 5 rfl) ?_
    refine lv_iload hx hb d_La_law_472 (lv_at hl 1 rfl) ?_
    refine lv_iconst (v := 2) hx hb d_La_law_474 (by decide) ?_
    refine lv_iadd hx hb d_La_law_475 ?_
    refine va_sld hx hb hXs hbl hbA hS hi2 d_La_law_476 ?_
    rw [e2]
    refine lv_aload_n hx hb d_La_law_477 rfl (lv_at hl 5 rfl) ?_
    refine lv_iload hx hb d_La_law_478 (lv_at hl 1 rfl) ?_
    refine lv_iconst (v := 3) hx hb d_La_law_480 (by decide) ?_
    refine lv_iadd hx hb d_La_law_481 ?_
    refine va_sld hx hb hXs hbl hbA hS hi3 d_La_law_482 ?_
    rw [e3]
    obtain ⟨hpre, vc⟩ := vc
    by_cases hv1 : ¬ (sKind mki mnv k1 5 && (sIn k2 0 11 && sHas k1 k3)) = true
    · have vc := vc.1 hv1
      refine wc_2 (As := [.int k1, .int k2, .int k3]) (rest := []) S (c_Mo_put_1 l D b cI cJ cZ mki msz mle mel mme mal mic mil mio mab mae msa mlc mli mna mva mma mch mre mlv mwr msh mth mnv mns mfa mmo k1 k2 k3 hpre hv1) k_Mo_put i_Mo_put e_Mo_put o_Mo ml_La_104 hd_Mo_put (Nat.le_trans (by decide) hRf) (Nat.le_trans (by decide) hRl) hRc (va_recv hK hP.r (q0 := 0) (ci := 6) rfl rfl) hK hP hD hS hA hl.1 rfl (Nat.le_of_ble_eq_true rfl) d_La_law_483 (fun _ H locs _ hP hD hS => ?_)
      refine lv_aload_n hx hb d_La_law_486 rfl (lv_at hl 3 rfl) ?_
      refine pc_V (As := []) (rest := []) S (c_Mo_thrown l D b cI cJ cZ mki msz mle mel mme mal mic mil mio mab mae msa mlc mli mna mva mma mch mre mlv mwr msh 1 mnv mns mfa mmo) wB_blind k_Mo_thrown i_Mo_thrown e_Mo_thrown o_Mo ml_La_84 hd_Mo_thrown (Nat.le_trans (by decide) hRf) (Nat.le_trans (by decide) hRl) hRc (va_recv hK hP.r (q0 := 0) (ci := 6) rfl rfl) (wB_at hP.r hK) hl.1 rfl (Nat.le_of_ble_eq_true rfl) d_La_law_487 ?_
      refine lv_iload hx hb d_La_law_490 (lv_at hl 0 rfl) ?_
      refine lv_icmp_eq (tgt := 497) hx hb d_La_law_492 (by decide) (fun h => ?_) (fun h => ?_)
      · skip
        refine lv_goto (tgt := 1215) hx hb d_La_law_497 (by decide) ?_
        exact hnext ki co pr pa tw nv sv pn pl po pf pt ru le li bn ip aw ns ch ma br tl ou mki msz mle mel mme mal mic mil mio mab mae msa mlc mli mna mva mma mch mre mlv mwr msh 1 mnv mns mfa mmo ls H locs vc (lv_sub hl [5, 4, 3, 2, 1] rfl) hP hD hS
      · exact absurd h (by decide)
    · have vc := vc.2 hv1
      refine wc_2 (As := [.int k1, .int k2, .int k3]) (rest := []) S (c_Mo_put_2 l D b cI cJ cZ mki msz mle mel mme mal mic mil mio mab mae msa mlc mli mna mva mma mch mre mlv mwr msh mth mnv mns mfa mmo k1 k2 k3 hpre hv1) k_Mo_put i_Mo_put e_Mo_put o_Mo ml_La_104 hd_Mo_put (Nat.le_trans (by decide) hRf) (Nat.le_trans (by decide) hRl) hRc (va_recv hK hP.r (q0 := 0) (ci := 6) rfl rfl) hK hP hD hS hA hl.1 rfl (Nat.le_of_ble_eq_true rfl) d_La_law_483 (fun _ H locs _ hP hD hS => ?_)
      refine lv_aload_n hx hb d_La_law_486 rfl (lv_at hl 3 rfl) ?_
      refine pc_V (As := []) (rest := []) S (c_Mo_thrown l D b cI cJ cZ mki msz mle mel (upd mme (12 * k1 + k2 : Int32).toNatClampNeg k3) mal mic mil mio mab mae msa mlc mli mna mva mma mch mre mlv mwr msh 0 mnv mns mfa mmo) wB_blind k_Mo_thrown i_Mo_thrown e_Mo_thrown o_Mo ml_La_84 hd_Mo_thrown (Nat.le_trans (by decide) hRf) (Nat.le_trans (by decide) hRl) hRc (va_recv hK hP.r (q0 := 0) (ci := 6) rfl rfl) (wB_at hP.r hK) hl.1 rfl (Nat.le_of_ble_eq_true rfl) d_La_law_487 ?_
      refine lv_iload hx hb d_La_law_490 (lv_at hl 0 rfl) ?_
      refine lv_icmp_eq (tgt := 497) hx hb d_La_law_492 (by decide) (fun h => ?_) (fun h => ?_)
      · exact absurd h (by decide)
      · skip
        refine lv_iconst (v := 0) hx hb d_La_law_495 (by decide) ?_
        exact vc.elim
  · have vc := vc.2 hv1
    refine hc_1 (As := [.ref (a 24), .int k1, .int k2, .int k3]) (rest := []) S (c_La_put_2 l hls D a cI cJ cZ ki co pr pa tw nv sv pn pl po pf pt ru le li bn ip aw ns ch ma br tl ou k1 k2 k3 hpre hv1) kw_La_put s_La_put o_La ml_La_101 hd_La_put (Nat.le_trans (by decide) hRf) (Nat.le_trans (by decide) hRl) hRc hK hP hD hS hA hX hN hl.1 rfl (Nat.le_of_ble_eq_true rfl) d_La_law_459 (fun _ H locs _ hP hD hS => ?_)
    refine lv_istore hx hb d_La_law_462 hl (by decide) (lv' := [(5, .int 0), (4, .int i), (3, .ref (a 25)), (2, .ref (b 0)), (1, .ref (a 24)), (0, .ref sc)]) rfl (fun ls hl => ?_)
    refine lv_aload_n hx hb d_La_law_464 rfl (lv_at hl 3 rfl) ?_
    refine lv_aload_n hx hb d_La_law_465 rfl (lv_at hl 5 rfl) ?_
    refine lv_iload hx hb d_La_law_466 (lv_at hl 1 rfl) ?_
    refine lv_iconst (v := 1) hx hb d_La_law_468 (by decide) ?_
    refine lv_iadd hx hb d_La_law_469 ?_
    refine va_sld hx hb hXs hbl hbA hS hi1 d_La_law_470 ?_
    rw [e1]
    refine lv_aload_n hx hb d_La_law_471 rfl (lv_at hl 5 rfl) ?_
    refine lv_iload hx hb d_La_law_472 (lv_at hl 1 rfl) ?_
    refine lv_iconst (v := 2) hx hb d_La_law_474 (by decide) ?_
    refine lv_iadd hx hb d_La_law_475 ?_
    refine va_sld hx hb hXs hbl hbA hS hi2 d_La_law_476 ?_
    rw [e2]
    refine lv_aload_n hx hb d_La_law_477 rfl (lv_at hl 5 rfl) ?_
    refine lv_iload hx hb d_La_law_478 (lv_at hl 1 rfl) ?_
    refine lv_iconst (v := 3) hx hb d_La_law_480 (by decide) ?_
    refine lv_iadd hx hb d_La_law_481 ?_
    refine va_sld hx hb hXs hbl hbA hS hi3 d_La_law_482 ?_
    rw [e3]
    obtain ⟨hpre, vc⟩ := vc
    by_cases hv1 : ¬ (sKind mki mnv k1 5 && (sIn k2 0 11 && sHas k1 k3)) = true
    · have vc := vc.1 hv1
      refine wc_2 (As := [.int k1, .int k2, .int k3]) (rest := []) S (c_Mo_put_1 l D b cI cJ cZ mki msz mle mel mme mal mic mil mio mab mae msa mlc mli mna mva mma mch mre mlv mwr msh mth mnv mns mfa mmo k1 k2 k3 hpre hv1) k_Mo_put i_Mo_put e_Mo_put o_Mo ml_La_104 hd_Mo_put (Nat.le_trans (by decide) hRf) (Nat.le_trans (by decide) hRl) hRc (va_recv hK hP.r (q0 := 0) (ci := 6) rfl rfl) hK hP hD hS hA hl.1 rfl (Nat.le_of_ble_eq_true rfl) d_La_law_483 (fun _ H locs _ hP hD hS => ?_)
      refine lv_aload_n hx hb d_La_law_486 rfl (lv_at hl 3 rfl) ?_
      refine pc_V (As := []) (rest := []) S (c_Mo_thrown l D b cI cJ cZ mki msz mle mel mme mal mic mil mio mab mae msa mlc mli mna mva mma mch mre mlv mwr msh 1 mnv mns mfa mmo) wB_blind k_Mo_thrown i_Mo_thrown e_Mo_thrown o_Mo ml_La_84 hd_Mo_thrown (Nat.le_trans (by decide) hRf) (Nat.le_trans (by decide) hRl) hRc (va_recv hK hP.r (q0 := 0) (ci := 6) rfl rfl) (wB_at hP.r hK) hl.1 rfl (Nat.le_of_ble_eq_true rfl) d_La_law_487 ?_
      refine lv_iload hx hb d_La_law_490 (lv_at hl 0 rfl) ?_
      refine lv_icmp_eq (tgt := 497) hx hb d_La_law_492 (by decide) (fun h => ?_) (fun h => ?_)
      · exact absurd h (by decide)
      · skip
        refine lv_iconst (v := 0) hx hb d_La_law_495 (by decide) ?_
        exact vc.elim
    · have vc := vc.2 hv1
      refine wc_2 (As := [.int k1, .int k2, .int k3]) (rest := []) S (c_Mo_put_2 l D b cI cJ cZ mki msz mle mel mme mal mic mil mio mab mae msa mlc mli mna mva mma mch mre mlv mwr msh mth mnv mns mfa mmo k1 k2 k3 hpre hv1) k_Mo_put i_Mo_put e_Mo_put o_Mo ml_La_104 hd_Mo_put (Nat.le_trans (by decide) hRf) (Nat.le_trans (by decide) hRl) hRc (va_recv hK hP.r (q0 := 0) (ci := 6) rfl rfl) hK hP hD hS hA hl.1 rfl (Nat.le_of_ble_eq_true rfl) d_La_law_483 (fun _ H locs _ hP hD hS => ?_)
      refine lv_aload_n hx hb d_La_law_486 rfl (lv_at hl 3 rfl) ?_
      refine pc_V (As := []) (rest := []) S (c_Mo_thrown l D b cI cJ cZ mki msz mle mel (upd mme (12 * k1 + k2 : Int32).toNatClampNeg k3) mal mic mil mio mab mae msa mlc mli mna mva mma mch mre mlv mwr msh 0 mnv mns mfa mmo) wB_blind k_Mo_thrown i_Mo_thrown e_Mo_thrown o_Mo ml_La_84 hd_Mo_thrown (Nat.le_trans (by decide) hRf) (Nat.le_trans (by decide) hRl) hRc (va_recv hK hP.r (q0 := 0) (ci := 6) rfl rfl) (wB_at hP.r hK) hl.1 rfl (Nat.le_of_ble_eq_true rfl) d_La_law_487 ?_
      refine lv_iload hx hb d_La_law_490 (lv_at hl 0 rfl) ?_
      refine lv_icmp_eq (tgt := 497) hx hb d_La_law_492 (by decide) (fun h => ?_) (fun h => ?_)
      · skip
        refine lv_goto (tgt := 1215) hx hb d_La_law_497 (by decide) ?_
        exact hnext ki co (upd pr k1.toNatClampNeg (pr k1.toNatClampNeg ||| (1 <<< (k2 &&& 31)))) (upd pa (k1 * 12 + k2 : Int32).toNatClampNeg k3) tw nv (if k1 < sv then k1 else sv) pn pl po pf pt ru le li bn ip aw ns ch ma br tl ou mki msz mle mel (upd mme (12 * k1 + k2 : Int32).toNatClampNeg k3) mal mic mil mio mab mae msa mlc mli mna mva mma mch mre mlv mwr msh 0 mnv mns mfa mmo ls H locs vc (lv_sub hl [5, 4, 3, 2, 1] rfl) hP hD hS
      · exact absurd h (by decide)
def V_L6 (ki : Nat → Int32) (co : Nat → Int64) (pr : Nat → Int32) (pa : Nat → Int32) (tw : Nat → Int32) (nv : Int32) (sv : Int32) (pn : Nat → Int32) (pl : Nat → Int32) (po : Nat → Int32) (pf : Nat → Int32) (pt : Nat → Int32) (ru : Nat → Int32) (le : Nat → Int32) (li : Nat → Int32) (bn : Nat → Int32) (ip : Nat → Int32) (aw : Nat → Int32) (ns : Int32) (ch : Nat → Int32) (ma : Nat → Int32) (br : Nat → Int64) (tl : Int32) (ou : Nat → Int64) (mki : Nat → Int32) (msz : Nat → Int64) (mle : Nat → Int32) (mel : Nat → Int32) (mme : Nat → Int32) (mal : Nat → Int32) (mic : Nat → Int32) (mil : Nat → Int32) (mio : Nat → Int32) (mab : Nat → Int32) (mae : Nat → Int32) (msa : Nat → Int32) (mlc : Nat → Int32) (mli : Nat → Int32) (mna : Nat → Int32) (mva : Nat → Int32) (mma : Nat → Int32) (mch : Nat → Int32) (mre : Nat → Int32) (mlv : Nat → Int32) (mwr : Nat → Int64) (msh : Nat → Int32) (mth : Int32) (mnv : Int32) (mns : Int32) (mfa : Int32) (mmo : Int32) (k1 k2 k3 k4 : Int32) (post : (Nat → Int32) → (Nat → Int64) → (Nat → Int32) → (Nat → Int32) → (Nat → Int32) → Int32 → Int32 → (Nat → Int32) → (Nat → Int32) → (Nat → Int32) → (Nat → Int32) → (Nat → Int32) → (Nat → Int32) → (Nat → Int32) → (Nat → Int32) → (Nat → Int32) → (Nat → Int32) → (Nat → Int32) → Int32 → (Nat → Int32) → (Nat → Int32) → (Nat → Int64) → Int32 → (Nat → Int64) → (Nat → Int32) → (Nat → Int64) → (Nat → Int32) → (Nat → Int32) → (Nat → Int32) → (Nat → Int32) → (Nat → Int32) → (Nat → Int32) → (Nat → Int32) → (Nat → Int32) → (Nat → Int32) → (Nat → Int32) → (Nat → Int32) → (Nat → Int32) → (Nat → Int32) → (Nat → Int32) → (Nat → Int32) → (Nat → Int32) → (Nat → Int32) → (Nat → Int32) → (Nat → Int64) → (Nat → Int32) → Int32 → Int32 → Int32 → Int32 → Int32 → Prop) : Prop :=
  ((∀ j : Nat, j < 8 → ∃ b : Nat, b ≤ 6 ∧ pn j = nI b) ∧ ((¬ (sHas 8 k1 && (sIn k2 0 15 && sIn k3 0 3)) = true → ((∀ j : Nat, j < 8 → ∃ b : Nat, b ≤ 6 ∧ mic j = nI b) ∧ ((¬ (sIn k1 0 7 && (sIn k2 0 15 && sIn k3 0 3)) = true → post ki co pr pa tw nv sv pn pl po pf pt ru le li bn ip aw ns ch ma br tl ou mki msz mle mel mme mal mic mil mio mab mae msa mlc mli mna mva mma mch mre mlv mwr msh 1 mnv mns mfa mmo) ∧ (¬ (¬ (sIn k1 0 7 && (sIn k2 0 15 && sIn k3 0 3)) = true) → ((mic k1.toNatClampNeg = 6 → False) ∧ (¬ (mic k1.toNatClampNeg = 6) → False)))))) ∧ (¬ (¬ (sHas 8 k1 && (sIn k2 0 15 && sIn k3 0 3)) = true) → ((6 ≤ pn k1.toNatClampNeg → ((∀ j : Nat, j < 8 → ∃ b : Nat, b ≤ 6 ∧ mic j = nI b) ∧ ((¬ (sIn k1 0 7 && (sIn k2 0 15 && sIn k3 0 3)) = true → False) ∧ (¬ (¬ (sIn k1 0 7 && (sIn k2 0 15 && sIn k3 0 3)) = true) → ((mic k1.toNatClampNeg = 6 → post ki co pr pa tw nv sv pn pl po pf pt ru le li bn ip aw ns ch ma br tl ou mki msz mle mel mme mal mic mil mio mab mae msa mlc mli mna mva mma mch mre mlv mwr msh 2 mnv mns mfa mmo) ∧ (¬ (mic k1.toNatClampNeg = 6) → False)))))) ∧ (¬ (6 ≤ pn k1.toNatClampNeg) → ((∀ j : Nat, j < 8 → ∃ b : Nat, b ≤ 6 ∧ mic j = nI b) ∧ ((¬ (sIn k1 0 7 && (sIn k2 0 15 && sIn k3 0 3)) = true → False) ∧ (¬ (¬ (sIn k1 0 7 && (sIn k2 0 15 && sIn k3 0 3)) = true) → ((mic k1.toNatClampNeg = 6 → False) ∧ (¬ (mic k1.toNatClampNeg = 6) → (((lg_cmp ((vp_updL ou 0 ((pn k1.toNatClampNeg + 1 : Int32).toInt64)) (0 : Int32).toNatClampNeg) ((mic k1.toNatClampNeg + 1 : Int32).toInt64)) = 0 → post ki co pr pa tw nv sv (upd pn k1.toNatClampNeg (pn k1.toNatClampNeg + 1)) (upd pl (k1 * 6 + pn k1.toNatClampNeg : Int32).toNatClampNeg k2) (upd po (k1 * 6 + pn k1.toNatClampNeg : Int32).toNatClampNeg k3) pf pt ru le li bn ip aw ns ch ma br tl (vp_updL ou 0 ((pn k1.toNatClampNeg + 1 : Int32).toInt64)) mki msz mle mel mme mal (upd mic k1.toNatClampNeg (mic k1.toNatClampNeg + 1)) (upd mil (6 * k1 + mic k1.toNatClampNeg : Int32).toNatClampNeg k2) (upd mio (6 * k1 + mic k1.toNatClampNeg : Int32).toNatClampNeg k3) mab mae msa mlc mli mna mva mma mch mre mlv mwr msh 0 mnv mns mfa mmo) ∧ (¬ (lg_cmp ((vp_updL ou 0 ((pn k1.toNatClampNeg + 1 : Int32).toInt64)) (0 : Int32).toNatClampNeg) ((mic k1.toNatClampNeg + 1 : Int32).toInt64)) = 0 → False))))))))))))
set_option maxHeartbeats 4000000 in
set_option maxRecDepth 100000 in
theorem g_L6 {p : Program} {l : Launch} {e : Env} {R : Room} {s : State} {m : MethodId} {args : Array Value} {below : List Frame} {meth : Method} {c : Code} {H : Heap} {locs : List Loc} {cells slots : Nat} {Q : State → Prop} {ls : Array Slot} {A : Nat → Prop} (hls : l.stackTraces = false) (S : CallFix p m c code 7 s args W0 "SchemaJudgeLaw") (hN : eN s) (hRf : 8 ≤ R.frames) (hRl : 139 ≤ R.locals) (hRc : cells + 1 ≤ R.cells ∧ slots + 6 ≤ R.slots) (D : va_G) (a b : Nat → Nat) (cI cJ cZ : ClassId) (ki : Nat → Int32) (co : Nat → Int64) (pr : Nat → Int32) (pa : Nat → Int32) (tw : Nat → Int32) (nv : Int32) (sv : Int32) (pn : Nat → Int32) (pl : Nat → Int32) (po : Nat → Int32) (pf : Nat → Int32) (pt : Nat → Int32) (ru : Nat → Int32) (le : Nat → Int32) (li : Nat → Int32) (bn : Nat → Int32) (ip : Nat → Int32) (aw : Nat → Int32) (ns : Int32) (ch : Nat → Int32) (ma : Nat → Int32) (br : Nat → Int64) (tl : Int32) (ou : Nat → Int64) (mki : Nat → Int32) (msz : Nat → Int64) (mle : Nat → Int32) (mel : Nat → Int32) (mme : Nat → Int32) (mal : Nat → Int32) (mic : Nat → Int32) (mil : Nat → Int32) (mio : Nat → Int32) (mab : Nat → Int32) (mae : Nat → Int32) (msa : Nat → Int32) (mlc : Nat → Int32) (mli : Nat → Int32) (mna : Nat → Int32) (mva : Nat → Int32) (mma : Nat → Int32) (mch : Nat → Int32) (mre : Nat → Int32) (mlv : Nat → Int32) (mwr : Nat → Int64) (msh : Nat → Int32) (mth : Int32) (mnv : Int32) (mns : Int32) (mfa : Int32) (mmo : Int32) (k1 k2 k3 k4 : Int32) (sc L : Nat) (xs : Nat → Int32) (i : Int32) (hXs : va_X sc L xs s s.heap) (hbl : sc < s.heap.size) (hbA : ¬ A sc) (hi1 : vp_in (i + 1) L) (e1 : xs (i + 1 : Int32).toNatClampNeg = k1) (hi2 : vp_in (i + 2) L) (e2 : xs (i + 2 : Int32).toNatClampNeg = k2) (hi3 : vp_in (i + 3) L) (e3 : xs (i + 3 : Int32).toNatClampNeg = k3) (hi4 : vp_in (i + 4) L) (e4 : xs (i + 4 : Int32).toNatClampNeg = k4) (hK : va_K D vwCl (tyA cI cJ cZ) s) (hP : va_P D vwCl ((wX a ++ wV a cI cJ ki co pr pa tw nv sv ++ wP a cI cZ pn pl po pf pt ++ wS a cI ru le li bn ip aw ns ++ wL a ++ wJ a cI cJ ch ma br tl ++ wO a cJ ou) ++ (wM b cI cJ cZ mki msz mle mel mme mal mic mil mio mab mae msa mlc mli mna mva mma mch mre mlv mwr msh mth mnv mns mfa mmo)) H) (hD : va_D A ((wX a ++ wV a cI cJ ki co pr pa tw nv sv ++ wP a cI cZ pn pl po pf pt ++ wS a cI ru le li bn ip aw ns ++ wL a ++ wJ a cI cJ ch ma br tl ++ wO a cJ ou) ++ (wM b cI cJ cZ mki msz mle mel mme mal mic mil mio mab mae msa mlc mli mna mva mma mch mre mlv mwr msh mth mnv mns mfa mmo))) (hA : ∀ q, s.heap.size ≤ q → A q) (hS : va_S A s.heap H locs) (hX : eX A s s.heap) (hl : lv_has ls 7 [(4, .int i), (3, .ref (a 25)), (2, .ref (b 0)), (1, .ref (a 24)), (0, .ref sc)]) {post : (Nat → Int32) → (Nat → Int64) → (Nat → Int32) → (Nat → Int32) → (Nat → Int32) → Int32 → Int32 → (Nat → Int32) → (Nat → Int32) → (Nat → Int32) → (Nat → Int32) → (Nat → Int32) → (Nat → Int32) → (Nat → Int32) → (Nat → Int32) → (Nat → Int32) → (Nat → Int32) → (Nat → Int32) → Int32 → (Nat → Int32) → (Nat → Int32) → (Nat → Int64) → Int32 → (Nat → Int64) → (Nat → Int32) → (Nat → Int64) → (Nat → Int32) → (Nat → Int32) → (Nat → Int32) → (Nat → Int32) → (Nat → Int32) → (Nat → Int32) → (Nat → Int32) → (Nat → Int32) → (Nat → Int32) → (Nat → Int32) → (Nat → Int32) → (Nat → Int32) → (Nat → Int32) → (Nat → Int32) → (Nat → Int32) → (Nat → Int32) → (Nat → Int32) → (Nat → Int32) → (Nat → Int64) → (Nat → Int32) → Int32 → Int32 → Int32 → Int32 → Int32 → Prop} (vc : V_L6 ki co pr pa tw nv sv pn pl po pf pt ru le li bn ip aw ns ch ma br tl ou mki msz mle mel mme mal mic mil mio mab mae msa mlc mli mna mva mma mch mre mlv mwr msh mth mnv mns mfa mmo k1 k2 k3 k4 post)
    (hnext : ∀ (ki : Nat → Int32) (co : Nat → Int64) (pr : Nat → Int32) (pa : Nat → Int32) (tw : Nat → Int32) (nv : Int32) (sv : Int32) (pn : Nat → Int32) (pl : Nat → Int32) (po : Nat → Int32) (pf : Nat → Int32) (pt : Nat → Int32) (ru : Nat → Int32) (le : Nat → Int32) (li : Nat → Int32) (bn : Nat → Int32) (ip : Nat → Int32) (aw : Nat → Int32) (ns : Int32) (ch : Nat → Int32) (ma : Nat → Int32) (br : Nat → Int64) (tl : Int32) (ou : Nat → Int64) (mki : Nat → Int32) (msz : Nat → Int64) (mle : Nat → Int32) (mel : Nat → Int32) (mme : Nat → Int32) (mal : Nat → Int32) (mic : Nat → Int32) (mil : Nat → Int32) (mio : Nat → Int32) (mab : Nat → Int32) (mae : Nat → Int32) (msa : Nat → Int32) (mlc : Nat → Int32) (mli : Nat → Int32) (mna : Nat → Int32) (mva : Nat → Int32) (mma : Nat → Int32) (mch : Nat → Int32) (mre : Nat → Int32) (mlv : Nat → Int32) (mwr : Nat → Int64) (msh : Nat → Int32) (mth : Int32) (mnv : Int32) (mns : Int32) (mfa : Int32) (mmo : Int32) (ls : Array Slot) (H : Heap) (locs : List Loc), post ki co pr pa tw nv sv pn pl po pf pt ru le li bn ip aw ns ch ma br tl ou mki msz mle mel mme mal mic mil mio mab mae msa mlc mli mna mva mma mch mre mlv mwr msh mth mnv mns mfa mmo → lv_has ls 7 [(0, .ref sc), (1, .ref (a 24)), (2, .ref (b 0)), (3, .ref (a 25)), (4, .int i)] → va_P D vwCl ((wX a ++ wV a cI cJ ki co pr pa tw nv sv ++ wP a cI cZ pn pl po pf pt ++ wS a cI ru le li bn ip aw ns ++ wL a ++ wJ a cI cJ ch ma br tl ++ wO a cJ ou) ++ (wM b cI cJ cZ mki msz mle mel mme mal mic mil mio mab mae msa mlc mli mna mva mma mch mre mlv mwr msh mth mnv mns mfa mmo)) H → va_D A ((wX a ++ wV a cI cJ ki co pr pa tw nv sv ++ wP a cI cZ pn pl po pf pt ++ wS a cI ru le li bn ip aw ns ++ wL a ++ wJ a cI cJ ch ma br tl ++ wO a cJ ou) ++ (wM b cI cJ cZ mki msz mle mel mme mal mic mil mio mab mae msa mlc mli mna mva mma mch mre mlv mwr msh mth mnv mns mfa mmo)) → va_S A s.heap H locs → W p l e R s m args below meth c H locs (cells + 1) (slots + 6) Q (F0 m 1215 ls [])) : W p l e R s m args below meth c H locs cells slots Q (F0 m 500 ls []) := by
  have hx := S.1
  have hb := S.2.1
  have hown := S.2.2.2.1
  have hts := S.2.2.2.2
  have h01 : vp_in (0 : Int32) 1 := vp_in_nI (n := 0) (by decide) (by decide)
  unfold V_L6 at vc
  refine lv_aload_n hx hb d_La_law_500 rfl (lv_at hl 3 rfl) ?_
  refine lv_aload_n hx hb d_La_law_501 rfl (lv_at hl 4 rfl) ?_
  refine lv_iload hx hb d_La_law_502 (lv_at hl 0 rfl) ?_
  refine lv_iconst (v := 1) hx hb d_La_law_504 (by decide) ?_
  refine lv_iadd hx hb d_La_law_505 ?_
  refine va_sld hx hb hXs hbl hbA hS hi1 d_La_law_506 ?_
  rw [e1]
  refine lv_aload_n hx hb d_La_law_507 rfl (lv_at hl 4 rfl) ?_
  refine lv_iload hx hb d_La_law_508 (lv_at hl 0 rfl) ?_
  refine lv_iconst (v := 2) hx hb d_La_law_510 (by decide) ?_
  refine lv_iadd hx hb d_La_law_511 ?_
  refine va_sld hx hb hXs hbl hbA hS hi2 d_La_law_512 ?_
  rw [e2]
  refine lv_aload_n hx hb d_La_law_513 rfl (lv_at hl 4 rfl) ?_
  refine lv_iload hx hb d_La_law_514 (lv_at hl 0 rfl) ?_
  refine lv_iconst (v := 3) hx hb d_La_law_516 (by decide) ?_
  refine lv_iadd hx hb d_La_law_517 ?_
  refine va_sld hx hb hXs hbl hbA hS hi3 d_La_law_518 ?_
  rw [e3]
  refine lv_aload_n hx hb d_La_law_519 rfl (lv_at hl 1 rfl) ?_
  obtain ⟨hpre, vc⟩ := vc
  by_cases hv1 : ¬ (sHas 8 k1 && (sIn k2 0 15 && sIn k3 0 3)) = true
  · have vc := vc.1 hv1
    refine hc_1 (As := [.ref (a 24), .int k1, .int k2, .int k3, .ref (a 25)]) (rest := []) S (c_La_item_1 l hls D a cI cJ cZ ki co pr pa tw nv sv pn pl po pf pt ru le li bn ip aw ns ch ma br tl ou k1 k2 k3 hpre hv1) kw_La_item s_La_item o_La ml_La_105 hd_La_item (Nat.le_trans (by decide) hRf) (Nat.le_trans (by decide) hRl) hRc hK hP hD hS hA hX hN hl.1 rfl (Nat.le_of_ble_eq_true rfl) d_La_law_520 (fun _ H locs _ hP hD hS => ?_)
    refine lv_istore hx hb d_La_law_523 hl (by decide) (lv' := [(5, .int 1), (4, .int i), (3, .ref (a 25)), (2, .ref (b 0)), (1, .ref (a 24)), (0, .ref sc)]) rfl (fun ls hl => ?_)
    refine lv_aload_n hx hb d_La_law_525 rfl (lv_at hl 3 rfl) ?_
    refine lv_aload_n hx hb d_La_law_526 rfl (lv_at hl 5 rfl) ?_
    refine lv_iload hx hb d_La_law_527 (lv_at hl 1 rfl) ?_
    refine lv_iconst (v := 1) hx hb d_La_law_529 (by decide) ?_
    refine lv_iadd hx hb d_La_law_530 ?_
    refine va_sld hx hb hXs hbl hbA hS hi1 d_La_law_531 ?_
    rw [e1]
    refine lv_aload_n hx hb d_La_law_532 rfl (lv_at hl 5 rfl) ?_
    refine lv_iload hx hb d_La_law_533 (lv_at hl 1 rfl) ?_
    refine lv_iconst (v := 2) hx hb d_La_law_535 (by decide) ?_
    refine lv_iadd hx hb d_La_law_536 ?_
    refine va_sld hx hb hXs hbl hbA hS hi2 d_La_law_537 ?_
    rw [e2]
    refine lv_aload_n hx hb d_La_law_538 rfl (lv_at hl 5 rfl) ?_
    refine lv_iload hx hb d_La_law_539 (lv_at hl 1 rfl) ?_
    refine lv_iconst (v := 3) hx hb d_La_law_541 (by decide) ?_
    refine lv_iadd hx hb d_La_law_542 ?_
    refine va_sld hx hb hXs hbl hbA hS hi3 d_La_law_543 ?_
    rw [e3]
    obtain ⟨hpre, vc⟩ := vc
    by_cases hv1 : ¬ (sIn k1 0 7 && (sIn k2 0 15 && sIn k3 0 3)) = true
    · have vc := vc.1 hv1
      refine wc_2 (As := [.int k1, .int k2, .int k3]) (rest := []) S (c_Mo_item_1 l D b cI cJ cZ mki msz mle mel mme mal mic mil mio mab mae msa mlc mli mna mva mma mch mre mlv mwr msh mth mnv mns mfa mmo k1 k2 k3 hpre hv1) k_Mo_item i_Mo_item e_Mo_item o_Mo ml_La_108 hd_Mo_item (Nat.le_trans (by decide) hRf) (Nat.le_trans (by decide) hRl) hRc (va_recv hK hP.r (q0 := 0) (ci := 6) rfl rfl) hK hP hD hS hA hl.1 rfl (Nat.le_of_ble_eq_true rfl) d_La_law_544 (fun _ H locs _ hP hD hS => ?_)
      refine lv_istore hx hb d_La_law_547 hl (by decide) (lv' := [(6, .int 0), (5, .int 1), (4, .int i), (3, .ref (a 25)), (2, .ref (b 0)), (1, .ref (a 24)), (0, .ref sc)]) rfl (fun ls hl => ?_)
      refine lv_aload_n hx hb d_La_law_549 rfl (lv_at hl 4 rfl) ?_
      refine pc_V (As := []) (rest := []) S (c_Mo_thrown l D b cI cJ cZ mki msz mle mel mme mal mic mil mio mab mae msa mlc mli mna mva mma mch mre mlv mwr msh 1 mnv mns mfa mmo) wB_blind k_Mo_thrown i_Mo_thrown e_Mo_thrown o_Mo ml_La_84 hd_Mo_thrown (Nat.le_trans (by decide) hRf) (Nat.le_trans (by decide) hRl) hRc (va_recv hK hP.r (q0 := 0) (ci := 6) rfl rfl) (wB_at hP.r hK) hl.1 rfl (Nat.le_of_ble_eq_true rfl) d_La_law_550 ?_
      refine lv_iload hx hb d_La_law_553 (lv_at hl 1 rfl) ?_
      refine lv_icmp_eq (tgt := 560) hx hb d_La_law_555 (by decide) (fun h => ?_) (fun h => ?_)
      · skip
        refine lv_iload hx hb d_La_law_560 (lv_at hl 1 rfl) ?_
        refine lv_if_ne (tgt := 577) hx hb d_La_law_562 (by decide) (fun h => ?_) (fun h => ?_)
        · skip
          refine lv_goto (tgt := 1215) hx hb d_La_law_577 (by decide) ?_
          exact hnext ki co pr pa tw nv sv pn pl po pf pt ru le li bn ip aw ns ch ma br tl ou mki msz mle mel mme mal mic mil mio mab mae msa mlc mli mna mva mma mch mre mlv mwr msh 1 mnv mns mfa mmo ls H locs vc (lv_sub hl [6, 5, 4, 3, 2] rfl) hP hD hS
        · exact absurd h (by decide)
      · exact absurd h (by decide)
    · have vc := vc.2 hv1
      by_cases hv2 : mic k1.toNatClampNeg = 6
      · have vc := vc.1 hv2
        refine wc_2 (As := [.int k1, .int k2, .int k3]) (rest := []) S (c_Mo_item_2 l D b cI cJ cZ mki msz mle mel mme mal mic mil mio mab mae msa mlc mli mna mva mma mch mre mlv mwr msh mth mnv mns mfa mmo k1 k2 k3 hpre hv1 hv2) k_Mo_item i_Mo_item e_Mo_item o_Mo ml_La_108 hd_Mo_item (Nat.le_trans (by decide) hRf) (Nat.le_trans (by decide) hRl) hRc (va_recv hK hP.r (q0 := 0) (ci := 6) rfl rfl) hK hP hD hS hA hl.1 rfl (Nat.le_of_ble_eq_true rfl) d_La_law_544 (fun _ H locs _ hP hD hS => ?_)
        refine lv_istore hx hb d_La_law_547 hl (by decide) (lv' := [(6, .int 0), (5, .int 1), (4, .int i), (3, .ref (a 25)), (2, .ref (b 0)), (1, .ref (a 24)), (0, .ref sc)]) rfl (fun ls hl => ?_)
        refine lv_aload_n hx hb d_La_law_549 rfl (lv_at hl 4 rfl) ?_
        refine pc_V (As := []) (rest := []) S (c_Mo_thrown l D b cI cJ cZ mki msz mle mel mme mal mic mil mio mab mae msa mlc mli mna mva mma mch mre mlv mwr msh 2 mnv mns mfa mmo) wB_blind k_Mo_thrown i_Mo_thrown e_Mo_thrown o_Mo ml_La_84 hd_Mo_thrown (Nat.le_trans (by decide) hRf) (Nat.le_trans (by decide) hRl) hRc (va_recv hK hP.r (q0 := 0) (ci := 6) rfl rfl) (wB_at hP.r hK) hl.1 rfl (Nat.le_of_ble_eq_true rfl) d_La_law_550 ?_
        refine lv_iload hx hb d_La_law_553 (lv_at hl 1 rfl) ?_
        refine lv_icmp_eq (tgt := 560) hx hb d_La_law_555 (by decide) (fun h => ?_) (fun h => ?_)
        · exact absurd h (by decide)
        · skip
          refine lv_iconst (v := 0) hx hb d_La_law_558 (by decide) ?_
          exact vc.elim
      · have vc := vc.2 hv2
        refine wc_2 (As := [.int k1, .int k2, .int k3]) (rest := []) S (c_Mo_item_3 l D b cI cJ cZ mki msz mle mel mme mal mic mil mio mab mae msa mlc mli mna mva mma mch mre mlv mwr msh mth mnv mns mfa mmo k1 k2 k3 hpre hv1 hv2) k_Mo_item i_Mo_item e_Mo_item o_Mo ml_La_108 hd_Mo_item (Nat.le_trans (by decide) hRf) (Nat.le_trans (by decide) hRl) hRc (va_recv hK hP.r (q0 := 0) (ci := 6) rfl rfl) hK hP hD hS hA hl.1 rfl (Nat.le_of_ble_eq_true rfl) d_La_law_544 (fun _ H locs _ hP hD hS => ?_)
        refine lv_istore hx hb d_La_law_547 hl (by decide) (lv' := [(6, .int (mic k1.toNatClampNeg + 1)), (5, .int 1), (4, .int i), (3, .ref (a 25)), (2, .ref (b 0)), (1, .ref (a 24)), (0, .ref sc)]) rfl (fun ls hl => ?_)
        refine lv_aload_n hx hb d_La_law_549 rfl (lv_at hl 4 rfl) ?_
        refine pc_V (As := []) (rest := []) S (c_Mo_thrown l D b cI cJ cZ mki msz mle mel mme mal (upd mic k1.toNatClampNeg (mic k1.toNatClampNeg + 1)) (upd mil (6 * k1 + mic k1.toNatClampNeg : Int32).toNatClampNeg k2) (upd mio (6 * k1 + mic k1.toNatClampNeg : Int32).toNatClampNeg k3) mab mae msa mlc mli mna mva mma mch mre mlv mwr msh 0 mnv mns mfa mmo) wB_blind k_Mo_thrown i_Mo_thrown e_Mo_thrown o_Mo ml_La_84 hd_Mo_thrown (Nat.le_trans (by decide) hRf) (Nat.le_trans (by decide) hRl) hRc (va_recv hK hP.r (q0 := 0) (ci := 6) rfl rfl) (wB_at hP.r hK) hl.1 rfl (Nat.le_of_ble_eq_true rfl) d_La_law_550 ?_
        refine lv_iload hx hb d_La_law_553 (lv_at hl 1 rfl) ?_
        refine lv_icmp_eq (tgt := 560) hx hb d_La_law_555 (by decide) (fun h => ?_) (fun h => ?_)
        · exact absurd h (by decide)
        · skip
          refine lv_iconst (v := 0) hx hb d_La_law_558 (by decide) ?_
          exact vc.elim
  · have vc := vc.2 hv1
    by_cases hv2 : 6 ≤ pn k1.toNatClampNeg
    · have vc := vc.1 hv2
      refine hc_1 (As := [.ref (a 24), .int k1, .int k2, .int k3, .ref (a 25)]) (rest := []) S (c_La_item_2 l hls D a cI cJ cZ ki co pr pa tw nv sv pn pl po pf pt ru le li bn ip aw ns ch ma br tl ou k1 k2 k3 hpre hv1 hv2) kw_La_item s_La_item o_La ml_La_105 hd_La_item (Nat.le_trans (by decide) hRf) (Nat.le_trans (by decide) hRl) hRc hK hP hD hS hA hX hN hl.1 rfl (Nat.le_of_ble_eq_true rfl) d_La_law_520 (fun _ H locs _ hP hD hS => ?_)
      refine lv_istore hx hb d_La_law_523 hl (by decide) (lv' := [(5, .int 2), (4, .int i), (3, .ref (a 25)), (2, .ref (b 0)), (1, .ref (a 24)), (0, .ref sc)]) rfl (fun ls hl => ?_)
      refine lv_aload_n hx hb d_La_law_525 rfl (lv_at hl 3 rfl) ?_
      refine lv_aload_n hx hb d_La_law_526 rfl (lv_at hl 5 rfl) ?_
      refine lv_iload hx hb d_La_law_527 (lv_at hl 1 rfl) ?_
      refine lv_iconst (v := 1) hx hb d_La_law_529 (by decide) ?_
      refine lv_iadd hx hb d_La_law_530 ?_
      refine va_sld hx hb hXs hbl hbA hS hi1 d_La_law_531 ?_
      rw [e1]
      refine lv_aload_n hx hb d_La_law_532 rfl (lv_at hl 5 rfl) ?_
      refine lv_iload hx hb d_La_law_533 (lv_at hl 1 rfl) ?_
      refine lv_iconst (v := 2) hx hb d_La_law_535 (by decide) ?_
      refine lv_iadd hx hb d_La_law_536 ?_
      refine va_sld hx hb hXs hbl hbA hS hi2 d_La_law_537 ?_
      rw [e2]
      refine lv_aload_n hx hb d_La_law_538 rfl (lv_at hl 5 rfl) ?_
      refine lv_iload hx hb d_La_law_539 (lv_at hl 1 rfl) ?_
      refine lv_iconst (v := 3) hx hb d_La_law_541 (by decide) ?_
      refine lv_iadd hx hb d_La_law_542 ?_
      refine va_sld hx hb hXs hbl hbA hS hi3 d_La_law_543 ?_
      rw [e3]
      obtain ⟨hpre, vc⟩ := vc
      by_cases hv1 : ¬ (sIn k1 0 7 && (sIn k2 0 15 && sIn k3 0 3)) = true
      · have vc := vc.1 hv1
        refine wc_2 (As := [.int k1, .int k2, .int k3]) (rest := []) S (c_Mo_item_1 l D b cI cJ cZ mki msz mle mel mme mal mic mil mio mab mae msa mlc mli mna mva mma mch mre mlv mwr msh mth mnv mns mfa mmo k1 k2 k3 hpre hv1) k_Mo_item i_Mo_item e_Mo_item o_Mo ml_La_108 hd_Mo_item (Nat.le_trans (by decide) hRf) (Nat.le_trans (by decide) hRl) hRc (va_recv hK hP.r (q0 := 0) (ci := 6) rfl rfl) hK hP hD hS hA hl.1 rfl (Nat.le_of_ble_eq_true rfl) d_La_law_544 (fun _ H locs _ hP hD hS => ?_)
        refine lv_istore hx hb d_La_law_547 hl (by decide) (lv' := [(6, .int 0), (5, .int 2), (4, .int i), (3, .ref (a 25)), (2, .ref (b 0)), (1, .ref (a 24)), (0, .ref sc)]) rfl (fun ls hl => ?_)
        refine lv_aload_n hx hb d_La_law_549 rfl (lv_at hl 4 rfl) ?_
        refine pc_V (As := []) (rest := []) S (c_Mo_thrown l D b cI cJ cZ mki msz mle mel mme mal mic mil mio mab mae msa mlc mli mna mva mma mch mre mlv mwr msh 1 mnv mns mfa mmo) wB_blind k_Mo_thrown i_Mo_thrown e_Mo_thrown o_Mo ml_La_84 hd_Mo_thrown (Nat.le_trans (by decide) hRf) (Nat.le_trans (by decide) hRl) hRc (va_recv hK hP.r (q0 := 0) (ci := 6) rfl rfl) (wB_at hP.r hK) hl.1 rfl (Nat.le_of_ble_eq_true rfl) d_La_law_550 ?_
        refine lv_iload hx hb d_La_law_553 (lv_at hl 1 rfl) ?_
        refine lv_icmp_eq (tgt := 560) hx hb d_La_law_555 (by decide) (fun h => ?_) (fun h => ?_)
        · exact absurd h (by decide)
        · skip
          refine lv_iconst (v := 0) hx hb d_La_law_558 (by decide) ?_
          exact vc.elim
      · have vc := vc.2 hv1
        by_cases hv2 : mic k1.toNatClampNeg = 6
        · have vc := vc.1 hv2
          refine wc_2 (As := [.int k1, .int k2, .int k3]) (rest := []) S (c_Mo_item_2 l D b cI cJ cZ mki msz mle mel mme mal mic mil mio mab mae msa mlc mli mna mva mma mch mre mlv mwr msh mth mnv mns mfa mmo k1 k2 k3 hpre hv1 hv2) k_Mo_item i_Mo_item e_Mo_item o_Mo ml_La_108 hd_Mo_item (Nat.le_trans (by decide) hRf) (Nat.le_trans (by decide) hRl) hRc (va_recv hK hP.r (q0 := 0) (ci := 6) rfl rfl) hK hP hD hS hA hl.1 rfl (Nat.le_of_ble_eq_true rfl) d_La_law_544 (fun _ H locs _ hP hD hS => ?_)
          refine lv_istore hx hb d_La_law_547 hl (by decide) (lv' := [(6, .int 0), (5, .int 2), (4, .int i), (3, .ref (a 25)), (2, .ref (b 0)), (1, .ref (a 24)), (0, .ref sc)]) rfl (fun ls hl => ?_)
          refine lv_aload_n hx hb d_La_law_549 rfl (lv_at hl 4 rfl) ?_
          refine pc_V (As := []) (rest := []) S (c_Mo_thrown l D b cI cJ cZ mki msz mle mel mme mal mic mil mio mab mae msa mlc mli mna mva mma mch mre mlv mwr msh 2 mnv mns mfa mmo) wB_blind k_Mo_thrown i_Mo_thrown e_Mo_thrown o_Mo ml_La_84 hd_Mo_thrown (Nat.le_trans (by decide) hRf) (Nat.le_trans (by decide) hRl) hRc (va_recv hK hP.r (q0 := 0) (ci := 6) rfl rfl) (wB_at hP.r hK) hl.1 rfl (Nat.le_of_ble_eq_true rfl) d_La_law_550 ?_
          refine lv_iload hx hb d_La_law_553 (lv_at hl 1 rfl) ?_
          refine lv_icmp_eq (tgt := 560) hx hb d_La_law_555 (by decide) (fun h => ?_) (fun h => ?_)
          · skip
            refine lv_iload hx hb d_La_law_560 (lv_at hl 1 rfl) ?_
            refine lv_if_ne (tgt := 577) hx hb d_La_law_562 (by decide) (fun h => ?_) (fun h => ?_)
            · skip
              refine lv_goto (tgt := 1215) hx hb d_La_law_577 (by decide) ?_
              exact hnext ki co pr pa tw nv sv pn pl po pf pt ru le li bn ip aw ns ch ma br tl ou mki msz mle mel mme mal mic mil mio mab mae msa mlc mli mna mva mma mch mre mlv mwr msh 2 mnv mns mfa mmo ls H locs vc (lv_sub hl [6, 5, 4, 3, 2] rfl) hP hD hS
            · exact absurd h (by decide)
          · exact absurd h (by decide)
        · have vc := vc.2 hv2
          refine wc_2 (As := [.int k1, .int k2, .int k3]) (rest := []) S (c_Mo_item_3 l D b cI cJ cZ mki msz mle mel mme mal mic mil mio mab mae msa mlc mli mna mva mma mch mre mlv mwr msh mth mnv mns mfa mmo k1 k2 k3 hpre hv1 hv2) k_Mo_item i_Mo_item e_Mo_item o_Mo ml_La_108 hd_Mo_item (Nat.le_trans (by decide) hRf) (Nat.le_trans (by decide) hRl) hRc (va_recv hK hP.r (q0 := 0) (ci := 6) rfl rfl) hK hP hD hS hA hl.1 rfl (Nat.le_of_ble_eq_true rfl) d_La_law_544 (fun _ H locs _ hP hD hS => ?_)
          refine lv_istore hx hb d_La_law_547 hl (by decide) (lv' := [(6, .int (mic k1.toNatClampNeg + 1)), (5, .int 2), (4, .int i), (3, .ref (a 25)), (2, .ref (b 0)), (1, .ref (a 24)), (0, .ref sc)]) rfl (fun ls hl => ?_)
          refine lv_aload_n hx hb d_La_law_549 rfl (lv_at hl 4 rfl) ?_
          refine pc_V (As := []) (rest := []) S (c_Mo_thrown l D b cI cJ cZ mki msz mle mel mme mal (upd mic k1.toNatClampNeg (mic k1.toNatClampNeg + 1)) (upd mil (6 * k1 + mic k1.toNatClampNeg : Int32).toNatClampNeg k2) (upd mio (6 * k1 + mic k1.toNatClampNeg : Int32).toNatClampNeg k3) mab mae msa mlc mli mna mva mma mch mre mlv mwr msh 0 mnv mns mfa mmo) wB_blind k_Mo_thrown i_Mo_thrown e_Mo_thrown o_Mo ml_La_84 hd_Mo_thrown (Nat.le_trans (by decide) hRf) (Nat.le_trans (by decide) hRl) hRc (va_recv hK hP.r (q0 := 0) (ci := 6) rfl rfl) (wB_at hP.r hK) hl.1 rfl (Nat.le_of_ble_eq_true rfl) d_La_law_550 ?_
          refine lv_iload hx hb d_La_law_553 (lv_at hl 1 rfl) ?_
          refine lv_icmp_eq (tgt := 560) hx hb d_La_law_555 (by decide) (fun h => ?_) (fun h => ?_)
          · exact absurd h (by decide)
          · skip
            refine lv_iconst (v := 0) hx hb d_La_law_558 (by decide) ?_
            exact vc.elim
    · have vc := vc.2 hv2
      refine hc_1 (As := [.ref (a 24), .int k1, .int k2, .int k3, .ref (a 25)]) (rest := []) S (c_La_item_3 l hls D a cI cJ cZ ki co pr pa tw nv sv pn pl po pf pt ru le li bn ip aw ns ch ma br tl ou k1 k2 k3 hpre hv1 hv2) kw_La_item s_La_item o_La ml_La_105 hd_La_item (Nat.le_trans (by decide) hRf) (Nat.le_trans (by decide) hRl) hRc hK hP hD hS hA hX hN hl.1 rfl (Nat.le_of_ble_eq_true rfl) d_La_law_520 (fun _ H locs _ hP hD hS => ?_)
      refine lv_istore hx hb d_La_law_523 hl (by decide) (lv' := [(5, .int 0), (4, .int i), (3, .ref (a 25)), (2, .ref (b 0)), (1, .ref (a 24)), (0, .ref sc)]) rfl (fun ls hl => ?_)
      refine lv_aload_n hx hb d_La_law_525 rfl (lv_at hl 3 rfl) ?_
      refine lv_aload_n hx hb d_La_law_526 rfl (lv_at hl 5 rfl) ?_
      refine lv_iload hx hb d_La_law_527 (lv_at hl 1 rfl) ?_
      refine lv_iconst (v := 1) hx hb d_La_law_529 (by decide) ?_
      refine lv_iadd hx hb d_La_law_530 ?_
      refine va_sld hx hb hXs hbl hbA hS hi1 d_La_law_531 ?_
      rw [e1]
      refine lv_aload_n hx hb d_La_law_532 rfl (lv_at hl 5 rfl) ?_
      refine lv_iload hx hb d_La_law_533 (lv_at hl 1 rfl) ?_
      refine lv_iconst (v := 2) hx hb d_La_law_535 (by decide) ?_
      refine lv_iadd hx hb d_La_law_536 ?_
      refine va_sld hx hb hXs hbl hbA hS hi2 d_La_law_537 ?_
      rw [e2]
      refine lv_aload_n hx hb d_La_law_538 rfl (lv_at hl 5 rfl) ?_
      refine lv_iload hx hb d_La_law_539 (lv_at hl 1 rfl) ?_
      refine lv_iconst (v := 3) hx hb d_La_law_541 (by decide) ?_
      refine lv_iadd hx hb d_La_law_542 ?_
      refine va_sld hx hb hXs hbl hbA hS hi3 d_La_law_543 ?_
      rw [e3]
      obtain ⟨hpre, vc⟩ := vc
      by_cases hv1 : ¬ (sIn k1 0 7 && (sIn k2 0 15 && sIn k3 0 3)) = true
      · have vc := vc.1 hv1
        refine wc_2 (As := [.int k1, .int k2, .int k3]) (rest := []) S (c_Mo_item_1 l D b cI cJ cZ mki msz mle mel mme mal mic mil mio mab mae msa mlc mli mna mva mma mch mre mlv mwr msh mth mnv mns mfa mmo k1 k2 k3 hpre hv1) k_Mo_item i_Mo_item e_Mo_item o_Mo ml_La_108 hd_Mo_item (Nat.le_trans (by decide) hRf) (Nat.le_trans (by decide) hRl) hRc (va_recv hK hP.r (q0 := 0) (ci := 6) rfl rfl) hK hP hD hS hA hl.1 rfl (Nat.le_of_ble_eq_true rfl) d_La_law_544 (fun _ H locs _ hP hD hS => ?_)
        refine lv_istore hx hb d_La_law_547 hl (by decide) (lv' := [(6, .int 0), (5, .int 0), (4, .int i), (3, .ref (a 25)), (2, .ref (b 0)), (1, .ref (a 24)), (0, .ref sc)]) rfl (fun ls hl => ?_)
        refine lv_aload_n hx hb d_La_law_549 rfl (lv_at hl 4 rfl) ?_
        refine pc_V (As := []) (rest := []) S (c_Mo_thrown l D b cI cJ cZ mki msz mle mel mme mal mic mil mio mab mae msa mlc mli mna mva mma mch mre mlv mwr msh 1 mnv mns mfa mmo) wB_blind k_Mo_thrown i_Mo_thrown e_Mo_thrown o_Mo ml_La_84 hd_Mo_thrown (Nat.le_trans (by decide) hRf) (Nat.le_trans (by decide) hRl) hRc (va_recv hK hP.r (q0 := 0) (ci := 6) rfl rfl) (wB_at hP.r hK) hl.1 rfl (Nat.le_of_ble_eq_true rfl) d_La_law_550 ?_
        refine lv_iload hx hb d_La_law_553 (lv_at hl 1 rfl) ?_
        refine lv_icmp_eq (tgt := 560) hx hb d_La_law_555 (by decide) (fun h => ?_) (fun h => ?_)
        · exact absurd h (by decide)
        · skip
          refine lv_iconst (v := 0) hx hb d_La_law_558 (by decide) ?_
          exact vc.elim
      · have vc := vc.2 hv1
        by_cases hv2 : mic k1.toNatClampNeg = 6
        · have vc := vc.1 hv2
          refine wc_2 (As := [.int k1, .int k2, .int k3]) (rest := []) S (c_Mo_item_2 l D b cI cJ cZ mki msz mle mel mme mal mic mil mio mab mae msa mlc mli mna mva mma mch mre mlv mwr msh mth mnv mns mfa mmo k1 k2 k3 hpre hv1 hv2) k_Mo_item i_Mo_item e_Mo_item o_Mo ml_La_108 hd_Mo_item (Nat.le_trans (by decide) hRf) (Nat.le_trans (by decide) hRl) hRc (va_recv hK hP.r (q0 := 0) (ci := 6) rfl rfl) hK hP hD hS hA hl.1 rfl (Nat.le_of_ble_eq_true rfl) d_La_law_544 (fun _ H locs _ hP hD hS => ?_)
          refine lv_istore hx hb d_La_law_547 hl (by decide) (lv' := [(6, .int 0), (5, .int 0), (4, .int i), (3, .ref (a 25)), (2, .ref (b 0)), (1, .ref (a 24)), (0, .ref sc)]) rfl (fun ls hl => ?_)
          refine lv_aload_n hx hb d_La_law_549 rfl (lv_at hl 4 rfl) ?_
          refine pc_V (As := []) (rest := []) S (c_Mo_thrown l D b cI cJ cZ mki msz mle mel mme mal mic mil mio mab mae msa mlc mli mna mva mma mch mre mlv mwr msh 2 mnv mns mfa mmo) wB_blind k_Mo_thrown i_Mo_thrown e_Mo_thrown o_Mo ml_La_84 hd_Mo_thrown (Nat.le_trans (by decide) hRf) (Nat.le_trans (by decide) hRl) hRc (va_recv hK hP.r (q0 := 0) (ci := 6) rfl rfl) (wB_at hP.r hK) hl.1 rfl (Nat.le_of_ble_eq_true rfl) d_La_law_550 ?_
          refine lv_iload hx hb d_La_law_553 (lv_at hl 1 rfl) ?_
          refine lv_icmp_eq (tgt := 560) hx hb d_La_law_555 (by decide) (fun h => ?_) (fun h => ?_)
          · exact absurd h (by decide)
          · skip
            refine lv_iconst (v := 0) hx hb d_La_law_558 (by decide) ?_
            exact vc.elim
        · have vc := vc.2 hv2
          refine wc_2 (As := [.int k1, .int k2, .int k3]) (rest := []) S (c_Mo_item_3 l D b cI cJ cZ mki msz mle mel mme mal mic mil mio mab mae msa mlc mli mna mva mma mch mre mlv mwr msh mth mnv mns mfa mmo k1 k2 k3 hpre hv1 hv2) k_Mo_item i_Mo_item e_Mo_item o_Mo ml_La_108 hd_Mo_item (Nat.le_trans (by decide) hRf) (Nat.le_trans (by decide) hRl) hRc (va_recv hK hP.r (q0 := 0) (ci := 6) rfl rfl) hK hP hD hS hA hl.1 rfl (Nat.le_of_ble_eq_true rfl) d_La_law_544 (fun _ H locs _ hP hD hS => ?_)
          refine lv_istore hx hb d_La_law_547 hl (by decide) (lv' := [(6, .int (mic k1.toNatClampNeg + 1)), (5, .int 0), (4, .int i), (3, .ref (a 25)), (2, .ref (b 0)), (1, .ref (a 24)), (0, .ref sc)]) rfl (fun ls hl => ?_)
          refine lv_aload_n hx hb d_La_law_549 rfl (lv_at hl 4 rfl) ?_
          refine pc_V (As := []) (rest := []) S (c_Mo_thrown l D b cI cJ cZ mki msz mle mel mme mal (upd mic k1.toNatClampNeg (mic k1.toNatClampNeg + 1)) (upd mil (6 * k1 + mic k1.toNatClampNeg : Int32).toNatClampNeg k2) (upd mio (6 * k1 + mic k1.toNatClampNeg : Int32).toNatClampNeg k3) mab mae msa mlc mli mna mva mma mch mre mlv mwr msh 0 mnv mns mfa mmo) wB_blind k_Mo_thrown i_Mo_thrown e_Mo_thrown o_Mo ml_La_84 hd_Mo_thrown (Nat.le_trans (by decide) hRf) (Nat.le_trans (by decide) hRl) hRc (va_recv hK hP.r (q0 := 0) (ci := 6) rfl rfl) (wB_at hP.r hK) hl.1 rfl (Nat.le_of_ble_eq_true rfl) d_La_law_550 ?_
          refine lv_iload hx hb d_La_law_553 (lv_at hl 1 rfl) ?_
          refine lv_icmp_eq (tgt := 560) hx hb d_La_law_555 (by decide) (fun h => ?_) (fun h => ?_)
          · skip
            refine lv_iload hx hb d_La_law_560 (lv_at hl 1 rfl) ?_
            refine lv_if_ne (tgt := 577) hx hb d_La_law_562 (by decide) (fun h => ?_) (fun h => ?_)
            · exact absurd h (by decide)
            · skip
              refine lv_aload_n hx hb d_La_law_565 rfl (lv_at hl 3 rfl) ?_
              refine lv_iconst (v := 0) hx hb d_La_law_566 (by decide) ?_
              refine va_lald hx hb hK hP.l 25 1 rfl rfl h01 d_La_law_567 ?_
              refine lv_iload hx hb d_La_law_568 (lv_at hl 0 rfl) ?_
              refine lv_i2l hx hb d_La_law_570 rfl ?_
              refine W.lcmp hx hb d_La_law_571 ?_
              refine lv_if_eq (tgt := 577) hx hb d_La_law_572 (by decide) (fun h => ?_) (fun h => ?_)
              · have vc := vc.1 h
                refine lv_goto (tgt := 1215) hx hb d_La_law_577 (by decide) ?_
                exact hnext ki co pr pa tw nv sv (upd pn k1.toNatClampNeg (pn k1.toNatClampNeg + 1)) (upd pl (k1 * 6 + pn k1.toNatClampNeg : Int32).toNatClampNeg k2) (upd po (k1 * 6 + pn k1.toNatClampNeg : Int32).toNatClampNeg k3) pf pt ru le li bn ip aw ns ch ma br tl (vp_updL ou 0 ((pn k1.toNatClampNeg + 1 : Int32).toInt64)) mki msz mle mel mme mal (upd mic k1.toNatClampNeg (mic k1.toNatClampNeg + 1)) (upd mil (6 * k1 + mic k1.toNatClampNeg : Int32).toNatClampNeg k2) (upd mio (6 * k1 + mic k1.toNatClampNeg : Int32).toNatClampNeg k3) mab mae msa mlc mli mna mva mma mch mre mlv mwr msh 0 mnv mns mfa mmo ls H locs vc (lv_sub hl [6, 5, 4, 3, 2] rfl) hP hD hS
              · have vc := vc.2 h
                refine lv_iconst (v := 0) hx hb d_La_law_575 (by decide) ?_
                exact vc.elim
          · exact absurd h (by decide)
def V_L8 (ki : Nat → Int32) (co : Nat → Int64) (pr : Nat → Int32) (pa : Nat → Int32) (tw : Nat → Int32) (nv : Int32) (sv : Int32) (pn : Nat → Int32) (pl : Nat → Int32) (po : Nat → Int32) (pf : Nat → Int32) (pt : Nat → Int32) (ru : Nat → Int32) (le : Nat → Int32) (li : Nat → Int32) (bn : Nat → Int32) (ip : Nat → Int32) (aw : Nat → Int32) (ns : Int32) (ch : Nat → Int32) (ma : Nat → Int32) (br : Nat → Int64) (tl : Int32) (ou : Nat → Int64) (mki : Nat → Int32) (msz : Nat → Int64) (mle : Nat → Int32) (mel : Nat → Int32) (mme : Nat → Int32) (mal : Nat → Int32) (mic : Nat → Int32) (mil : Nat → Int32) (mio : Nat → Int32) (mab : Nat → Int32) (mae : Nat → Int32) (msa : Nat → Int32) (mlc : Nat → Int32) (mli : Nat → Int32) (mna : Nat → Int32) (mva : Nat → Int32) (mma : Nat → Int32) (mch : Nat → Int32) (mre : Nat → Int32) (mlv : Nat → Int32) (mwr : Nat → Int64) (msh : Nat → Int32) (mth : Int32) (mnv : Int32) (mns : Int32) (mfa : Int32) (mmo : Int32) (k1 k2 k3 k4 : Int32) (post : (Nat → Int32) → (Nat → Int64) → (Nat → Int32) → (Nat → Int32) → (Nat → Int32) → Int32 → Int32 → (Nat → Int32) → (Nat → Int32) → (Nat → Int32) → (Nat → Int32) → (Nat → Int32) → (Nat → Int32) → (Nat → Int32) → (Nat → Int32) → (Nat → Int32) → (Nat → Int32) → (Nat → Int32) → Int32 → (Nat → Int32) → (Nat → Int32) → (Nat → Int64) → Int32 → (Nat → Int64) → (Nat → Int32) → (Nat → Int64) → (Nat → Int32) → (Nat → Int32) → (Nat → Int32) → (Nat → Int32) → (Nat → Int32) → (Nat → Int32) → (Nat → Int32) → (Nat → Int32) → (Nat → Int32) → (Nat → Int32) → (Nat → Int32) → (Nat → Int32) → (Nat → Int32) → (Nat → Int32) → (Nat → Int32) → (Nat → Int32) → (Nat → Int32) → (Nat → Int32) → (Nat → Int64) → (Nat → Int32) → Int32 → Int32 → Int32 → Int32 → Int32 → Prop) : Prop :=
  ((24 ≤ ns → ((mns = 24 → post ki co pr pa tw nv sv pn pl po pf pt ru le li bn ip aw ns ch ma br tl ou mki msz mle mel mme mal mic mil mio mab mae msa mlc mli mna mva mma mch mre mlv mwr msh 1 mnv mns mfa mmo) ∧ (¬ (mns = 24) → False))) ∧ (¬ (24 ≤ ns) → ((mns = 24 → False) ∧ (¬ (mns = 24) → (((lg_cmp ((vp_updL ou 0 ((ns + 1 - 1 : Int32).toInt64)) (0 : Int32).toNatClampNeg) ((mns + 1 - 1 : Int32).toInt64)) = 0 → post ki co pr pa tw nv sv pn pl po pf pt ru le li bn ip aw (ns + 1) ch ma br tl (vp_updL ou 0 ((ns + 1 - 1 : Int32).toInt64)) mki msz mle mel mme mal mic mil mio mab mae msa mlc mli mna mva mma mch mre mlv mwr msh 0 mnv (mns + 1) mfa mmo) ∧ (¬ (lg_cmp ((vp_updL ou 0 ((ns + 1 - 1 : Int32).toInt64)) (0 : Int32).toNatClampNeg) ((mns + 1 - 1 : Int32).toInt64)) = 0 → False))))))
set_option maxHeartbeats 4000000 in
set_option maxRecDepth 100000 in
theorem g_L8 {p : Program} {l : Launch} {e : Env} {R : Room} {s : State} {m : MethodId} {args : Array Value} {below : List Frame} {meth : Method} {c : Code} {H : Heap} {locs : List Loc} {cells slots : Nat} {Q : State → Prop} {ls : Array Slot} {A : Nat → Prop} (hls : l.stackTraces = false) (S : CallFix p m c code 7 s args W0 "SchemaJudgeLaw") (hN : eN s) (hRf : 8 ≤ R.frames) (hRl : 132 ≤ R.locals) (hRc : cells + 1 ≤ R.cells ∧ slots + 6 ≤ R.slots) (D : va_G) (a b : Nat → Nat) (cI cJ cZ : ClassId) (ki : Nat → Int32) (co : Nat → Int64) (pr : Nat → Int32) (pa : Nat → Int32) (tw : Nat → Int32) (nv : Int32) (sv : Int32) (pn : Nat → Int32) (pl : Nat → Int32) (po : Nat → Int32) (pf : Nat → Int32) (pt : Nat → Int32) (ru : Nat → Int32) (le : Nat → Int32) (li : Nat → Int32) (bn : Nat → Int32) (ip : Nat → Int32) (aw : Nat → Int32) (ns : Int32) (ch : Nat → Int32) (ma : Nat → Int32) (br : Nat → Int64) (tl : Int32) (ou : Nat → Int64) (mki : Nat → Int32) (msz : Nat → Int64) (mle : Nat → Int32) (mel : Nat → Int32) (mme : Nat → Int32) (mal : Nat → Int32) (mic : Nat → Int32) (mil : Nat → Int32) (mio : Nat → Int32) (mab : Nat → Int32) (mae : Nat → Int32) (msa : Nat → Int32) (mlc : Nat → Int32) (mli : Nat → Int32) (mna : Nat → Int32) (mva : Nat → Int32) (mma : Nat → Int32) (mch : Nat → Int32) (mre : Nat → Int32) (mlv : Nat → Int32) (mwr : Nat → Int64) (msh : Nat → Int32) (mth : Int32) (mnv : Int32) (mns : Int32) (mfa : Int32) (mmo : Int32) (k1 k2 k3 k4 : Int32) (sc L : Nat) (xs : Nat → Int32) (i : Int32) (hXs : va_X sc L xs s s.heap) (hbl : sc < s.heap.size) (hbA : ¬ A sc) (hi1 : vp_in (i + 1) L) (e1 : xs (i + 1 : Int32).toNatClampNeg = k1) (hi2 : vp_in (i + 2) L) (e2 : xs (i + 2 : Int32).toNatClampNeg = k2) (hi3 : vp_in (i + 3) L) (e3 : xs (i + 3 : Int32).toNatClampNeg = k3) (hi4 : vp_in (i + 4) L) (e4 : xs (i + 4 : Int32).toNatClampNeg = k4) (hK : va_K D vwCl (tyA cI cJ cZ) s) (hP : va_P D vwCl ((wX a ++ wV a cI cJ ki co pr pa tw nv sv ++ wP a cI cZ pn pl po pf pt ++ wS a cI ru le li bn ip aw ns ++ wL a ++ wJ a cI cJ ch ma br tl ++ wO a cJ ou) ++ (wM b cI cJ cZ mki msz mle mel mme mal mic mil mio mab mae msa mlc mli mna mva mma mch mre mlv mwr msh mth mnv mns mfa mmo)) H) (hD : va_D A ((wX a ++ wV a cI cJ ki co pr pa tw nv sv ++ wP a cI cZ pn pl po pf pt ++ wS a cI ru le li bn ip aw ns ++ wL a ++ wJ a cI cJ ch ma br tl ++ wO a cJ ou) ++ (wM b cI cJ cZ mki msz mle mel mme mal mic mil mio mab mae msa mlc mli mna mva mma mch mre mlv mwr msh mth mnv mns mfa mmo))) (hA : ∀ q, s.heap.size ≤ q → A q) (hS : va_S A s.heap H locs) (hX : eX A s s.heap) (hl : lv_has ls 7 [(4, .int i), (3, .ref (a 25)), (2, .ref (b 0)), (1, .ref (a 24)), (0, .ref sc)]) {post : (Nat → Int32) → (Nat → Int64) → (Nat → Int32) → (Nat → Int32) → (Nat → Int32) → Int32 → Int32 → (Nat → Int32) → (Nat → Int32) → (Nat → Int32) → (Nat → Int32) → (Nat → Int32) → (Nat → Int32) → (Nat → Int32) → (Nat → Int32) → (Nat → Int32) → (Nat → Int32) → (Nat → Int32) → Int32 → (Nat → Int32) → (Nat → Int32) → (Nat → Int64) → Int32 → (Nat → Int64) → (Nat → Int32) → (Nat → Int64) → (Nat → Int32) → (Nat → Int32) → (Nat → Int32) → (Nat → Int32) → (Nat → Int32) → (Nat → Int32) → (Nat → Int32) → (Nat → Int32) → (Nat → Int32) → (Nat → Int32) → (Nat → Int32) → (Nat → Int32) → (Nat → Int32) → (Nat → Int32) → (Nat → Int32) → (Nat → Int32) → (Nat → Int32) → (Nat → Int32) → (Nat → Int64) → (Nat → Int32) → Int32 → Int32 → Int32 → Int32 → Int32 → Prop} (vc : V_L8 ki co pr pa tw nv sv pn pl po pf pt ru le li bn ip aw ns ch ma br tl ou mki msz mle mel mme mal mic mil mio mab mae msa mlc mli mna mva mma mch mre mlv mwr msh mth mnv mns mfa mmo k1 k2 k3 k4 post)
    (hnext : ∀ (ki : Nat → Int32) (co : Nat → Int64) (pr : Nat → Int32) (pa : Nat → Int32) (tw : Nat → Int32) (nv : Int32) (sv : Int32) (pn : Nat → Int32) (pl : Nat → Int32) (po : Nat → Int32) (pf : Nat → Int32) (pt : Nat → Int32) (ru : Nat → Int32) (le : Nat → Int32) (li : Nat → Int32) (bn : Nat → Int32) (ip : Nat → Int32) (aw : Nat → Int32) (ns : Int32) (ch : Nat → Int32) (ma : Nat → Int32) (br : Nat → Int64) (tl : Int32) (ou : Nat → Int64) (mki : Nat → Int32) (msz : Nat → Int64) (mle : Nat → Int32) (mel : Nat → Int32) (mme : Nat → Int32) (mal : Nat → Int32) (mic : Nat → Int32) (mil : Nat → Int32) (mio : Nat → Int32) (mab : Nat → Int32) (mae : Nat → Int32) (msa : Nat → Int32) (mlc : Nat → Int32) (mli : Nat → Int32) (mna : Nat → Int32) (mva : Nat → Int32) (mma : Nat → Int32) (mch : Nat → Int32) (mre : Nat → Int32) (mlv : Nat → Int32) (mwr : Nat → Int64) (msh : Nat → Int32) (mth : Int32) (mnv : Int32) (mns : Int32) (mfa : Int32) (mmo : Int32) (ls : Array Slot) (H : Heap) (locs : List Loc), post ki co pr pa tw nv sv pn pl po pf pt ru le li bn ip aw ns ch ma br tl ou mki msz mle mel mme mal mic mil mio mab mae msa mlc mli mna mva mma mch mre mlv mwr msh mth mnv mns mfa mmo → lv_has ls 7 [(0, .ref sc), (1, .ref (a 24)), (2, .ref (b 0)), (3, .ref (a 25)), (4, .int i)] → va_P D vwCl ((wX a ++ wV a cI cJ ki co pr pa tw nv sv ++ wP a cI cZ pn pl po pf pt ++ wS a cI ru le li bn ip aw ns ++ wL a ++ wJ a cI cJ ch ma br tl ++ wO a cJ ou) ++ (wM b cI cJ cZ mki msz mle mel mme mal mic mil mio mab mae msa mlc mli mna mva mma mch mre mlv mwr msh mth mnv mns mfa mmo)) H → va_D A ((wX a ++ wV a cI cJ ki co pr pa tw nv sv ++ wP a cI cZ pn pl po pf pt ++ wS a cI ru le li bn ip aw ns ++ wL a ++ wJ a cI cJ ch ma br tl ++ wO a cJ ou) ++ (wM b cI cJ cZ mki msz mle mel mme mal mic mil mio mab mae msa mlc mli mna mva mma mch mre mlv mwr msh mth mnv mns mfa mmo)) → va_S A s.heap H locs → W p l e R s m args below meth c H locs (cells + 1) (slots + 6) Q (F0 m 1215 ls [])) : W p l e R s m args below meth c H locs cells slots Q (F0 m 672 ls []) := by
  have hx := S.1
  have hb := S.2.1
  have hown := S.2.2.2.1
  have hts := S.2.2.2.2
  have h01 : vp_in (0 : Int32) 1 := vp_in_nI (n := 0) (by decide) (by decide)
  unfold V_L8 at vc
  refine lv_aload_n hx hb d_La_law_672 rfl (lv_at hl 3 rfl) ?_
  refine lv_aload_n hx hb d_La_law_673 rfl (lv_at hl 1 rfl) ?_
  by_cases hv1 : 24 ≤ ns
  · have vc := vc.1 hv1
    refine hc_1 (As := [.ref (a 24), .ref (a 25)]) (rest := []) S (c_La_schema_1 l hls D a cI cJ cZ ki co pr pa tw nv sv pn pl po pf pt ru le li bn ip aw ns ch ma br tl ou hv1) kw_La_schema s_La_schema o_La ml_La_113 hd_La_schema (Nat.le_trans (by decide) hRf) (Nat.le_trans (by decide) hRl) hRc hK hP hD hS hA hX hN hl.1 rfl (Nat.le_of_ble_eq_true rfl) d_La_law_674 (fun _ H locs _ hP hD hS => ?_)
    refine lv_istore hx hb d_La_law_677 hl (by decide) (lv' := [(5, .int 1), (4, .int i), (3, .ref (a 25)), (2, .ref (b 0)), (1, .ref (a 24)), (0, .ref sc)]) rfl (fun ls hl => ?_)
    refine lv_aload_n hx hb d_La_law_679 rfl (lv_at hl 3 rfl) ?_
    by_cases hv1 : mns = 24
    · have vc := vc.1 hv1
      refine wc_2 (As := []) (rest := []) S (c_Mo_schema_1 l D b cI cJ cZ mki msz mle mel mme mal mic mil mio mab mae msa mlc mli mna mva mma mch mre mlv mwr msh mth mnv mns mfa mmo hv1) k_Mo_schema i_Mo_schema e_Mo_schema o_Mo ml_La_116 hd_Mo_schema (Nat.le_trans (by decide) hRf) (Nat.le_trans (by decide) hRl) hRc (va_recv hK hP.r (q0 := 0) (ci := 6) rfl rfl) hK hP hD hS hA hl.1 rfl (Nat.le_of_ble_eq_true rfl) d_La_law_680 (fun _ H locs _ hP hD hS => ?_)
      refine lv_istore hx hb d_La_law_683 hl (by decide) (lv' := [(6, .int 0), (5, .int 1), (4, .int i), (3, .ref (a 25)), (2, .ref (b 0)), (1, .ref (a 24)), (0, .ref sc)]) rfl (fun ls hl => ?_)
      refine lv_aload_n hx hb d_La_law_685 rfl (lv_at hl 4 rfl) ?_
      refine pc_V (As := []) (rest := []) S (c_Mo_thrown l D b cI cJ cZ mki msz mle mel mme mal mic mil mio mab mae msa mlc mli mna mva mma mch mre mlv mwr msh 1 mnv mns mfa mmo) wB_blind k_Mo_thrown i_Mo_thrown e_Mo_thrown o_Mo ml_La_84 hd_Mo_thrown (Nat.le_trans (by decide) hRf) (Nat.le_trans (by decide) hRl) hRc (va_recv hK hP.r (q0 := 0) (ci := 6) rfl rfl) (wB_at hP.r hK) hl.1 rfl (Nat.le_of_ble_eq_true rfl) d_La_law_686 ?_
      refine lv_iload hx hb d_La_law_689 (lv_at hl 1 rfl) ?_
      refine lv_icmp_eq (tgt := 696) hx hb d_La_law_691 (by decide) (fun h => ?_) (fun h => ?_)
      · skip
        refine lv_iload hx hb d_La_law_696 (lv_at hl 1 rfl) ?_
        refine lv_if_ne (tgt := 713) hx hb d_La_law_698 (by decide) (fun h => ?_) (fun h => ?_)
        · skip
          refine lv_goto (tgt := 1215) hx hb d_La_law_713 (by decide) ?_
          exact hnext ki co pr pa tw nv sv pn pl po pf pt ru le li bn ip aw ns ch ma br tl ou mki msz mle mel mme mal mic mil mio mab mae msa mlc mli mna mva mma mch mre mlv mwr msh 1 mnv mns mfa mmo ls H locs vc (lv_sub hl [6, 5, 4, 3, 2] rfl) hP hD hS
        · exact absurd h (by decide)
      · exact absurd h (by decide)
    · have vc := vc.2 hv1
      refine wc_2 (As := []) (rest := []) S (c_Mo_schema_2 l D b cI cJ cZ mki msz mle mel mme mal mic mil mio mab mae msa mlc mli mna mva mma mch mre mlv mwr msh mth mnv mns mfa mmo hv1) k_Mo_schema i_Mo_schema e_Mo_schema o_Mo ml_La_116 hd_Mo_schema (Nat.le_trans (by decide) hRf) (Nat.le_trans (by decide) hRl) hRc (va_recv hK hP.r (q0 := 0) (ci := 6) rfl rfl) hK hP hD hS hA hl.1 rfl (Nat.le_of_ble_eq_true rfl) d_La_law_680 (fun _ H locs _ hP hD hS => ?_)
      refine lv_istore hx hb d_La_law_683 hl (by decide) (lv' := [(6, .int (mns + 1 - 1)), (5, .int 1), (4, .int i), (3, .ref (a 25)), (2, .ref (b 0)), (1, .ref (a 24)), (0, .ref sc)]) rfl (fun ls hl => ?_)
      refine lv_aload_n hx hb d_La_law_685 rfl (lv_at hl 4 rfl) ?_
      refine pc_V (As := []) (rest := []) S (c_Mo_thrown l D b cI cJ cZ mki msz mle mel mme mal mic mil mio mab mae msa mlc mli mna mva mma mch mre mlv mwr msh 0 mnv (mns + 1) mfa mmo) wB_blind k_Mo_thrown i_Mo_thrown e_Mo_thrown o_Mo ml_La_84 hd_Mo_thrown (Nat.le_trans (by decide) hRf) (Nat.le_trans (by decide) hRl) hRc (va_recv hK hP.r (q0 := 0) (ci := 6) rfl rfl) (wB_at hP.r hK) hl.1 rfl (Nat.le_of_ble_eq_true rfl) d_La_law_686 ?_
      refine lv_iload hx hb d_La_law_689 (lv_at hl 1 rfl) ?_
      refine lv_icmp_eq (tgt := 696) hx hb d_La_law_691 (by decide) (fun h => ?_) (fun h => ?_)
      · exact absurd h (by decide)
      · skip
        refine lv_iconst (v := 0) hx hb d_La_law_694 (by decide) ?_
        exact vc.elim
  · have vc := vc.2 hv1
    refine hc_1 (As := [.ref (a 24), .ref (a 25)]) (rest := []) S (c_La_schema_2 l hls D a cI cJ cZ ki co pr pa tw nv sv pn pl po pf pt ru le li bn ip aw ns ch ma br tl ou hv1) kw_La_schema s_La_schema o_La ml_La_113 hd_La_schema (Nat.le_trans (by decide) hRf) (Nat.le_trans (by decide) hRl) hRc hK hP hD hS hA hX hN hl.1 rfl (Nat.le_of_ble_eq_true rfl) d_La_law_674 (fun _ H locs _ hP hD hS => ?_)
    refine lv_istore hx hb d_La_law_677 hl (by decide) (lv' := [(5, .int 0), (4, .int i), (3, .ref (a 25)), (2, .ref (b 0)), (1, .ref (a 24)), (0, .ref sc)]) rfl (fun ls hl => ?_)
    refine lv_aload_n hx hb d_La_law_679 rfl (lv_at hl 3 rfl) ?_
    by_cases hv1 : mns = 24
    · have vc := vc.1 hv1
      refine wc_2 (As := []) (rest := []) S (c_Mo_schema_1 l D b cI cJ cZ mki msz mle mel mme mal mic mil mio mab mae msa mlc mli mna mva mma mch mre mlv mwr msh mth mnv mns mfa mmo hv1) k_Mo_schema i_Mo_schema e_Mo_schema o_Mo ml_La_116 hd_Mo_schema (Nat.le_trans (by decide) hRf) (Nat.le_trans (by decide) hRl) hRc (va_recv hK hP.r (q0 := 0) (ci := 6) rfl rfl) hK hP hD hS hA hl.1 rfl (Nat.le_of_ble_eq_true rfl) d_La_law_680 (fun _ H locs _ hP hD hS => ?_)
      refine lv_istore hx hb d_La_law_683 hl (by decide) (lv' := [(6, .int 0), (5, .int 0), (4, .int i), (3, .ref (a 25)), (2, .ref (b 0)), (1, .ref (a 24)), (0, .ref sc)]) rfl (fun ls hl => ?_)
      refine lv_aload_n hx hb d_La_law_685 rfl (lv_at hl 4 rfl) ?_
      refine pc_V (As := []) (rest := []) S (c_Mo_thrown l D b cI cJ cZ mki msz mle mel mme mal mic mil mio mab mae msa mlc mli mna mva mma mch mre mlv mwr msh 1 mnv mns mfa mmo) wB_blind k_Mo_thrown i_Mo_thrown e_Mo_thrown o_Mo ml_La_84 hd_Mo_thrown (Nat.le_trans (by decide) hRf) (Nat.le_trans (by decide) hRl) hRc (va_recv hK hP.r (q0 := 0) (ci := 6) rfl rfl) (wB_at hP.r hK) hl.1 rfl (Nat.le_of_ble_eq_true rfl) d_La_law_686 ?_
      refine lv_iload hx hb d_La_law_689 (lv_at hl 1 rfl) ?_
      refine lv_icmp_eq (tgt := 696) hx hb d_La_law_691 (by decide) (fun h => ?_) (fun h => ?_)
      · exact absurd h (by decide)
      · skip
        refine lv_iconst (v := 0) hx hb d_La_law_694 (by decide) ?_
        exact vc.elim
    · have vc := vc.2 hv1
      refine wc_2 (As := []) (rest := []) S (c_Mo_schema_2 l D b cI cJ cZ mki msz mle mel mme mal mic mil mio mab mae msa mlc mli mna mva mma mch mre mlv mwr msh mth mnv mns mfa mmo hv1) k_Mo_schema i_Mo_schema e_Mo_schema o_Mo ml_La_116 hd_Mo_schema (Nat.le_trans (by decide) hRf) (Nat.le_trans (by decide) hRl) hRc (va_recv hK hP.r (q0 := 0) (ci := 6) rfl rfl) hK hP hD hS hA hl.1 rfl (Nat.le_of_ble_eq_true rfl) d_La_law_680 (fun _ H locs _ hP hD hS => ?_)
      refine lv_istore hx hb d_La_law_683 hl (by decide) (lv' := [(6, .int (mns + 1 - 1)), (5, .int 0), (4, .int i), (3, .ref (a 25)), (2, .ref (b 0)), (1, .ref (a 24)), (0, .ref sc)]) rfl (fun ls hl => ?_)
      refine lv_aload_n hx hb d_La_law_685 rfl (lv_at hl 4 rfl) ?_
      refine pc_V (As := []) (rest := []) S (c_Mo_thrown l D b cI cJ cZ mki msz mle mel mme mal mic mil mio mab mae msa mlc mli mna mva mma mch mre mlv mwr msh 0 mnv (mns + 1) mfa mmo) wB_blind k_Mo_thrown i_Mo_thrown e_Mo_thrown o_Mo ml_La_84 hd_Mo_thrown (Nat.le_trans (by decide) hRf) (Nat.le_trans (by decide) hRl) hRc (va_recv hK hP.r (q0 := 0) (ci := 6) rfl rfl) (wB_at hP.r hK) hl.1 rfl (Nat.le_of_ble_eq_true rfl) d_La_law_686 ?_
      refine lv_iload hx hb d_La_law_689 (lv_at hl 1 rfl) ?_
      refine lv_icmp_eq (tgt := 696) hx hb d_La_law_691 (by decide) (fun h => ?_) (fun h => ?_)
      · skip
        refine lv_iload hx hb d_La_law_696 (lv_at hl 1 rfl) ?_
        refine lv_if_ne (tgt := 713) hx hb d_La_law_698 (by decide) (fun h => ?_) (fun h => ?_)
        · exact absurd h (by decide)
        · skip
          refine lv_aload_n hx hb d_La_law_701 rfl (lv_at hl 3 rfl) ?_
          refine lv_iconst (v := 0) hx hb d_La_law_702 (by decide) ?_
          refine va_lald hx hb hK hP.l 25 1 rfl rfl h01 d_La_law_703 ?_
          refine lv_iload hx hb d_La_law_704 (lv_at hl 0 rfl) ?_
          refine lv_i2l hx hb d_La_law_706 rfl ?_
          refine W.lcmp hx hb d_La_law_707 ?_
          refine lv_if_eq (tgt := 713) hx hb d_La_law_708 (by decide) (fun h => ?_) (fun h => ?_)
          · have vc := vc.1 h
            refine lv_goto (tgt := 1215) hx hb d_La_law_713 (by decide) ?_
            exact hnext ki co pr pa tw nv sv pn pl po pf pt ru le li bn ip aw (ns + 1) ch ma br tl (vp_updL ou 0 ((ns + 1 - 1 : Int32).toInt64)) mki msz mle mel mme mal mic mil mio mab mae msa mlc mli mna mva mma mch mre mlv mwr msh 0 mnv (mns + 1) mfa mmo ls H locs vc (lv_sub hl [6, 5, 4, 3, 2] rfl) hP hD hS
          · have vc := vc.2 h
            refine lv_iconst (v := 0) hx hb d_La_law_711 (by decide) ?_
            exact vc.elim
      · exact absurd h (by decide)
def V_L9 (ki : Nat → Int32) (co : Nat → Int64) (pr : Nat → Int32) (pa : Nat → Int32) (tw : Nat → Int32) (nv : Int32) (sv : Int32) (pn : Nat → Int32) (pl : Nat → Int32) (po : Nat → Int32) (pf : Nat → Int32) (pt : Nat → Int32) (ru : Nat → Int32) (le : Nat → Int32) (li : Nat → Int32) (bn : Nat → Int32) (ip : Nat → Int32) (aw : Nat → Int32) (ns : Int32) (ch : Nat → Int32) (ma : Nat → Int32) (br : Nat → Int64) (tl : Int32) (ou : Nat → Int64) (mki : Nat → Int32) (msz : Nat → Int64) (mle : Nat → Int32) (mel : Nat → Int32) (mme : Nat → Int32) (mal : Nat → Int32) (mic : Nat → Int32) (mil : Nat → Int32) (mio : Nat → Int32) (mab : Nat → Int32) (mae : Nat → Int32) (msa : Nat → Int32) (mlc : Nat → Int32) (mli : Nat → Int32) (mna : Nat → Int32) (mva : Nat → Int32) (mma : Nat → Int32) (mch : Nat → Int32) (mre : Nat → Int32) (mlv : Nat → Int32) (mwr : Nat → Int64) (msh : Nat → Int32) (mth : Int32) (mnv : Int32) (mns : Int32) (mfa : Int32) (mmo : Int32) (k1 k2 k3 k4 : Int32) (post : (Nat → Int32) → (Nat → Int64) → (Nat → Int32) → (Nat → Int32) → (Nat → Int32) → Int32 → Int32 → (Nat → Int32) → (Nat → Int32) → (Nat → Int32) → (Nat → Int32) → (Nat → Int32) → (Nat → Int32) → (Nat → Int32) → (Nat → Int32) → (Nat → Int32) → (Nat → Int32) → (Nat → Int32) → Int32 → (Nat → Int32) → (Nat → Int32) → (Nat → Int64) → Int32 → (Nat → Int64) → (Nat → Int32) → (Nat → Int64) → (Nat → Int32) → (Nat → Int32) → (Nat → Int32) → (Nat → Int32) → (Nat → Int32) → (Nat → Int32) → (Nat → Int32) → (Nat → Int32) → (Nat → Int32) → (Nat → Int32) → (Nat → Int32) → (Nat → Int32) → (Nat → Int32) → (Nat → Int32) → (Nat → Int32) → (Nat → Int32) → (Nat → Int32) → (Nat → Int32) → (Nat → Int64) → (Nat → Int32) → Int32 → Int32 → Int32 → Int32 → Int32 → Prop) : Prop :=
  ((nv ≤ 40 ∧ ns ≤ 24) ∧ ((¬ ((sHas ns k1 && (sIn k2 0 28)) = true ∧ (k3 = -1 ∨ sTakes ki co nv ns k2 k3 = true)) → ((mnv ≤ 40 ∧ mns ≤ 24) ∧ ((¬ ((sHas mns k1 && (sIn k2 0 28)) = true ∧ (k3 = -1 ∨ sTakes mki msz mnv mns k2 k3 = true)) → post ki co pr pa tw nv sv pn pl po pf pt ru le li bn ip aw ns ch ma br tl ou mki msz mle mel mme mal mic mil mio mab mae msa mlc mli mna mva mma mch mre mlv mwr msh 1 mnv mns mfa mmo) ∧ (¬ (¬ ((sHas mns k1 && (sIn k2 0 28)) = true ∧ (k3 = -1 ∨ sTakes mki msz mnv mns k2 k3 = true))) → False)))) ∧ (¬ (¬ ((sHas ns k1 && (sIn k2 0 28)) = true ∧ (k3 = -1 ∨ sTakes ki co nv ns k2 k3 = true))) → ((mnv ≤ 40 ∧ mns ≤ 24) ∧ ((¬ ((sHas mns k1 && (sIn k2 0 28)) = true ∧ (k3 = -1 ∨ sTakes mki msz mnv mns k2 k3 = true)) → False) ∧ (¬ (¬ ((sHas mns k1 && (sIn k2 0 28)) = true ∧ (k3 = -1 ∨ sTakes mki msz mnv mns k2 k3 = true))) → post ki co pr pa tw nv sv pn pl po pf pt (upd ru (k1 * 29 + k2 : Int32).toNatClampNeg k3) le li bn ip aw ns ch ma br tl ou mki msz mle mel mme mal mic mil mio mab mae (upd msa (29 * k1 + k2 : Int32).toNatClampNeg k3) mlc mli mna mva mma mch mre mlv mwr msh 0 mnv mns mfa mmo))))))
set_option maxHeartbeats 4000000 in
set_option maxRecDepth 100000 in
theorem g_L9 {p : Program} {l : Launch} {e : Env} {R : Room} {s : State} {m : MethodId} {args : Array Value} {below : List Frame} {meth : Method} {c : Code} {H : Heap} {locs : List Loc} {cells slots : Nat} {Q : State → Prop} {ls : Array Slot} {A : Nat → Prop} (hls : l.stackTraces = false) (S : CallFix p m c code 7 s args W0 "SchemaJudgeLaw") (hN : eN s) (hRf : 8 ≤ R.frames) (hRl : 137 ≤ R.locals) (hRc : cells + 1 ≤ R.cells ∧ slots + 6 ≤ R.slots) (D : va_G) (a b : Nat → Nat) (cI cJ cZ : ClassId) (ki : Nat → Int32) (co : Nat → Int64) (pr : Nat → Int32) (pa : Nat → Int32) (tw : Nat → Int32) (nv : Int32) (sv : Int32) (pn : Nat → Int32) (pl : Nat → Int32) (po : Nat → Int32) (pf : Nat → Int32) (pt : Nat → Int32) (ru : Nat → Int32) (le : Nat → Int32) (li : Nat → Int32) (bn : Nat → Int32) (ip : Nat → Int32) (aw : Nat → Int32) (ns : Int32) (ch : Nat → Int32) (ma : Nat → Int32) (br : Nat → Int64) (tl : Int32) (ou : Nat → Int64) (mki : Nat → Int32) (msz : Nat → Int64) (mle : Nat → Int32) (mel : Nat → Int32) (mme : Nat → Int32) (mal : Nat → Int32) (mic : Nat → Int32) (mil : Nat → Int32) (mio : Nat → Int32) (mab : Nat → Int32) (mae : Nat → Int32) (msa : Nat → Int32) (mlc : Nat → Int32) (mli : Nat → Int32) (mna : Nat → Int32) (mva : Nat → Int32) (mma : Nat → Int32) (mch : Nat → Int32) (mre : Nat → Int32) (mlv : Nat → Int32) (mwr : Nat → Int64) (msh : Nat → Int32) (mth : Int32) (mnv : Int32) (mns : Int32) (mfa : Int32) (mmo : Int32) (k1 k2 k3 k4 : Int32) (sc L : Nat) (xs : Nat → Int32) (i : Int32) (hXs : va_X sc L xs s s.heap) (hbl : sc < s.heap.size) (hbA : ¬ A sc) (hi1 : vp_in (i + 1) L) (e1 : xs (i + 1 : Int32).toNatClampNeg = k1) (hi2 : vp_in (i + 2) L) (e2 : xs (i + 2 : Int32).toNatClampNeg = k2) (hi3 : vp_in (i + 3) L) (e3 : xs (i + 3 : Int32).toNatClampNeg = k3) (hi4 : vp_in (i + 4) L) (e4 : xs (i + 4 : Int32).toNatClampNeg = k4) (hK : va_K D vwCl (tyA cI cJ cZ) s) (hP : va_P D vwCl ((wX a ++ wV a cI cJ ki co pr pa tw nv sv ++ wP a cI cZ pn pl po pf pt ++ wS a cI ru le li bn ip aw ns ++ wL a ++ wJ a cI cJ ch ma br tl ++ wO a cJ ou) ++ (wM b cI cJ cZ mki msz mle mel mme mal mic mil mio mab mae msa mlc mli mna mva mma mch mre mlv mwr msh mth mnv mns mfa mmo)) H) (hD : va_D A ((wX a ++ wV a cI cJ ki co pr pa tw nv sv ++ wP a cI cZ pn pl po pf pt ++ wS a cI ru le li bn ip aw ns ++ wL a ++ wJ a cI cJ ch ma br tl ++ wO a cJ ou) ++ (wM b cI cJ cZ mki msz mle mel mme mal mic mil mio mab mae msa mlc mli mna mva mma mch mre mlv mwr msh mth mnv mns mfa mmo))) (hA : ∀ q, s.heap.size ≤ q → A q) (hS : va_S A s.heap H locs) (hX : eX A s s.heap) (hl : lv_has ls 7 [(4, .int i), (3, .ref (a 25)), (2, .ref (b 0)), (1, .ref (a 24)), (0, .ref sc)]) {post : (Nat → Int32) → (Nat → Int64) → (Nat → Int32) → (Nat → Int32) → (Nat → Int32) → Int32 → Int32 → (Nat → Int32) → (Nat → Int32) → (Nat → Int32) → (Nat → Int32) → (Nat → Int32) → (Nat → Int32) → (Nat → Int32) → (Nat → Int32) → (Nat → Int32) → (Nat → Int32) → (Nat → Int32) → Int32 → (Nat → Int32) → (Nat → Int32) → (Nat → Int64) → Int32 → (Nat → Int64) → (Nat → Int32) → (Nat → Int64) → (Nat → Int32) → (Nat → Int32) → (Nat → Int32) → (Nat → Int32) → (Nat → Int32) → (Nat → Int32) → (Nat → Int32) → (Nat → Int32) → (Nat → Int32) → (Nat → Int32) → (Nat → Int32) → (Nat → Int32) → (Nat → Int32) → (Nat → Int32) → (Nat → Int32) → (Nat → Int32) → (Nat → Int32) → (Nat → Int32) → (Nat → Int64) → (Nat → Int32) → Int32 → Int32 → Int32 → Int32 → Int32 → Prop} (vc : V_L9 ki co pr pa tw nv sv pn pl po pf pt ru le li bn ip aw ns ch ma br tl ou mki msz mle mel mme mal mic mil mio mab mae msa mlc mli mna mva mma mch mre mlv mwr msh mth mnv mns mfa mmo k1 k2 k3 k4 post)
    (hnext : ∀ (ki : Nat → Int32) (co : Nat → Int64) (pr : Nat → Int32) (pa : Nat → Int32) (tw : Nat → Int32) (nv : Int32) (sv : Int32) (pn : Nat → Int32) (pl : Nat → Int32) (po : Nat → Int32) (pf : Nat → Int32) (pt : Nat → Int32) (ru : Nat → Int32) (le : Nat → Int32) (li : Nat → Int32) (bn : Nat → Int32) (ip : Nat → Int32) (aw : Nat → Int32) (ns : Int32) (ch : Nat → Int32) (ma : Nat → Int32) (br : Nat → Int64) (tl : Int32) (ou : Nat → Int64) (mki : Nat → Int32) (msz : Nat → Int64) (mle : Nat → Int32) (mel : Nat → Int32) (mme : Nat → Int32) (mal : Nat → Int32) (mic : Nat → Int32) (mil : Nat → Int32) (mio : Nat → Int32) (mab : Nat → Int32) (mae : Nat → Int32) (msa : Nat → Int32) (mlc : Nat → Int32) (mli : Nat → Int32) (mna : Nat → Int32) (mva : Nat → Int32) (mma : Nat → Int32) (mch : Nat → Int32) (mre : Nat → Int32) (mlv : Nat → Int32) (mwr : Nat → Int64) (msh : Nat → Int32) (mth : Int32) (mnv : Int32) (mns : Int32) (mfa : Int32) (mmo : Int32) (ls : Array Slot) (H : Heap) (locs : List Loc), post ki co pr pa tw nv sv pn pl po pf pt ru le li bn ip aw ns ch ma br tl ou mki msz mle mel mme mal mic mil mio mab mae msa mlc mli mna mva mma mch mre mlv mwr msh mth mnv mns mfa mmo → lv_has ls 7 [(0, .ref sc), (1, .ref (a 24)), (2, .ref (b 0)), (3, .ref (a 25)), (4, .int i)] → va_P D vwCl ((wX a ++ wV a cI cJ ki co pr pa tw nv sv ++ wP a cI cZ pn pl po pf pt ++ wS a cI ru le li bn ip aw ns ++ wL a ++ wJ a cI cJ ch ma br tl ++ wO a cJ ou) ++ (wM b cI cJ cZ mki msz mle mel mme mal mic mil mio mab mae msa mlc mli mna mva mma mch mre mlv mwr msh mth mnv mns mfa mmo)) H → va_D A ((wX a ++ wV a cI cJ ki co pr pa tw nv sv ++ wP a cI cZ pn pl po pf pt ++ wS a cI ru le li bn ip aw ns ++ wL a ++ wJ a cI cJ ch ma br tl ++ wO a cJ ou) ++ (wM b cI cJ cZ mki msz mle mel mme mal mic mil mio mab mae msa mlc mli mna mva mma mch mre mlv mwr msh mth mnv mns mfa mmo)) → va_S A s.heap H locs → W p l e R s m args below meth c H locs (cells + 1) (slots + 6) Q (F0 m 1215 ls [])) : W p l e R s m args below meth c H locs cells slots Q (F0 m 716 ls []) := by
  have hx := S.1
  have hb := S.2.1
  have hown := S.2.2.2.1
  have hts := S.2.2.2.2
  have h01 : vp_in (0 : Int32) 1 := vp_in_nI (n := 0) (by decide) (by decide)
  unfold V_L9 at vc
  refine lv_aload_n hx hb d_La_law_716 rfl (lv_at hl 3 rfl) ?_
  refine lv_aload_n hx hb d_La_law_717 rfl (lv_at hl 4 rfl) ?_
  refine lv_iload hx hb d_La_law_718 (lv_at hl 0 rfl) ?_
  refine lv_iconst (v := 1) hx hb d_La_law_720 (by decide) ?_
  refine lv_iadd hx hb d_La_law_721 ?_
  refine va_sld hx hb hXs hbl hbA hS hi1 d_La_law_722 ?_
  rw [e1]
  refine lv_aload_n hx hb d_La_law_723 rfl (lv_at hl 4 rfl) ?_
  refine lv_iload hx hb d_La_law_724 (lv_at hl 0 rfl) ?_
  refine lv_iconst (v := 2) hx hb d_La_law_726 (by decide) ?_
  refine lv_iadd hx hb d_La_law_727 ?_
  refine va_sld hx hb hXs hbl hbA hS hi2 d_La_law_728 ?_
  rw [e2]
  refine lv_aload_n hx hb d_La_law_729 rfl (lv_at hl 4 rfl) ?_
  refine lv_iload hx hb d_La_law_730 (lv_at hl 0 rfl) ?_
  refine lv_iconst (v := 3) hx hb d_La_law_732 (by decide) ?_
  refine lv_iadd hx hb d_La_law_733 ?_
  refine va_sld hx hb hXs hbl hbA hS hi3 d_La_law_734 ?_
  rw [e3]
  obtain ⟨hpre, vc⟩ := vc
  by_cases hv1 : ¬ ((sHas ns k1 && (sIn k2 0 28)) = true ∧ (k3 = -1 ∨ sTakes ki co nv ns k2 k3 = true))
  · have vc := vc.1 hv1
    refine hc_1 (As := [.ref (a 24), .int k1, .int k2, .int k3]) (rest := []) S (c_La_rule_1 l hls D a cI cJ cZ ki co pr pa tw nv sv pn pl po pf pt ru le li bn ip aw ns ch ma br tl ou k1 k2 k3 hpre hv1) kw_La_rule s_La_rule o_La ml_La_117 hd_La_rule (Nat.le_trans (by decide) hRf) (Nat.le_trans (by decide) hRl) hRc hK hP hD hS hA hX hN hl.1 rfl (Nat.le_of_ble_eq_true rfl) d_La_law_735 (fun _ H locs _ hP hD hS => ?_)
    refine lv_istore hx hb d_La_law_738 hl (by decide) (lv' := [(5, .int 1), (4, .int i), (3, .ref (a 25)), (2, .ref (b 0)), (1, .ref (a 24)), (0, .ref sc)]) rfl (fun ls hl => ?_)
    refine lv_aload_n hx hb d_La_law_740 rfl (lv_at hl 3 rfl) ?_
    refine lv_aload_n hx hb d_La_law_741 rfl (lv_at hl 5 rfl) ?_
    refine lv_iload hx hb d_La_law_742 (lv_at hl 1 rfl) ?_
    refine lv_iconst (v := 1) hx hb d_La_law_744 (by decide) ?_
    refine lv_iadd hx hb d_La_law_745 ?_
    refine va_sld hx hb hXs hbl hbA hS hi1 d_La_law_746 ?_
    rw [e1]
    refine lv_aload_n hx hb d_La_law_747 rfl (lv_at hl 5 rfl) ?_
    refine lv_iload hx hb d_La_law_748 (lv_at hl 1 rfl) ?_
    refine lv_iconst (v := 2) hx hb d_La_law_750 (by decide) ?_
    refine lv_iadd hx hb d_La_law_751 ?_
    refine va_sld hx hb hXs hbl hbA hS hi2 d_La_law_752 ?_
    rw [e2]
    refine lv_aload_n hx hb d_La_law_753 rfl (lv_at hl 5 rfl) ?_
    refine lv_iload hx hb d_La_law_754 (lv_at hl 1 rfl) ?_
    refine lv_iconst (v := 3) hx hb d_La_law_756 (by decide) ?_
    refine lv_iadd hx hb d_La_law_757 ?_
    refine va_sld hx hb hXs hbl hbA hS hi3 d_La_law_758 ?_
    rw [e3]
    obtain ⟨hpre, vc⟩ := vc
    by_cases hv1 : ¬ ((sHas mns k1 && (sIn k2 0 28)) = true ∧ (k3 = -1 ∨ sTakes mki msz mnv mns k2 k3 = true))
    · have vc := vc.1 hv1
      refine wc_2 (As := [.int k1, .int k2, .int k3]) (rest := []) S (c_Mo_rule_1 l D b cI cJ cZ mki msz mle mel mme mal mic mil mio mab mae msa mlc mli mna mva mma mch mre mlv mwr msh mth mnv mns mfa mmo k1 k2 k3 hpre hv1) k_Mo_rule i_Mo_rule e_Mo_rule o_Mo ml_La_119 hd_Mo_rule (Nat.le_trans (by decide) hRf) (Nat.le_trans (by decide) hRl) hRc (va_recv hK hP.r (q0 := 0) (ci := 6) rfl rfl) hK hP hD hS hA hl.1 rfl (Nat.le_of_ble_eq_true rfl) d_La_law_759 (fun _ H locs _ hP hD hS => ?_)
      refine lv_aload_n hx hb d_La_law_762 rfl (lv_at hl 3 rfl) ?_
      refine pc_V (As := []) (rest := []) S (c_Mo_thrown l D b cI cJ cZ mki msz mle mel mme mal mic mil mio mab mae msa mlc mli mna mva mma mch mre mlv mwr msh 1 mnv mns mfa mmo) wB_blind k_Mo_thrown i_Mo_thrown e_Mo_thrown o_Mo ml_La_84 hd_Mo_thrown (Nat.le_trans (by decide) hRf) (Nat.le_trans (by decide) hRl) hRc (va_recv hK hP.r (q0 := 0) (ci := 6) rfl rfl) (wB_at hP.r hK) hl.1 rfl (Nat.le_of_ble_eq_true rfl) d_La_law_763 ?_
      refine lv_iload hx hb d_La_law_766 (lv_at hl 0 rfl) ?_
      refine lv_icmp_eq (tgt := 773) hx hb d_La_law_768 (by decide) (fun h => ?_) (fun h => ?_)
      · skip
        refine lv_goto (tgt := 1215) hx hb d_La_law_773 (by decide) ?_
        exact hnext ki co pr pa tw nv sv pn pl po pf pt ru le li bn ip aw ns ch ma br tl ou mki msz mle mel mme mal mic mil mio mab mae msa mlc mli mna mva mma mch mre mlv mwr msh 1 mnv mns mfa mmo ls H locs vc (lv_sub hl [5, 4, 3, 2, 1] rfl) hP hD hS
      · exact absurd h (by decide)
    · have vc := vc.2 hv1
      refine wc_2 (As := [.int k1, .int k2, .int k3]) (rest := []) S (c_Mo_rule_2 l D b cI cJ cZ mki msz mle mel mme mal mic mil mio mab mae msa mlc mli mna mva mma mch mre mlv mwr msh mth mnv mns mfa mmo k1 k2 k3 hpre hv1) k_Mo_rule i_Mo_rule e_Mo_rule o_Mo ml_La_119 hd_Mo_rule (Nat.le_trans (by decide) hRf) (Nat.le_trans (by decide) hRl) hRc (va_recv hK hP.r (q0 := 0) (ci := 6) rfl rfl) hK hP hD hS hA hl.1 rfl (Nat.le_of_ble_eq_true rfl) d_La_law_759 (fun _ H locs _ hP hD hS => ?_)
      refine lv_aload_n hx hb d_La_law_762 rfl (lv_at hl 3 rfl) ?_
      refine pc_V (As := []) (rest := []) S (c_Mo_thrown l D b cI cJ cZ mki msz mle mel mme mal mic mil mio mab mae (upd msa (29 * k1 + k2 : Int32).toNatClampNeg k3) mlc mli mna mva mma mch mre mlv mwr msh 0 mnv mns mfa mmo) wB_blind k_Mo_thrown i_Mo_thrown e_Mo_thrown o_Mo ml_La_84 hd_Mo_thrown (Nat.le_trans (by decide) hRf) (Nat.le_trans (by decide) hRl) hRc (va_recv hK hP.r (q0 := 0) (ci := 6) rfl rfl) (wB_at hP.r hK) hl.1 rfl (Nat.le_of_ble_eq_true rfl) d_La_law_763 ?_
      refine lv_iload hx hb d_La_law_766 (lv_at hl 0 rfl) ?_
      refine lv_icmp_eq (tgt := 773) hx hb d_La_law_768 (by decide) (fun h => ?_) (fun h => ?_)
      · exact absurd h (by decide)
      · skip
        refine lv_iconst (v := 0) hx hb d_La_law_771 (by decide) ?_
        exact vc.elim
  · have vc := vc.2 hv1
    refine hc_1 (As := [.ref (a 24), .int k1, .int k2, .int k3]) (rest := []) S (c_La_rule_2 l hls D a cI cJ cZ ki co pr pa tw nv sv pn pl po pf pt ru le li bn ip aw ns ch ma br tl ou k1 k2 k3 hpre hv1) kw_La_rule s_La_rule o_La ml_La_117 hd_La_rule (Nat.le_trans (by decide) hRf) (Nat.le_trans (by decide) hRl) hRc hK hP hD hS hA hX hN hl.1 rfl (Nat.le_of_ble_eq_true rfl) d_La_law_735 (fun _ H locs _ hP hD hS => ?_)
    refine lv_istore hx hb d_La_law_738 hl (by decide) (lv' := [(5, .int 0), (4, .int i), (3, .ref (a 25)), (2, .ref (b 0)), (1, .ref (a 24)), (0, .ref sc)]) rfl (fun ls hl => ?_)
    refine lv_aload_n hx hb d_La_law_740 rfl (lv_at hl 3 rfl) ?_
    refine lv_aload_n hx hb d_La_law_741 rfl (lv_at hl 5 rfl) ?_
    refine lv_iload hx hb d_La_law_742 (lv_at hl 1 rfl) ?_
    refine lv_iconst (v := 1) hx hb d_La_law_744 (by decide) ?_
    refine lv_iadd hx hb d_La_law_745 ?_
    refine va_sld hx hb hXs hbl hbA hS hi1 d_La_law_746 ?_
    rw [e1]
    refine lv_aload_n hx hb d_La_law_747 rfl (lv_at hl 5 rfl) ?_
    refine lv_iload hx hb d_La_law_748 (lv_at hl 1 rfl) ?_
    refine lv_iconst (v := 2) hx hb d_La_law_750 (by decide) ?_
    refine lv_iadd hx hb d_La_law_751 ?_
    refine va_sld hx hb hXs hbl hbA hS hi2 d_La_law_752 ?_
    rw [e2]
    refine lv_aload_n hx hb d_La_law_753 rfl (lv_at hl 5 rfl) ?_
    refine lv_iload hx hb d_La_law_754 (lv_at hl 1 rfl) ?_
    refine lv_iconst (v := 3) hx hb d_La_law_756 (by decide) ?_
    refine lv_iadd hx hb d_La_law_757 ?_
    refine va_sld hx hb hXs hbl hbA hS hi3 d_La_law_758 ?_
    rw [e3]
    obtain ⟨hpre, vc⟩ := vc
    by_cases hv1 : ¬ ((sHas mns k1 && (sIn k2 0 28)) = true ∧ (k3 = -1 ∨ sTakes mki msz mnv mns k2 k3 = true))
    · have vc := vc.1 hv1
      refine wc_2 (As := [.int k1, .int k2, .int k3]) (rest := []) S (c_Mo_rule_1 l D b cI cJ cZ mki msz mle mel mme mal mic mil mio mab mae msa mlc mli mna mva mma mch mre mlv mwr msh mth mnv mns mfa mmo k1 k2 k3 hpre hv1) k_Mo_rule i_Mo_rule e_Mo_rule o_Mo ml_La_119 hd_Mo_rule (Nat.le_trans (by decide) hRf) (Nat.le_trans (by decide) hRl) hRc (va_recv hK hP.r (q0 := 0) (ci := 6) rfl rfl) hK hP hD hS hA hl.1 rfl (Nat.le_of_ble_eq_true rfl) d_La_law_759 (fun _ H locs _ hP hD hS => ?_)
      refine lv_aload_n hx hb d_La_law_762 rfl (lv_at hl 3 rfl) ?_
      refine pc_V (As := []) (rest := []) S (c_Mo_thrown l D b cI cJ cZ mki msz mle mel mme mal mic mil mio mab mae msa mlc mli mna mva mma mch mre mlv mwr msh 1 mnv mns mfa mmo) wB_blind k_Mo_thrown i_Mo_thrown e_Mo_thrown o_Mo ml_La_84 hd_Mo_thrown (Nat.le_trans (by decide) hRf) (Nat.le_trans (by decide) hRl) hRc (va_recv hK hP.r (q0 := 0) (ci := 6) rfl rfl) (wB_at hP.r hK) hl.1 rfl (Nat.le_of_ble_eq_true rfl) d_La_law_763 ?_
      refine lv_iload hx hb d_La_law_766 (lv_at hl 0 rfl) ?_
      refine lv_icmp_eq (tgt := 773) hx hb d_La_law_768 (by decide) (fun h => ?_) (fun h => ?_)
      · exact absurd h (by decide)
      · skip
        refine lv_iconst (v := 0) hx hb d_La_law_771 (by decide) ?_
        exact vc.elim
    · have vc := vc.2 hv1
      refine wc_2 (As := [.int k1, .int k2, .int k3]) (rest := []) S (c_Mo_rule_2 l D b cI cJ cZ mki msz mle mel mme mal mic mil mio mab mae msa mlc mli mna mva mma mch mre mlv mwr msh mth mnv mns mfa mmo k1 k2 k3 hpre hv1) k_Mo_rule i_Mo_rule e_Mo_rule o_Mo ml_La_119 hd_Mo_rule (Nat.le_trans (by decide) hRf) (Nat.le_trans (by decide) hRl) hRc (va_recv hK hP.r (q0 := 0) (ci := 6) rfl rfl) hK hP hD hS hA hl.1 rfl (Nat.le_of_ble_eq_true rfl) d_La_law_759 (fun _ H locs _ hP hD hS => ?_)
      refine lv_aload_n hx hb d_La_law_762 rfl (lv_at hl 3 rfl) ?_
      refine pc_V (As := []) (rest := []) S (c_Mo_thrown l D b cI cJ cZ mki msz mle mel mme mal mic mil mio mab mae (upd msa (29 * k1 + k2 : Int32).toNatClampNeg k3) mlc mli mna mva mma mch mre mlv mwr msh 0 mnv mns mfa mmo) wB_blind k_Mo_thrown i_Mo_thrown e_Mo_thrown o_Mo ml_La_84 hd_Mo_thrown (Nat.le_trans (by decide) hRf) (Nat.le_trans (by decide) hRl) hRc (va_recv hK hP.r (q0 := 0) (ci := 6) rfl rfl) (wB_at hP.r hK) hl.1 rfl (Nat.le_of_ble_eq_true rfl) d_La_law_763 ?_
      refine lv_iload hx hb d_La_law_766 (lv_at hl 0 rfl) ?_
      refine lv_icmp_eq (tgt := 773) hx hb d_La_law_768 (by decide) (fun h => ?_) (fun h => ?_)
      · skip
        refine lv_goto (tgt := 1215) hx hb d_La_law_773 (by decide) ?_
        exact hnext ki co pr pa tw nv sv pn pl po pf pt (upd ru (k1 * 29 + k2 : Int32).toNatClampNeg k3) le li bn ip aw ns ch ma br tl ou mki msz mle mel mme mal mic mil mio mab mae (upd msa (29 * k1 + k2 : Int32).toNatClampNeg k3) mlc mli mna mva mma mch mre mlv mwr msh 0 mnv mns mfa mmo ls H locs vc (lv_sub hl [5, 4, 3, 2, 1] rfl) hP hD hS
      · exact absurd h (by decide)
