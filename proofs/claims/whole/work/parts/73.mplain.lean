theorem b6_128 : ∀ q, q < 128 → bt (nI q) 6 = decide (63 < q) := by decide +kernel
theorem spk_2 {k : Nat} (h : 3 ≤ k) (h2 : k < 8) : spk k = 2 := by unfold spk; rw [if_neg (by omega), if_pos h2]
theorem spk_3 {k : Nat} (h : 8 ≤ k) (h2 : k < 11) : spk k = 3 := by unfold spk; rw [if_neg (by omega), if_neg (by omega), if_pos h2]
theorem spk_4 {k : Nat} (h : 11 ≤ k) (h2 : k < 14) : spk k = 4 := by unfold spk; rw [if_neg (by omega), if_neg (by omega), if_neg (by omega), if_pos h2]
theorem spk_5 {k : Nat} (h : 14 ≤ k) : spk k = 5 := by unfold spk; rw [if_neg (by omega), if_neg (by omega), if_neg (by omega), if_neg (by omega)]
theorem i64_inj {a b : Nat} (ha : a < 2 ^ 31) (hb : b < 2 ^ 31) (h : (nI a).toInt64 = (nI b).toInt64) : a = b := by
  rw [nI_l ha, nI_l hb, pk_lEQ (by omega) (by omega)] at h; exact h
def V_Mo_plain (mki : Nat → Int32) (msz : Nat → Int64) (mle : Nat → Int32) (mel : Nat → Int32) (mme : Nat → Int32) (mal : Nat → Int32) (mic : Nat → Int32) (mil : Nat → Int32) (mio : Nat → Int32) (mab : Nat → Int32) (mae : Nat → Int32) (msa : Nat → Int32) (mlc : Nat → Int32) (mli : Nat → Int32) (mna : Nat → Int32) (mva : Nat → Int32) (mma : Nat → Int32) (mch : Nat → Int32) (mre : Nat → Int32) (mlv : Nat → Int32) (mwr : Nat → Int64) (msh : Nat → Int32) (mth : Int32) (mnv : Int32) (mns : Int32) (mfa : Int32) (mmo : Int32) (x : Int32) (y : Int32) (w : Int32) (post : Int32 → (Nat → Int32) → (Nat → Int64) → (Nat → Int32) → (Nat → Int32) → (Nat → Int32) → (Nat → Int32) → (Nat → Int32) → (Nat → Int32) → (Nat → Int32) → (Nat → Int32) → (Nat → Int32) → (Nat → Int32) → (Nat → Int32) → (Nat → Int32) → (Nat → Int32) → (Nat → Int32) → (Nat → Int32) → (Nat → Int32) → (Nat → Int32) → (Nat → Int32) → (Nat → Int64) → (Nat → Int32) → Int32 → Int32 → Int32 → Int32 → Int32 → Prop) : Prop :=
  (vp_in x 40 ∧ ((3 ≤ y → ((8 ≤ y → ((11 ≤ y → ((14 ≤ y → (vp_in x 40 ∧ (∀ (x1 : Int32), ((∀ i, i < 32 → (bt x1 i = true ↔ i < 12 ∧ mki x.toNatClampNeg = 5 ∧ ¬ mme (12 * x.toNatClampNeg + i) < 0))) → ((¬ (mki x.toNatClampNeg) = 5 → post 1 mki msz mle mel mme mal mic mil mio mab mae msa mlc mli mna mva mma mch mre mlv mwr msh mth mnv mns mfa mmo) ∧ ((mki x.toNatClampNeg) = 5 → ((¬ y = 14 → ((¬ y = 15 → ((¬ (w &&& (x1 ^^^ (-1))) = 0 → post 0 mki msz mle mel mme mal mic mil mio mab mae msa mlc mli mna mva mma mch mre mlv mwr msh mth mnv mns mfa mmo) ∧ ((w &&& (x1 ^^^ (-1))) = 0 → post 1 mki msz mle mel mme mal mic mil mio mab mae msa mlc mli mna mva mma mch mre mlv mwr msh mth mnv mns mfa mmo))) ∧ (y = 15 → (∀ (x2 : Int32), (x2 = nI (cN (fun k => bt x1 k = true) 12)) → ((w < x2 → post 0 mki msz mle mel mme mal mic mil mio mab mae msa mlc mli mna mva mma mch mre mlv mwr msh mth mnv mns mfa mmo) ∧ (¬ w < x2 → post 1 mki msz mle mel mme mal mic mil mio mab mae msa mlc mli mna mva mma mch mre mlv mwr msh mth mnv mns mfa mmo)))))) ∧ (y = 14 → (∀ (x3 : Int32), (x3 = nI (cN (fun k => bt x1 k = true) 12)) → ((x3 < w → post 0 mki msz mle mel mme mal mic mil mio mab mae msa mlc mli mna mva mma mch mre mlv mwr msh mth mnv mns mfa mmo) ∧ (¬ x3 < w → post 1 mki msz mle mel mme mal mic mil mio mab mae msa mlc mli mna mva mma mch mre mlv mwr msh mth mnv mns mfa mmo)))))))))) ∧ (¬ 14 ≤ y → ((¬ (mki x.toNatClampNeg) = 4 → post 1 mki msz mle mel mme mal mic mil mio mab mae msa mlc mli mna mva mma mch mre mlv mwr msh mth mnv mns mfa mmo) ∧ ((mki x.toNatClampNeg) = 4 → ((¬ y = 11 → ((¬ y = 12 → ((w = 0 → post 1 mki msz mle mel mme mal mic mil mio mab mae msa mlc mli mna mva mma mch mre mlv mwr msh mth mnv mns mfa mmo) ∧ (¬ w = 0 → ((vp_in x 40 ∧ (∃ L, L ≤ 8 ∧ mle x.toNatClampNeg = nI L) ∧ ∀ j, j < 320 → vp_in (mel j) 40) ∧ (∀ (t4 : Bool), ((t4 = true ↔ ∀ i j, i < (mle x.toNatClampNeg).toNatClampNeg → j < i → mal (mel (8 * x.toNatClampNeg + i)).toNatClampNeg ≠ mal (mel (8 * x.toNatClampNeg + j)).toNatClampNeg)) → (((bI t4) = 0 → post 0 mki msz mle mel mme mal mic mil mio mab mae msa mlc mli mna mva mma mch mre mlv mwr msh mth mnv mns mfa mmo) ∧ (¬ (bI t4) = 0 → post 1 mki msz mle mel mme mal mic mil mio mab mae msa mlc mli mna mva mma mch mre mlv mwr msh mth mnv mns mfa mmo))))))) ∧ (y = 12 → (vp_in x 40 ∧ ((w < (mle x.toNatClampNeg) → post 0 mki msz mle mel mme mal mic mil mio mab mae msa mlc mli mna mva mma mch mre mlv mwr msh mth mnv mns mfa mmo) ∧ (¬ w < (mle x.toNatClampNeg) → post 1 mki msz mle mel mme mal mic mil mio mab mae msa mlc mli mna mva mma mch mre mlv mwr msh mth mnv mns mfa mmo)))))) ∧ (y = 11 → (vp_in x 40 ∧ (((mle x.toNatClampNeg) < w → post 0 mki msz mle mel mme mal mic mil mio mab mae msa mlc mli mna mva mma mch mre mlv mwr msh mth mnv mns mfa mmo) ∧ (¬ (mle x.toNatClampNeg) < w → post 1 mki msz mle mel mme mal mic mil mio mab mae msa mlc mli mna mva mma mch mre mlv mwr msh mth mnv mns mfa mmo)))))))))) ∧ (¬ 11 ≤ y → ((¬ (mki x.toNatClampNeg) = 3 → post 1 mki msz mle mel mme mal mic mil mio mab mae msa mlc mli mna mva mma mch mre mlv mwr msh mth mnv mns mfa mmo) ∧ ((mki x.toNatClampNeg) = 3 → ((¬ y = 8 → ((¬ y = 9 → (vp_in x 40 ∧ ((vp_in w 8 ∧ (∃ n : Nat, n ≤ 6 ∧ mic w.toNatClampNeg = nI n) ∧ ∃ n : Nat, n < 2 ^ 31 ∧ (msz x.toNatClampNeg : Int64).toInt32 = nI n ∧ told 8 n = true) ∧ (((bI (mFnd (fun i => mil (6 * w.toNatClampNeg + i)) (fun i => mio (6 * w.toNatClampNeg + i)) (decide (¬ mab w.toNatClampNeg = 0)) (decide (¬ mae w.toNatClampNeg = 0)) (mic w.toNatClampNeg).toNatClampNeg ((msz x.toNatClampNeg : Int64).toInt32 : Int32).toNatClampNeg (sTextLen 8 ((msz x.toNatClampNeg : Int64).toInt32 : Int32).toNatClampNeg))) = 0 → post 0 mki msz mle mel mme mal mic mil mio mab mae msa mlc mli mna mva mma mch mre mlv mwr msh mth mnv mns mfa mmo) ∧ (¬ (bI (mFnd (fun i => mil (6 * w.toNatClampNeg + i)) (fun i => mio (6 * w.toNatClampNeg + i)) (decide (¬ mab w.toNatClampNeg = 0)) (decide (¬ mae w.toNatClampNeg = 0)) (mic w.toNatClampNeg).toNatClampNeg ((msz x.toNatClampNeg : Int64).toInt32 : Int32).toNatClampNeg (sTextLen 8 ((msz x.toNatClampNeg : Int64).toInt32 : Int32).toNatClampNeg))) = 0 → post 1 mki msz mle mel mme mal mic mil mio mab mae msa mlc mli mna mva mma mch mre mlv mwr msh mth mnv mns mfa mmo))))) ∧ (y = 9 → ((vp_in x 40 ∧ ∃ t, t < 2 ^ 31 ∧ told 8 t = true ∧ msz x.toNatClampNeg = (nI t).toInt64) ∧ (∀ (x5 : Int32), ((∀ t, t < 2 ^ 31 → told 8 t = true → msz x.toNatClampNeg = (nI t).toInt64 → x5 = nI (sTextLen 8 t))) → ((w < x5 → post 0 mki msz mle mel mme mal mic mil mio mab mae msa mlc mli mna mva mma mch mre mlv mwr msh mth mnv mns mfa mmo) ∧ (¬ w < x5 → post 1 mki msz mle mel mme mal mic mil mio mab mae msa mlc mli mna mva mma mch mre mlv mwr msh mth mnv mns mfa mmo))))))) ∧ (y = 8 → ((vp_in x 40 ∧ ∃ t, t < 2 ^ 31 ∧ told 8 t = true ∧ msz x.toNatClampNeg = (nI t).toInt64) ∧ (∀ (x6 : Int32), ((∀ t, t < 2 ^ 31 → told 8 t = true → msz x.toNatClampNeg = (nI t).toInt64 → x6 = nI (sTextLen 8 t))) → ((x6 < w → post 0 mki msz mle mel mme mal mic mil mio mab mae msa mlc mli mna mva mma mch mre mlv mwr msh mth mnv mns mfa mmo) ∧ (¬ x6 < w → post 1 mki msz mle mel mme mal mic mil mio mab mae msa mlc mli mna mva mma mch mre mlv mwr msh mth mnv mns mfa mmo))))))))))) ∧ (¬ 8 ≤ y → (vp_in x 40 ∧ (vp_in w 40 ∧ ((¬ (mki x.toNatClampNeg) = 2 → post 1 mki msz mle mel mme mal mic mil mio mab mae msa mlc mli mna mva mma mch mre mlv mwr msh mth mnv mns mfa mmo) ∧ ((mki x.toNatClampNeg) = 2 → ((¬ y = 3 → ((¬ y = 4 → ((¬ y = 5 → ((¬ y = 6 → (¬ (msz w.toNatClampNeg) = 0 ∧ ((¬ (lg_cmp ((msz x.toNatClampNeg) - (msz x.toNatClampNeg) / (msz w.toNatClampNeg) * (msz w.toNatClampNeg)) 0) = 0 → post 0 mki msz mle mel mme mal mic mil mio mab mae msa mlc mli mna mva mma mch mre mlv mwr msh mth mnv mns mfa mmo) ∧ ((lg_cmp ((msz x.toNatClampNeg) - (msz x.toNatClampNeg) / (msz w.toNatClampNeg) * (msz w.toNatClampNeg)) 0) = 0 → post 1 mki msz mle mel mme mal mic mil mio mab mae msa mlc mli mna mva mma mch mre mlv mwr msh mth mnv mns mfa mmo)))) ∧ (y = 6 → ((0 ≤ (lg_cmp (msz x.toNatClampNeg) (msz w.toNatClampNeg)) → post 0 mki msz mle mel mme mal mic mil mio mab mae msa mlc mli mna mva mma mch mre mlv mwr msh mth mnv mns mfa mmo) ∧ (¬ 0 ≤ (lg_cmp (msz x.toNatClampNeg) (msz w.toNatClampNeg)) → post 1 mki msz mle mel mme mal mic mil mio mab mae msa mlc mli mna mva mma mch mre mlv mwr msh mth mnv mns mfa mmo))))) ∧ (y = 5 → (((lg_cmp (msz x.toNatClampNeg) (msz w.toNatClampNeg)) ≤ 0 → post 0 mki msz mle mel mme mal mic mil mio mab mae msa mlc mli mna mva mma mch mre mlv mwr msh mth mnv mns mfa mmo) ∧ (¬ (lg_cmp (msz x.toNatClampNeg) (msz w.toNatClampNeg)) ≤ 0 → post 1 mki msz mle mel mme mal mic mil mio mab mae msa mlc mli mna mva mma mch mre mlv mwr msh mth mnv mns mfa mmo))))) ∧ (y = 4 → ((0 < (lg_cmp (msz x.toNatClampNeg) (msz w.toNatClampNeg)) → post 0 mki msz mle mel mme mal mic mil mio mab mae msa mlc mli mna mva mma mch mre mlv mwr msh mth mnv mns mfa mmo) ∧ (¬ 0 < (lg_cmp (msz x.toNatClampNeg) (msz w.toNatClampNeg)) → post 1 mki msz mle mel mme mal mic mil mio mab mae msa mlc mli mna mva mma mch mre mlv mwr msh mth mnv mns mfa mmo))))) ∧ (y = 3 → (((lg_cmp (msz x.toNatClampNeg) (msz w.toNatClampNeg)) < 0 → post 0 mki msz mle mel mme mal mic mil mio mab mae msa mlc mli mna mva mma mch mre mlv mwr msh mth mnv mns mfa mmo) ∧ (¬ (lg_cmp (msz x.toNatClampNeg) (msz w.toNatClampNeg)) < 0 → post 1 mki msz mle mel mme mal mic mil mio mab mae msa mlc mli mna mva mma mch mre mlv mwr msh mth mnv mns mfa mmo))))))))))) ∧ (¬ 3 ≤ y → (∃ J7 : Int32 → Prop, ((¬ (mki x.toNatClampNeg) = 2 → J7 0) ∧ ((mki x.toNatClampNeg) = 2 → (vp_in x 40 ∧ (∃ J8 : Prop, ((¬ (lg_cmp ((msz x.toNatClampNeg) - (msz x.toNatClampNeg) / 1000 * 1000) 0) = 0 → J8) ∧ ((lg_cmp ((msz x.toNatClampNeg) - (msz x.toNatClampNeg) / 1000 * 1000) 0) = 0 → ((w ≤ 63 → J8) ∧ (¬ w ≤ 63 → J7 1)))) ∧ (J8 → J7 0))))) ∧ (∀ (x10 : Int32), J7 x10 → ((¬ y = 0 → ((¬ y = 1 → ((vp_in x 40 ∧ vp_in w 40 ∧ (∃ L, L ≤ 8 ∧ mle w.toNatClampNeg = nI L) ∧ ∀ j, j < 320 → vp_in (mel j) 40) ∧ (∀ (t11 : Bool), ((t11 = true ↔ ∃ i, i < (mle w.toNatClampNeg).toNatClampNeg ∧ mal (mel (8 * w.toNatClampNeg + i)).toNatClampNeg = mal x.toNatClampNeg)) → post (bI t11) mki msz mle mel mme mal mic mil mio mab mae msa mlc mli mna mva mma mch mre mlv mwr msh mth mnv mns mfa mmo))) ∧ (y = 1 → (vp_in w 40 ∧ (vp_in x 40 ∧ ((¬ (mal w.toNatClampNeg) = (mal x.toNatClampNeg) → post 0 mki msz mle mel mme mal mic mil mio mab mae msa mlc mli mna mva mma mch mre mlv mwr msh mth mnv mns mfa mmo) ∧ ((mal w.toNatClampNeg) = (mal x.toNatClampNeg) → post 1 mki msz mle mel mme mal mic mil mio mab mae msa mlc mli mna mva mma mch mre mlv mwr msh mth mnv mns mfa mmo))))))) ∧ (y = 0 → ((((w >>> ((mki x.toNatClampNeg) &&& 31)) &&& 1) = 1 → post 1 mki msz mle mel mme mal mic mil mio mab mae msa mlc mli mna mva mma mch mre mlv mwr msh mth mnv mns mfa mmo) ∧ (¬ ((w >>> ((mki x.toNatClampNeg) &&& 31)) &&& 1) = 1 → ((x10 = 0 → post 0 mki msz mle mel mme mal mic mil mio mab mae msa mlc mli mna mva mma mch mre mlv mwr msh mth mnv mns mfa mmo) ∧ (¬ x10 = 0 → post 1 mki msz mle mel mme mal mic mil mio mab mae msa mlc mli mna mva mma mch mre mlv mwr msh mth mnv mns mfa mmo)))))))))))
set_option maxHeartbeats 4000000 in
set_option maxRecDepth 100000 in
theorem g_Mo_plain {p : Program} {l : Launch} {e : Env} {R : Room} {s : State} {m : MethodId} {args : Array Value} {below : List Frame} {meth : Method} {c : Code} {H : Heap} {locs : List Loc} {cells slots : Nat} {Q : State → Prop} {ls : Array Slot} {A : Nat → Prop} (S : CallFix p m c b_Mo_plain 9 s args W0 R_Mo) (hRf : 2 ≤ R.frames) (hRl : 56 ≤ R.locals) (hRc : cells ≤ R.cells ∧ slots ≤ R.slots) (D : va_G) (b : Nat → Nat) (cI cJ cZ : ClassId) (mki : Nat → Int32) (msz : Nat → Int64) (mle : Nat → Int32) (mel : Nat → Int32) (mme : Nat → Int32) (mal : Nat → Int32) (mic : Nat → Int32) (mil : Nat → Int32) (mio : Nat → Int32) (mab : Nat → Int32) (mae : Nat → Int32) (msa : Nat → Int32) (mlc : Nat → Int32) (mli : Nat → Int32) (mna : Nat → Int32) (mva : Nat → Int32) (mma : Nat → Int32) (mch : Nat → Int32) (mre : Nat → Int32) (mlv : Nat → Int32) (mwr : Nat → Int64) (msh : Nat → Int32) (mth : Int32) (mnv : Int32) (mns : Int32) (mfa : Int32) (mmo : Int32) (x : Int32) (y : Int32) (w : Int32) (hK : va_K D vwCl (tyA cI cJ cZ) s) (hP : va_P D vwCl (wM b cI cJ cZ mki msz mle mel mme mal mic mil mio mab mae msa mlc mli mna mva mma mch mre mlv mwr msh mth mnv mns mfa mmo) H) (hD : va_D A (wM b cI cJ cZ mki msz mle mel mme mal mic mil mio mab mae msa mlc mli mna mva mma mch mre mlv mwr msh mth mnv mns mfa mmo)) (hA : ∀ q, s.heap.size ≤ q → A q) (hS : va_S A s.heap H locs) (hl : lv_has ls 9 [(0, .ref (b 0)), (1, .int x), (2, .int y), (3, .int w)]) {post : Int32 → (Nat → Int32) → (Nat → Int64) → (Nat → Int32) → (Nat → Int32) → (Nat → Int32) → (Nat → Int32) → (Nat → Int32) → (Nat → Int32) → (Nat → Int32) → (Nat → Int32) → (Nat → Int32) → (Nat → Int32) → (Nat → Int32) → (Nat → Int32) → (Nat → Int32) → (Nat → Int32) → (Nat → Int32) → (Nat → Int32) → (Nat → Int32) → (Nat → Int32) → (Nat → Int64) → (Nat → Int32) → Int32 → Int32 → Int32 → Int32 → Int32 → Prop} (vc : V_Mo_plain mki msz mle mel mme mal mic mil mio mab mae msa mlc mli mna mva mma mch mre mlv mwr msh mth mnv mns mfa mmo x y w post)
    (hret : ∀ (v : Int32) (mki : Nat → Int32) (msz : Nat → Int64) (mle : Nat → Int32) (mel : Nat → Int32) (mme : Nat → Int32) (mal : Nat → Int32) (mic : Nat → Int32) (mil : Nat → Int32) (mio : Nat → Int32) (mab : Nat → Int32) (mae : Nat → Int32) (msa : Nat → Int32) (mlc : Nat → Int32) (mli : Nat → Int32) (mna : Nat → Int32) (mva : Nat → Int32) (mma : Nat → Int32) (mch : Nat → Int32) (mre : Nat → Int32) (mlv : Nat → Int32) (mwr : Nat → Int64) (msh : Nat → Int32) (mth : Int32) (mnv : Int32) (mns : Int32) (mfa : Int32) (mmo : Int32) (ls : Array Slot) (pc : Nat) (H : Heap) (locs : List Loc), decode b_Mo_plain pc = .ok (.ireturn, 1) → post v mki msz mle mel mme mal mic mil mio mab mae msa mlc mli mna mva mma mch mre mlv mwr msh mth mnv mns mfa mmo → va_P D vwCl (wM b cI cJ cZ mki msz mle mel mme mal mic mil mio mab mae msa mlc mli mna mva mma mch mre mlv mwr msh mth mnv mns mfa mmo) H → va_D A (wM b cI cJ cZ mki msz mle mel mme mal mic mil mio mab mae msa mlc mli mna mva mma mch mre mlv mwr msh mth mnv mns mfa mmo) → va_S A s.heap H locs → W p l e R s m args below meth c H locs cells slots Q (F0 m pc ls [.int v])) : W p l e R s m args below meth c H locs cells slots Q (F0 m 0 ls []) := by
  have hx := S.1
  have hb := S.2.1
  have hown := S.2.2.2.1
  have hts := S.2.2.2.2
  unfold V_Mo_plain at vc
  refine lv_aload_n hx hb d_Mo_plain_0 rfl (lv_at hl 0 rfl) ?_
  refine va_get (D := D) (ci := 6) (v := .ref (b 1)) (C := R_Mo) (T := F_Mo) (N := 27) hx hb hts in_Mo hown hK hP 0 rfl rfl 2 (by decide) (hts _ fl_Mo_7) (fun _ h => h) rfl d_Mo_plain_1 ?_
  refine lv_iload_n hx hb d_Mo_plain_4 rfl (lv_at hl 1 rfl) ?_
  obtain ⟨vcb, vc⟩ := vc
  refine va_iald hx hb hK hP 1 0 rfl rfl vcb d_Mo_plain_5 ?_
  refine lv_istore hx hb d_Mo_plain_6 hl (by decide) (lv' := [(4, .int (mki x.toNatClampNeg)), (0, .ref (b 0)), (1, .int x), (2, .int y), (3, .int w)]) rfl (fun ls hl => ?_)
  refine lv_iload_n hx hb d_Mo_plain_8 rfl (lv_at hl 3 rfl) ?_
  refine lv_iconst (v := 3) hx hb d_Mo_plain_9 (by decide) ?_
  refine lv_icmp_ge (tgt := 109) hx hb d_Mo_plain_10 (by decide) (fun h => ?_) (fun h => ?_)
  · have vc := vc.1 h
    refine lv_iload_n hx hb d_Mo_plain_109 rfl (lv_at hl 3 rfl) ?_
    refine lv_bipush (v := 8) hx hb d_Mo_plain_110 (by decide) ?_
    refine lv_icmp_ge (tgt := 218) hx hb d_Mo_plain_112 (by decide) (fun h => ?_) (fun h => ?_)
    · have vc := vc.1 h
      refine lv_iload_n hx hb d_Mo_plain_218 rfl (lv_at hl 3 rfl) ?_
      refine lv_bipush (v := 11) hx hb d_Mo_plain_219 (by decide) ?_
      refine lv_icmp_ge (tgt := 287) hx hb d_Mo_plain_221 (by decide) (fun h => ?_) (fun h => ?_)
      · have vc := vc.1 h
        refine lv_iload_n hx hb d_Mo_plain_287 rfl (lv_at hl 3 rfl) ?_
        refine lv_bipush (v := 14) hx hb d_Mo_plain_288 (by decide) ?_
        refine lv_icmp_ge (tgt := 355) hx hb d_Mo_plain_290 (by decide) (fun h => ?_) (fun h => ?_)
        · have vc := vc.1 h
          refine lv_aload_n hx hb d_Mo_plain_355 rfl (lv_at hl 1 rfl) ?_
          refine lv_iload_n hx hb d_Mo_plain_356 rfl (lv_at hl 2 rfl) ?_
          obtain ⟨hpre, vc⟩ := vc
          refine wc_V (As := [.int x]) (rest := []) (wr := ([] : va_W)) S (c_Mo_memberBits l D b cI cJ cZ mki msz mle mel mme mal mic mil mio mab mae msa mlc mli mna mva mma mch mre mlv mwr msh mth mnv mns mfa mmo x hpre) k_Mo_memberBits i_Mo_memberBits e_Mo_memberBits o_Mo ml_Mo_187 hd_Mo_memberBits (Nat.le_trans (by decide) hRf) (Nat.le_trans (by decide) hRl) hRc (va_recv hK hP (q0 := 0) (ci := 6) rfl rfl) hK hP hD hS hA [0, 1, 2, 3, 4, 5, 6, 7, 8, 9, 10, 11, 12, 13, 14, 15, 16, 17, 18, 19, 20, 21, 22] [] rfl rfl rfl (by decide) (by decide) (by decide) hl.1 rfl (Nat.le_of_ble_eq_true rfl) d_Mo_plain_357 (fun x1 H locs hu hP hD hS => ?_)
          have vc := vc x1 hu
          clear hu
          have hP : va_P D vwCl (wM b cI cJ cZ mki msz mle mel mme mal mic mil mio mab mae msa mlc mli mna mva mma mch mre mlv mwr msh mth mnv mns mfa mmo) H := hP
          have hD : va_D A (wM b cI cJ cZ mki msz mle mel mme mal mic mil mio mab mae msa mlc mli mna mva mma mch mre mlv mwr msh mth mnv mns mfa mmo) := hD
          refine lv_istore hx hb d_Mo_plain_360 hl (by decide) (lv' := [(5, .int x1), (4, .int (mki x.toNatClampNeg)), (0, .ref (b 0)), (1, .int x), (2, .int y), (3, .int w)]) rfl (fun ls hl => ?_)
          refine lv_iload hx hb d_Mo_plain_362 (lv_at hl 1 rfl) ?_
          refine lv_iconst (v := 5) hx hb d_Mo_plain_364 (by decide) ?_
          refine lv_icmp_ne (tgt := 415) hx hb d_Mo_plain_365 (by decide) (fun h => ?_) (fun h => ?_)
          · have vc := vc.1 h
            refine lv_iconst (v := 1) hx hb d_Mo_plain_415 (by decide) ?_
            refine lv_goto (tgt := 420) hx hb d_Mo_plain_416 (by decide) ?_
            exact hret _ _ _ _ _ _ _ _ _ _ _ _ _ _ _ _ _ _ _ _ _ _ _ _ _ _ _ _ ls _ H locs d_Mo_plain_420 vc hP hD hS
          · have vc := vc.2 h
            refine lv_iload_n hx hb d_Mo_plain_368 rfl (lv_at hl 4 rfl) ?_
            refine lv_bipush (v := 14) hx hb d_Mo_plain_369 (by decide) ?_
            refine lv_icmp_ne (tgt := 387) hx hb d_Mo_plain_371 (by decide) (fun h => ?_) (fun h => ?_)
            · have vc := vc.1 h
              refine lv_iload_n hx hb d_Mo_plain_387 rfl (lv_at hl 4 rfl) ?_
              refine lv_bipush (v := 15) hx hb d_Mo_plain_388 (by decide) ?_
              refine lv_icmp_ne (tgt := 406) hx hb d_Mo_plain_390 (by decide) (fun h => ?_) (fun h => ?_)
              · have vc := vc.1 h
                refine lv_iload_n hx hb d_Mo_plain_406 rfl (lv_at hl 5 rfl) ?_
                refine lv_iload hx hb d_Mo_plain_407 (lv_at hl 0 rfl) ?_
                refine lv_iconst (v := (-1)) hx hb d_Mo_plain_409 (by decide) ?_
                refine lv_ixor hx hb d_Mo_plain_410 ?_
                refine lv_iand hx hb d_Mo_plain_411 ?_
                refine lv_if_ne (tgt := 419) hx hb d_Mo_plain_412 (by decide) (fun h => ?_) (fun h => ?_)
                · have vc := vc.1 h
                  refine lv_iconst (v := 0) hx hb d_Mo_plain_419 (by decide) ?_
                  exact hret _ _ _ _ _ _ _ _ _ _ _ _ _ _ _ _ _ _ _ _ _ _ _ _ _ _ _ _ ls _ H locs d_Mo_plain_420 vc hP hD hS
                · have vc := vc.2 h
                  refine lv_iconst (v := 1) hx hb d_Mo_plain_415 (by decide) ?_
                  refine lv_goto (tgt := 420) hx hb d_Mo_plain_416 (by decide) ?_
                  exact hret _ _ _ _ _ _ _ _ _ _ _ _ _ _ _ _ _ _ _ _ _ _ _ _ _ _ _ _ ls _ H locs d_Mo_plain_420 vc hP hD hS
              · have vc := vc.2 h
                refine lv_aload_n hx hb d_Mo_plain_393 rfl (lv_at hl 2 rfl) ?_
                refine lv_iload hx hb d_Mo_plain_394 (lv_at hl 0 rfl) ?_
                refine wc_V (As := [.int x1]) (rest := []) (wr := ([] : va_W)) S (c_Mo_countOf l D b cI cJ cZ mki msz mle mel mme mal mic mil mio mab mae msa mlc mli mna mva mma mch mre mlv mwr msh mth mnv mns mfa mmo x1) k_Mo_countOf i_Mo_countOf e_Mo_countOf o_Mo ml_Mo_190 hd_Mo_countOf (Nat.le_trans (by decide) hRf) (Nat.le_trans (by decide) hRl) hRc (va_recv hK hP (q0 := 0) (ci := 6) rfl rfl) hK hP hD hS hA [0, 1, 2, 3, 4, 5, 6, 7, 8, 9, 10, 11, 12, 13, 14, 15, 16, 17, 18, 19, 20, 21, 22] [] rfl rfl rfl (by decide) (by decide) (by decide) hl.1 rfl (Nat.le_of_ble_eq_true rfl) d_Mo_plain_396 (fun x2 H locs hu hP hD hS => ?_)
                have vc := vc x2 hu
                clear hu
                have hP : va_P D vwCl (wM b cI cJ cZ mki msz mle mel mme mal mic mil mio mab mae msa mlc mli mna mva mma mch mre mlv mwr msh mth mnv mns mfa mmo) H := hP
                have hD : va_D A (wM b cI cJ cZ mki msz mle mel mme mal mic mil mio mab mae msa mlc mli mna mva mma mch mre mlv mwr msh mth mnv mns mfa mmo) := hD
                refine lv_iload_n hx hb d_Mo_plain_399 rfl (lv_at hl 5 rfl) ?_
                refine lv_icmp_gt (tgt := 419) hx hb d_Mo_plain_400 (by decide) (fun h => ?_) (fun h => ?_)
                · have vc := vc.1 h
                  refine lv_iconst (v := 0) hx hb d_Mo_plain_419 (by decide) ?_
                  exact hret _ _ _ _ _ _ _ _ _ _ _ _ _ _ _ _ _ _ _ _ _ _ _ _ _ _ _ _ ls _ H locs d_Mo_plain_420 vc hP hD hS
                · have vc := vc.2 h
                  refine lv_goto (tgt := 415) hx hb d_Mo_plain_403 (by decide) ?_
                  refine lv_iconst (v := 1) hx hb d_Mo_plain_415 (by decide) ?_
                  refine lv_goto (tgt := 420) hx hb d_Mo_plain_416 (by decide) ?_
                  exact hret _ _ _ _ _ _ _ _ _ _ _ _ _ _ _ _ _ _ _ _ _ _ _ _ _ _ _ _ ls _ H locs d_Mo_plain_420 vc hP hD hS
            · have vc := vc.2 h
              refine lv_aload_n hx hb d_Mo_plain_374 rfl (lv_at hl 2 rfl) ?_
              refine lv_iload hx hb d_Mo_plain_375 (lv_at hl 0 rfl) ?_
              refine wc_V (As := [.int x1]) (rest := []) (wr := ([] : va_W)) S (c_Mo_countOf l D b cI cJ cZ mki msz mle mel mme mal mic mil mio mab mae msa mlc mli mna mva mma mch mre mlv mwr msh mth mnv mns mfa mmo x1) k_Mo_countOf i_Mo_countOf e_Mo_countOf o_Mo ml_Mo_190 hd_Mo_countOf (Nat.le_trans (by decide) hRf) (Nat.le_trans (by decide) hRl) hRc (va_recv hK hP (q0 := 0) (ci := 6) rfl rfl) hK hP hD hS hA [0, 1, 2, 3, 4, 5, 6, 7, 8, 9, 10, 11, 12, 13, 14, 15, 16, 17, 18, 19, 20, 21, 22] [] rfl rfl rfl (by decide) (by decide) (by decide) hl.1 rfl (Nat.le_of_ble_eq_true rfl) d_Mo_plain_377 (fun x3 H locs hu hP hD hS => ?_)
              have vc := vc x3 hu
              clear hu
              have hP : va_P D vwCl (wM b cI cJ cZ mki msz mle mel mme mal mic mil mio mab mae msa mlc mli mna mva mma mch mre mlv mwr msh mth mnv mns mfa mmo) H := hP
              have hD : va_D A (wM b cI cJ cZ mki msz mle mel mme mal mic mil mio mab mae msa mlc mli mna mva mma mch mre mlv mwr msh mth mnv mns mfa mmo) := hD
              refine lv_iload_n hx hb d_Mo_plain_380 rfl (lv_at hl 5 rfl) ?_
              refine lv_icmp_lt (tgt := 419) hx hb d_Mo_plain_381 (by decide) (fun h => ?_) (fun h => ?_)
              · have vc := vc.1 h
                refine lv_iconst (v := 0) hx hb d_Mo_plain_419 (by decide) ?_
                exact hret _ _ _ _ _ _ _ _ _ _ _ _ _ _ _ _ _ _ _ _ _ _ _ _ _ _ _ _ ls _ H locs d_Mo_plain_420 vc hP hD hS
              · have vc := vc.2 h
                refine lv_goto (tgt := 415) hx hb d_Mo_plain_384 (by decide) ?_
                refine lv_iconst (v := 1) hx hb d_Mo_plain_415 (by decide) ?_
                refine lv_goto (tgt := 420) hx hb d_Mo_plain_416 (by decide) ?_
                exact hret _ _ _ _ _ _ _ _ _ _ _ _ _ _ _ _ _ _ _ _ _ _ _ _ _ _ _ _ ls _ H locs d_Mo_plain_420 vc hP hD hS
        · have vc := vc.2 h
          refine lv_iload hx hb d_Mo_plain_293 (lv_at hl 0 rfl) ?_
          refine lv_iconst (v := 4) hx hb d_Mo_plain_295 (by decide) ?_
          refine lv_icmp_ne (tgt := 349) hx hb d_Mo_plain_296 (by decide) (fun h => ?_) (fun h => ?_)
          · have vc := vc.1 h
            refine lv_iconst (v := 1) hx hb d_Mo_plain_349 (by decide) ?_
            refine lv_goto (tgt := 354) hx hb d_Mo_plain_350 (by decide) ?_
            exact hret _ _ _ _ _ _ _ _ _ _ _ _ _ _ _ _ _ _ _ _ _ _ _ _ _ _ _ _ ls _ H locs d_Mo_plain_354 vc hP hD hS
          · have vc := vc.2 h
            refine lv_iload_n hx hb d_Mo_plain_299 rfl (lv_at hl 3 rfl) ?_
            refine lv_bipush (v := 11) hx hb d_Mo_plain_300 (by decide) ?_
            refine lv_icmp_ne (tgt := 318) hx hb d_Mo_plain_302 (by decide) (fun h => ?_) (fun h => ?_)
            · have vc := vc.1 h
              refine lv_iload_n hx hb d_Mo_plain_318 rfl (lv_at hl 3 rfl) ?_
              refine lv_bipush (v := 12) hx hb d_Mo_plain_319 (by decide) ?_
              refine lv_icmp_ne (tgt := 337) hx hb d_Mo_plain_321 (by decide) (fun h => ?_) (fun h => ?_)
              · have vc := vc.1 h
                refine lv_iload_n hx hb d_Mo_plain_337 rfl (lv_at hl 4 rfl) ?_
                refine lv_if_eq (tgt := 349) hx hb d_Mo_plain_338 (by decide) (fun h => ?_) (fun h => ?_)
                · have vc := vc.1 h
                  refine lv_iconst (v := 1) hx hb d_Mo_plain_349 (by decide) ?_
                  refine lv_goto (tgt := 354) hx hb d_Mo_plain_350 (by decide) ?_
                  exact hret _ _ _ _ _ _ _ _ _ _ _ _ _ _ _ _ _ _ _ _ _ _ _ _ _ _ _ _ ls _ H locs d_Mo_plain_354 vc hP hD hS
                · have vc := vc.2 h
                  refine lv_aload_n hx hb d_Mo_plain_341 rfl (lv_at hl 1 rfl) ?_
                  refine lv_iload_n hx hb d_Mo_plain_342 rfl (lv_at hl 2 rfl) ?_
                  obtain ⟨hpre, vc⟩ := vc
                  refine wc_V (As := [.int x]) (rest := []) (wr := ([] : va_W)) S (c_Mo_unique l D b cI cJ cZ mki msz mle mel mme mal mic mil mio mab mae msa mlc mli mna mva mma mch mre mlv mwr msh mth mnv mns mfa mmo x hpre) k_Mo_unique i_Mo_unique e_Mo_unique o_Mo ml_Mo_184 hd_Mo_unique (Nat.le_trans (by decide) hRf) (Nat.le_trans (by decide) hRl) hRc (va_recv hK hP (q0 := 0) (ci := 6) rfl rfl) hK hP hD hS hA [0, 1, 2, 3, 4, 5, 6, 7, 8, 9, 10, 11, 12, 13, 14, 15, 16, 17, 18, 19, 20, 21, 22] [] rfl rfl rfl (by decide) (by decide) (by decide) hl.1 rfl (Nat.le_of_ble_eq_true rfl) d_Mo_plain_343 (fun t4 H locs hu hP hD hS => ?_)
                  have vc := vc t4 hu
                  clear hu
                  have hP : va_P D vwCl (wM b cI cJ cZ mki msz mle mel mme mal mic mil mio mab mae msa mlc mli mna mva mma mch mre mlv mwr msh mth mnv mns mfa mmo) H := hP
                  have hD : va_D A (wM b cI cJ cZ mki msz mle mel mme mal mic mil mio mab mae msa mlc mli mna mva mma mch mre mlv mwr msh mth mnv mns mfa mmo) := hD
                  refine lv_if_eq (tgt := 353) hx hb d_Mo_plain_346 (by decide) (fun h => ?_) (fun h => ?_)
                  · have vc := vc.1 h
                    refine lv_iconst (v := 0) hx hb d_Mo_plain_353 (by decide) ?_
                    exact hret _ _ _ _ _ _ _ _ _ _ _ _ _ _ _ _ _ _ _ _ _ _ _ _ _ _ _ _ ls _ H locs d_Mo_plain_354 vc hP hD hS
                  · have vc := vc.2 h
                    refine lv_iconst (v := 1) hx hb d_Mo_plain_349 (by decide) ?_
                    refine lv_goto (tgt := 354) hx hb d_Mo_plain_350 (by decide) ?_
                    exact hret _ _ _ _ _ _ _ _ _ _ _ _ _ _ _ _ _ _ _ _ _ _ _ _ _ _ _ _ ls _ H locs d_Mo_plain_354 vc hP hD hS
              · have vc := vc.2 h
                refine lv_aload_n hx hb d_Mo_plain_324 rfl (lv_at hl 1 rfl) ?_
                refine va_get (D := D) (ci := 6) (v := .ref (b 3)) (C := R_Mo) (T := F_Mo) (N := 27) hx hb hts in_Mo hown hK hP 0 rfl rfl 4 (by decide) (hts _ fl_Mo_17) (fun _ h => h) rfl d_Mo_plain_325 ?_
                refine lv_iload_n hx hb d_Mo_plain_328 rfl (lv_at hl 2 rfl) ?_
                obtain ⟨vcb, vc⟩ := vc
                refine va_iald hx hb hK hP 3 0 rfl rfl vcb d_Mo_plain_329 ?_
                refine lv_iload_n hx hb d_Mo_plain_330 rfl (lv_at hl 4 rfl) ?_
                refine lv_icmp_gt (tgt := 353) hx hb d_Mo_plain_331 (by decide) (fun h => ?_) (fun h => ?_)
                · have vc := vc.1 h
                  refine lv_iconst (v := 0) hx hb d_Mo_plain_353 (by decide) ?_
                  exact hret _ _ _ _ _ _ _ _ _ _ _ _ _ _ _ _ _ _ _ _ _ _ _ _ _ _ _ _ ls _ H locs d_Mo_plain_354 vc hP hD hS
                · have vc := vc.2 h
                  refine lv_goto (tgt := 349) hx hb d_Mo_plain_334 (by decide) ?_
                  refine lv_iconst (v := 1) hx hb d_Mo_plain_349 (by decide) ?_
                  refine lv_goto (tgt := 354) hx hb d_Mo_plain_350 (by decide) ?_
                  exact hret _ _ _ _ _ _ _ _ _ _ _ _ _ _ _ _ _ _ _ _ _ _ _ _ _ _ _ _ ls _ H locs d_Mo_plain_354 vc hP hD hS
            · have vc := vc.2 h
              refine lv_aload_n hx hb d_Mo_plain_305 rfl (lv_at hl 1 rfl) ?_
              refine va_get (D := D) (ci := 6) (v := .ref (b 3)) (C := R_Mo) (T := F_Mo) (N := 27) hx hb hts in_Mo hown hK hP 0 rfl rfl 4 (by decide) (hts _ fl_Mo_17) (fun _ h => h) rfl d_Mo_plain_306 ?_
              refine lv_iload_n hx hb d_Mo_plain_309 rfl (lv_at hl 2 rfl) ?_
              obtain ⟨vcb, vc⟩ := vc
              refine va_iald hx hb hK hP 3 0 rfl rfl vcb d_Mo_plain_310 ?_
              refine lv_iload_n hx hb d_Mo_plain_311 rfl (lv_at hl 4 rfl) ?_
              refine lv_icmp_lt (tgt := 353) hx hb d_Mo_plain_312 (by decide) (fun h => ?_) (fun h => ?_)
              · have vc := vc.1 h
                refine lv_iconst (v := 0) hx hb d_Mo_plain_353 (by decide) ?_
                exact hret _ _ _ _ _ _ _ _ _ _ _ _ _ _ _ _ _ _ _ _ _ _ _ _ _ _ _ _ ls _ H locs d_Mo_plain_354 vc hP hD hS
              · have vc := vc.2 h
                refine lv_goto (tgt := 349) hx hb d_Mo_plain_315 (by decide) ?_
                refine lv_iconst (v := 1) hx hb d_Mo_plain_349 (by decide) ?_
                refine lv_goto (tgt := 354) hx hb d_Mo_plain_350 (by decide) ?_
                exact hret _ _ _ _ _ _ _ _ _ _ _ _ _ _ _ _ _ _ _ _ _ _ _ _ _ _ _ _ ls _ H locs d_Mo_plain_354 vc hP hD hS
      · have vc := vc.2 h
        refine lv_iload hx hb d_Mo_plain_224 (lv_at hl 0 rfl) ?_
        refine lv_iconst (v := 3) hx hb d_Mo_plain_226 (by decide) ?_
        refine lv_icmp_ne (tgt := 281) hx hb d_Mo_plain_227 (by decide) (fun h => ?_) (fun h => ?_)
        · have vc := vc.1 h
          refine lv_iconst (v := 1) hx hb d_Mo_plain_281 (by decide) ?_
          refine lv_goto (tgt := 286) hx hb d_Mo_plain_282 (by decide) ?_
          exact hret _ _ _ _ _ _ _ _ _ _ _ _ _ _ _ _ _ _ _ _ _ _ _ _ _ _ _ _ ls _ H locs d_Mo_plain_286 vc hP hD hS
        · have vc := vc.2 h
          refine lv_iload_n hx hb d_Mo_plain_230 rfl (lv_at hl 3 rfl) ?_
          refine lv_bipush (v := 8) hx hb d_Mo_plain_231 (by decide) ?_
          refine lv_icmp_ne (tgt := 248) hx hb d_Mo_plain_233 (by decide) (fun h => ?_) (fun h => ?_)
          · have vc := vc.1 h
            refine lv_iload_n hx hb d_Mo_plain_248 rfl (lv_at hl 3 rfl) ?_
            refine lv_bipush (v := 9) hx hb d_Mo_plain_249 (by decide) ?_
            refine lv_icmp_ne (tgt := 266) hx hb d_Mo_plain_251 (by decide) (fun h => ?_) (fun h => ?_)
            · have vc := vc.1 h
              refine lv_aload_n hx hb d_Mo_plain_266 rfl (lv_at hl 1 rfl) ?_
              refine lv_iload_n hx hb d_Mo_plain_267 rfl (lv_at hl 4 rfl) ?_
              refine lv_aload_n hx hb d_Mo_plain_268 rfl (lv_at hl 1 rfl) ?_
              refine va_get (D := D) (ci := 6) (v := .ref (b 2)) (C := R_Mo) (T := F_Mo) (N := 27) hx hb hts in_Mo hown hK hP 0 rfl rfl 3 (by decide) (hts _ fl_Mo_13) (fun _ h => h) rfl d_Mo_plain_269 ?_
              refine lv_iload_n hx hb d_Mo_plain_272 rfl (lv_at hl 2 rfl) ?_
              obtain ⟨vcb, vc⟩ := vc
              refine va_lald hx hb hK hP 2 1 rfl rfl vcb d_Mo_plain_273 ?_
              refine lv_l2i hx hb d_Mo_plain_274 rfl ?_
              obtain ⟨hpre, vc⟩ := vc
              refine pc_V (As := [.int w, .int ((msz x.toNatClampNeg : Int64).toInt32)]) (rest := []) S (c_Mo_matches l D b cI cJ cZ mki msz mle mel mme mal mic mil mio mab mae msa mlc mli mna mva mma mch mre mlv mwr msh mth mnv mns mfa mmo w ((msz x.toNatClampNeg : Int64).toInt32) hpre) wB_blind k_Mo_matches i_Mo_matches e_Mo_matches o_Mo ml_Mo_181 hd_Mo_matches (Nat.le_trans (by decide) hRf) (Nat.le_trans (by decide) hRl) hRc (va_recv hK hP (q0 := 0) (ci := 6) rfl rfl) (wB_at hP hK) hl.1 rfl (Nat.le_of_ble_eq_true rfl) d_Mo_plain_275 ?_
              refine lv_if_eq (tgt := 285) hx hb d_Mo_plain_278 (by decide) (fun h => ?_) (fun h => ?_)
              · have vc := vc.1 h
                refine lv_iconst (v := 0) hx hb d_Mo_plain_285 (by decide) ?_
                exact hret _ _ _ _ _ _ _ _ _ _ _ _ _ _ _ _ _ _ _ _ _ _ _ _ _ _ _ _ ls _ H locs d_Mo_plain_286 vc hP hD hS
              · have vc := vc.2 h
                refine lv_iconst (v := 1) hx hb d_Mo_plain_281 (by decide) ?_
                refine lv_goto (tgt := 286) hx hb d_Mo_plain_282 (by decide) ?_
                exact hret _ _ _ _ _ _ _ _ _ _ _ _ _ _ _ _ _ _ _ _ _ _ _ _ _ _ _ _ ls _ H locs d_Mo_plain_286 vc hP hD hS
            · have vc := vc.2 h
              refine lv_aload_n hx hb d_Mo_plain_254 rfl (lv_at hl 1 rfl) ?_
              refine lv_iload_n hx hb d_Mo_plain_255 rfl (lv_at hl 2 rfl) ?_
              obtain ⟨hpre, vc⟩ := vc
              refine wc_V (As := [.int x]) (rest := []) (wr := ([] : va_W)) S (c_Mo_textLength l D b cI cJ cZ mki msz mle mel mme mal mic mil mio mab mae msa mlc mli mna mva mma mch mre mlv mwr msh mth mnv mns mfa mmo x hpre) k_Mo_textLength i_Mo_textLength e_Mo_textLength o_Mo ml_Mo_177 hd_Mo_textLength (Nat.le_trans (by decide) hRf) (Nat.le_trans (by decide) hRl) hRc (va_recv hK hP (q0 := 0) (ci := 6) rfl rfl) hK hP hD hS hA [0, 1, 2, 3, 4, 5, 6, 7, 8, 9, 10, 11, 12, 13, 14, 15, 16, 17, 18, 19, 20, 21, 22] [] rfl rfl rfl (by decide) (by decide) (by decide) hl.1 rfl (Nat.le_of_ble_eq_true rfl) d_Mo_plain_256 (fun x5 H locs hu hP hD hS => ?_)
              have vc := vc x5 hu
              clear hu
              have hP : va_P D vwCl (wM b cI cJ cZ mki msz mle mel mme mal mic mil mio mab mae msa mlc mli mna mva mma mch mre mlv mwr msh mth mnv mns mfa mmo) H := hP
              have hD : va_D A (wM b cI cJ cZ mki msz mle mel mme mal mic mil mio mab mae msa mlc mli mna mva mma mch mre mlv mwr msh mth mnv mns mfa mmo) := hD
              refine lv_iload_n hx hb d_Mo_plain_259 rfl (lv_at hl 4 rfl) ?_
              refine lv_icmp_gt (tgt := 285) hx hb d_Mo_plain_260 (by decide) (fun h => ?_) (fun h => ?_)
              · have vc := vc.1 h
                refine lv_iconst (v := 0) hx hb d_Mo_plain_285 (by decide) ?_
                exact hret _ _ _ _ _ _ _ _ _ _ _ _ _ _ _ _ _ _ _ _ _ _ _ _ _ _ _ _ ls _ H locs d_Mo_plain_286 vc hP hD hS
              · have vc := vc.2 h
                refine lv_goto (tgt := 281) hx hb d_Mo_plain_263 (by decide) ?_
                refine lv_iconst (v := 1) hx hb d_Mo_plain_281 (by decide) ?_
                refine lv_goto (tgt := 286) hx hb d_Mo_plain_282 (by decide) ?_
                exact hret _ _ _ _ _ _ _ _ _ _ _ _ _ _ _ _ _ _ _ _ _ _ _ _ _ _ _ _ ls _ H locs d_Mo_plain_286 vc hP hD hS
          · have vc := vc.2 h
            refine lv_aload_n hx hb d_Mo_plain_236 rfl (lv_at hl 1 rfl) ?_
            refine lv_iload_n hx hb d_Mo_plain_237 rfl (lv_at hl 2 rfl) ?_
            obtain ⟨hpre, vc⟩ := vc
            refine wc_V (As := [.int x]) (rest := []) (wr := ([] : va_W)) S (c_Mo_textLength l D b cI cJ cZ mki msz mle mel mme mal mic mil mio mab mae msa mlc mli mna mva mma mch mre mlv mwr msh mth mnv mns mfa mmo x hpre) k_Mo_textLength i_Mo_textLength e_Mo_textLength o_Mo ml_Mo_177 hd_Mo_textLength (Nat.le_trans (by decide) hRf) (Nat.le_trans (by decide) hRl) hRc (va_recv hK hP (q0 := 0) (ci := 6) rfl rfl) hK hP hD hS hA [0, 1, 2, 3, 4, 5, 6, 7, 8, 9, 10, 11, 12, 13, 14, 15, 16, 17, 18, 19, 20, 21, 22] [] rfl rfl rfl (by decide) (by decide) (by decide) hl.1 rfl (Nat.le_of_ble_eq_true rfl) d_Mo_plain_238 (fun x6 H locs hu hP hD hS => ?_)
            have vc := vc x6 hu
            clear hu
            have hP : va_P D vwCl (wM b cI cJ cZ mki msz mle mel mme mal mic mil mio mab mae msa mlc mli mna mva mma mch mre mlv mwr msh mth mnv mns mfa mmo) H := hP
            have hD : va_D A (wM b cI cJ cZ mki msz mle mel mme mal mic mil mio mab mae msa mlc mli mna mva mma mch mre mlv mwr msh mth mnv mns mfa mmo) := hD
            refine lv_iload_n hx hb d_Mo_plain_241 rfl (lv_at hl 4 rfl) ?_
            refine lv_icmp_lt (tgt := 285) hx hb d_Mo_plain_242 (by decide) (fun h => ?_) (fun h => ?_)
            · have vc := vc.1 h
              refine lv_iconst (v := 0) hx hb d_Mo_plain_285 (by decide) ?_
              exact hret _ _ _ _ _ _ _ _ _ _ _ _ _ _ _ _ _ _ _ _ _ _ _ _ _ _ _ _ ls _ H locs d_Mo_plain_286 vc hP hD hS
            · have vc := vc.2 h
              refine lv_goto (tgt := 281) hx hb d_Mo_plain_245 (by decide) ?_
              refine lv_iconst (v := 1) hx hb d_Mo_plain_281 (by decide) ?_
              refine lv_goto (tgt := 286) hx hb d_Mo_plain_282 (by decide) ?_
              exact hret _ _ _ _ _ _ _ _ _ _ _ _ _ _ _ _ _ _ _ _ _ _ _ _ _ _ _ _ ls _ H locs d_Mo_plain_286 vc hP hD hS
    · have vc := vc.2 h
      refine lv_aload_n hx hb d_Mo_plain_115 rfl (lv_at hl 1 rfl) ?_
      refine va_get (D := D) (ci := 6) (v := .ref (b 2)) (C := R_Mo) (T := F_Mo) (N := 27) hx hb hts in_Mo hown hK hP 0 rfl rfl 3 (by decide) (hts _ fl_Mo_13) (fun _ h => h) rfl d_Mo_plain_116 ?_
      refine lv_iload_n hx hb d_Mo_plain_119 rfl (lv_at hl 2 rfl) ?_
      obtain ⟨vcb, vc⟩ := vc
      refine va_lald hx hb hK hP 2 1 rfl rfl vcb d_Mo_plain_120 ?_
      refine lv_lstore hx hb d_Mo_plain_121 hl (by decide) (lv' := [(5, .long (msz x.toNatClampNeg)), (4, .int (mki x.toNatClampNeg)), (0, .ref (b 0)), (1, .int x), (2, .int y), (3, .int w)]) rfl (fun ls hl => ?_)
      refine lv_aload_n hx hb d_Mo_plain_123 rfl (lv_at hl 2 rfl) ?_
      refine va_get (D := D) (ci := 6) (v := .ref (b 2)) (C := R_Mo) (T := F_Mo) (N := 27) hx hb hts in_Mo hown hK hP 0 rfl rfl 3 (by decide) (hts _ fl_Mo_13) (fun _ h => h) rfl d_Mo_plain_124 ?_
      refine lv_iload_n hx hb d_Mo_plain_127 rfl (lv_at hl 5 rfl) ?_
      obtain ⟨vcb, vc⟩ := vc
      refine va_lald hx hb hK hP 2 1 rfl rfl vcb d_Mo_plain_128 ?_
      refine lv_lstore hx hb d_Mo_plain_129 hl (by decide) (lv' := [(7, .long (msz w.toNatClampNeg)), (5, .long (msz x.toNatClampNeg)), (4, .int (mki x.toNatClampNeg)), (0, .ref (b 0)), (1, .int x), (2, .int y), (3, .int w)]) rfl (fun ls hl => ?_)
      refine lv_iload hx hb d_Mo_plain_131 (lv_at hl 2 rfl) ?_
      refine lv_iconst (v := 2) hx hb d_Mo_plain_133 (by decide) ?_
      refine lv_icmp_ne (tgt := 212) hx hb d_Mo_plain_134 (by decide) (fun h => ?_) (fun h => ?_)
      · have vc := vc.1 h
        refine lv_iconst (v := 1) hx hb d_Mo_plain_212 (by decide) ?_
        refine lv_goto (tgt := 217) hx hb d_Mo_plain_213 (by decide) ?_
        exact hret _ _ _ _ _ _ _ _ _ _ _ _ _ _ _ _ _ _ _ _ _ _ _ _ _ _ _ _ ls _ H locs d_Mo_plain_217 vc hP hD hS
      · have vc := vc.2 h
        refine lv_iload_n hx hb d_Mo_plain_137 rfl (lv_at hl 5 rfl) ?_
        refine lv_iconst (v := 3) hx hb d_Mo_plain_138 (by decide) ?_
        refine lv_icmp_ne (tgt := 153) hx hb d_Mo_plain_139 (by decide) (fun h => ?_) (fun h => ?_)
        · have vc := vc.1 h
          refine lv_iload_n hx hb d_Mo_plain_153 rfl (lv_at hl 5 rfl) ?_
          refine lv_iconst (v := 4) hx hb d_Mo_plain_154 (by decide) ?_
          refine lv_icmp_ne (tgt := 169) hx hb d_Mo_plain_155 (by decide) (fun h => ?_) (fun h => ?_)
          · have vc := vc.1 h
            refine lv_iload_n hx hb d_Mo_plain_169 rfl (lv_at hl 5 rfl) ?_
            refine lv_iconst (v := 5) hx hb d_Mo_plain_170 (by decide) ?_
            refine lv_icmp_ne (tgt := 185) hx hb d_Mo_plain_171 (by decide) (fun h => ?_) (fun h => ?_)
            · have vc := vc.1 h
              refine lv_iload_n hx hb d_Mo_plain_185 rfl (lv_at hl 5 rfl) ?_
              refine lv_bipush (v := 6) hx hb d_Mo_plain_186 (by decide) ?_
              refine lv_icmp_ne (tgt := 202) hx hb d_Mo_plain_188 (by decide) (fun h => ?_) (fun h => ?_)
              · have vc := vc.1 h
                refine lv_lload hx hb d_Mo_plain_202 (lv_at hl 1 rfl) ?_
                refine lv_lload hx hb d_Mo_plain_204 (lv_at hl 0 rfl) ?_
                obtain ⟨vcn, vc⟩ := vc
                refine lv_lrem hx hb d_Mo_plain_206 vcn ?_
                refine lv_lconst (v := 0) hx hb d_Mo_plain_207 (by decide) ?_
                refine W.lcmp hx hb d_Mo_plain_208 ?_
                refine lv_if_ne (tgt := 216) hx hb d_Mo_plain_209 (by decide) (fun h => ?_) (fun h => ?_)
                · have vc := vc.1 h
                  refine lv_iconst (v := 0) hx hb d_Mo_plain_216 (by decide) ?_
                  exact hret _ _ _ _ _ _ _ _ _ _ _ _ _ _ _ _ _ _ _ _ _ _ _ _ _ _ _ _ ls _ H locs d_Mo_plain_217 vc hP hD hS
                · have vc := vc.2 h
                  refine lv_iconst (v := 1) hx hb d_Mo_plain_212 (by decide) ?_
                  refine lv_goto (tgt := 217) hx hb d_Mo_plain_213 (by decide) ?_
                  exact hret _ _ _ _ _ _ _ _ _ _ _ _ _ _ _ _ _ _ _ _ _ _ _ _ _ _ _ _ ls _ H locs d_Mo_plain_217 vc hP hD hS
              · have vc := vc.2 h
                refine lv_lload hx hb d_Mo_plain_191 (lv_at hl 1 rfl) ?_
                refine lv_lload hx hb d_Mo_plain_193 (lv_at hl 0 rfl) ?_
                refine W.lcmp hx hb d_Mo_plain_195 ?_
                refine lv_if_ge (tgt := 216) hx hb d_Mo_plain_196 (by decide) (fun h => ?_) (fun h => ?_)
                · have vc := vc.1 h
                  refine lv_iconst (v := 0) hx hb d_Mo_plain_216 (by decide) ?_
                  exact hret _ _ _ _ _ _ _ _ _ _ _ _ _ _ _ _ _ _ _ _ _ _ _ _ _ _ _ _ ls _ H locs d_Mo_plain_217 vc hP hD hS
                · have vc := vc.2 h
                  refine lv_goto (tgt := 212) hx hb d_Mo_plain_199 (by decide) ?_
                  refine lv_iconst (v := 1) hx hb d_Mo_plain_212 (by decide) ?_
                  refine lv_goto (tgt := 217) hx hb d_Mo_plain_213 (by decide) ?_
                  exact hret _ _ _ _ _ _ _ _ _ _ _ _ _ _ _ _ _ _ _ _ _ _ _ _ _ _ _ _ ls _ H locs d_Mo_plain_217 vc hP hD hS
            · have vc := vc.2 h
              refine lv_lload hx hb d_Mo_plain_174 (lv_at hl 1 rfl) ?_
              refine lv_lload hx hb d_Mo_plain_176 (lv_at hl 0 rfl) ?_
              refine W.lcmp hx hb d_Mo_plain_178 ?_
              refine lv_if_le (tgt := 216) hx hb d_Mo_plain_179 (by decide) (fun h => ?_) (fun h => ?_)
              · have vc := vc.1 h
                refine lv_iconst (v := 0) hx hb d_Mo_plain_216 (by decide) ?_
                exact hret _ _ _ _ _ _ _ _ _ _ _ _ _ _ _ _ _ _ _ _ _ _ _ _ _ _ _ _ ls _ H locs d_Mo_plain_217 vc hP hD hS
              · have vc := vc.2 h
                refine lv_goto (tgt := 212) hx hb d_Mo_plain_182 (by decide) ?_
                refine lv_iconst (v := 1) hx hb d_Mo_plain_212 (by decide) ?_
                refine lv_goto (tgt := 217) hx hb d_Mo_plain_213 (by decide) ?_
                exact hret _ _ _ _ _ _ _ _ _ _ _ _ _ _ _ _ _ _ _ _ _ _ _ _ _ _ _ _ ls _ H locs d_Mo_plain_217 vc hP hD hS
          · have vc := vc.2 h
            refine lv_lload hx hb d_Mo_plain_158 (lv_at hl 1 rfl) ?_
            refine lv_lload hx hb d_Mo_plain_160 (lv_at hl 0 rfl) ?_
            refine W.lcmp hx hb d_Mo_plain_162 ?_
            refine lv_if_gt (tgt := 216) hx hb d_Mo_plain_163 (by decide) (fun h => ?_) (fun h => ?_)
            · have vc := vc.1 h
              refine lv_iconst (v := 0) hx hb d_Mo_plain_216 (by decide) ?_
              exact hret _ _ _ _ _ _ _ _ _ _ _ _ _ _ _ _ _ _ _ _ _ _ _ _ _ _ _ _ ls _ H locs d_Mo_plain_217 vc hP hD hS
            · have vc := vc.2 h
              refine lv_goto (tgt := 212) hx hb d_Mo_plain_166 (by decide) ?_
              refine lv_iconst (v := 1) hx hb d_Mo_plain_212 (by decide) ?_
              refine lv_goto (tgt := 217) hx hb d_Mo_plain_213 (by decide) ?_
              exact hret _ _ _ _ _ _ _ _ _ _ _ _ _ _ _ _ _ _ _ _ _ _ _ _ _ _ _ _ ls _ H locs d_Mo_plain_217 vc hP hD hS
        · have vc := vc.2 h
          refine lv_lload hx hb d_Mo_plain_142 (lv_at hl 1 rfl) ?_
          refine lv_lload hx hb d_Mo_plain_144 (lv_at hl 0 rfl) ?_
          refine W.lcmp hx hb d_Mo_plain_146 ?_
          refine lv_if_lt (tgt := 216) hx hb d_Mo_plain_147 (by decide) (fun h => ?_) (fun h => ?_)
          · have vc := vc.1 h
            refine lv_iconst (v := 0) hx hb d_Mo_plain_216 (by decide) ?_
            exact hret _ _ _ _ _ _ _ _ _ _ _ _ _ _ _ _ _ _ _ _ _ _ _ _ _ _ _ _ ls _ H locs d_Mo_plain_217 vc hP hD hS
          · have vc := vc.2 h
            refine lv_goto (tgt := 212) hx hb d_Mo_plain_150 (by decide) ?_
            refine lv_iconst (v := 1) hx hb d_Mo_plain_212 (by decide) ?_
            refine lv_goto (tgt := 217) hx hb d_Mo_plain_213 (by decide) ?_
            exact hret _ _ _ _ _ _ _ _ _ _ _ _ _ _ _ _ _ _ _ _ _ _ _ _ _ _ _ _ ls _ H locs d_Mo_plain_217 vc hP hD hS
  · have vc := vc.2 h
    refine lv_iload hx hb d_Mo_plain_13 (lv_at hl 0 rfl) ?_
    refine lv_iconst (v := 2) hx hb d_Mo_plain_15 (by decide) ?_
    obtain ⟨J7, vc, vc2⟩ := vc
    have jJ7 : ∀ (x10 : Int32) (ls : Array Slot) (H : Heap) (locs : List Loc), J7 x10 → lv_has ls 9 [(0, .ref (b 0)), (1, .int x), (2, .int y), (3, .int w), (4, .int (mki x.toNatClampNeg))] → va_P D vwCl (wM b cI cJ cZ mki msz mle mel mme mal mic mil mio mab mae msa mlc mli mna mva mma mch mre mlv mwr msh mth mnv mns mfa mmo) H → va_D A (wM b cI cJ cZ mki msz mle mel mme mal mic mil mio mab mae msa mlc mli mna mva mma mch mre mlv mwr msh mth mnv mns mfa mmo) → va_S A s.heap H locs → W p l e R s m args below meth c H locs cells slots Q (F0 m 45 ls [.int x10]) := by
      intro x10 ls H locs vc hl hP hD hS
      have vc := vc2 x10 vc
      refine lv_istore hx hb d_Mo_plain_45 hl (by decide) (lv' := [(5, .int x10), (0, .ref (b 0)), (1, .int x), (2, .int y), (3, .int w), (4, .int (mki x.toNatClampNeg))]) rfl (fun ls hl => ?_)
      refine lv_iload_n hx hb d_Mo_plain_47 rfl (lv_at hl 3 rfl) ?_
      refine lv_if_ne (tgt := 74) hx hb d_Mo_plain_48 (by decide) (fun h => ?_) (fun h => ?_)
      · have vc := vc.1 h
        refine lv_iload_n hx hb d_Mo_plain_74 rfl (lv_at hl 3 rfl) ?_
        refine lv_iconst (v := 1) hx hb d_Mo_plain_75 (by decide) ?_
        refine lv_icmp_ne (tgt := 102) hx hb d_Mo_plain_76 (by decide) (fun h => ?_) (fun h => ?_)
        · have vc := vc.1 h
          refine lv_aload_n hx hb d_Mo_plain_102 rfl (lv_at hl 1 rfl) ?_
          refine lv_iload_n hx hb d_Mo_plain_103 rfl (lv_at hl 2 rfl) ?_
          refine lv_iload_n hx hb d_Mo_plain_104 rfl (lv_at hl 4 rfl) ?_
          obtain ⟨hpre, vc⟩ := vc
          refine wc_V (As := [.int x, .int w]) (rest := []) (wr := ([] : va_W)) S (c_Mo_among l D b cI cJ cZ mki msz mle mel mme mal mic mil mio mab mae msa mlc mli mna mva mma mch mre mlv mwr msh mth mnv mns mfa mmo x w hpre) k_Mo_among i_Mo_among e_Mo_among o_Mo ml_Mo_174 hd_Mo_among (Nat.le_trans (by decide) hRf) (Nat.le_trans (by decide) hRl) hRc (va_recv hK hP (q0 := 0) (ci := 6) rfl rfl) hK hP hD hS hA [0, 1, 2, 3, 4, 5, 6, 7, 8, 9, 10, 11, 12, 13, 14, 15, 16, 17, 18, 19, 20, 21, 22] [] rfl rfl rfl (by decide) (by decide) (by decide) hl.1 rfl (Nat.le_of_ble_eq_true rfl) d_Mo_plain_105 (fun t11 H locs hu hP hD hS => ?_)
          have vc := vc t11 hu
          clear hu
          have hP : va_P D vwCl (wM b cI cJ cZ mki msz mle mel mme mal mic mil mio mab mae msa mlc mli mna mva mma mch mre mlv mwr msh mth mnv mns mfa mmo) H := hP
          have hD : va_D A (wM b cI cJ cZ mki msz mle mel mme mal mic mil mio mab mae msa mlc mli mna mva mma mch mre mlv mwr msh mth mnv mns mfa mmo) := hD
          exact hret _ _ _ _ _ _ _ _ _ _ _ _ _ _ _ _ _ _ _ _ _ _ _ _ _ _ _ _ ls _ H locs d_Mo_plain_108 vc hP hD hS
        · have vc := vc.2 h
          refine lv_aload_n hx hb d_Mo_plain_79 rfl (lv_at hl 1 rfl) ?_
          refine va_get (D := D) (ci := 6) (v := .ref (b 6)) (C := R_Mo) (T := F_Mo) (N := 27) hx hb hts in_Mo hown hK hP 0 rfl rfl 7 (by decide) (hts _ fl_Mo_26) (fun _ h => h) rfl d_Mo_plain_80 ?_
          refine lv_iload_n hx hb d_Mo_plain_83 rfl (lv_at hl 4 rfl) ?_
          obtain ⟨vcb, vc⟩ := vc
          refine va_iald hx hb hK hP 6 0 rfl rfl vcb d_Mo_plain_84 ?_
          refine lv_aload_n hx hb d_Mo_plain_85 rfl (lv_at hl 1 rfl) ?_
          refine va_get (D := D) (ci := 6) (v := .ref (b 6)) (C := R_Mo) (T := F_Mo) (N := 27) hx hb hts in_Mo hown hK hP 0 rfl rfl 7 (by decide) (hts _ fl_Mo_26) (fun _ h => h) rfl d_Mo_plain_86 ?_
          refine lv_iload_n hx hb d_Mo_plain_89 rfl (lv_at hl 2 rfl) ?_
          obtain ⟨vcb, vc⟩ := vc
          refine va_iald hx hb hK hP 6 0 rfl rfl vcb d_Mo_plain_90 ?_
          refine lv_icmp_ne (tgt := 98) hx hb d_Mo_plain_91 (by decide) (fun h => ?_) (fun h => ?_)
          · have vc := vc.1 h
            refine lv_iconst (v := 0) hx hb d_Mo_plain_98 (by decide) ?_
            refine lv_goto (tgt := 108) hx hb d_Mo_plain_99 (by decide) ?_
            exact hret _ _ _ _ _ _ _ _ _ _ _ _ _ _ _ _ _ _ _ _ _ _ _ _ _ _ _ _ ls _ H locs d_Mo_plain_108 vc hP hD hS
          · have vc := vc.2 h
            refine lv_iconst (v := 1) hx hb d_Mo_plain_94 (by decide) ?_
            refine lv_goto (tgt := 108) hx hb d_Mo_plain_95 (by decide) ?_
            exact hret _ _ _ _ _ _ _ _ _ _ _ _ _ _ _ _ _ _ _ _ _ _ _ _ _ _ _ _ ls _ H locs d_Mo_plain_108 vc hP hD hS
      · have vc := vc.2 h
        refine lv_iload_n hx hb d_Mo_plain_51 rfl (lv_at hl 4 rfl) ?_
        refine lv_iload hx hb d_Mo_plain_52 (lv_at hl 5 rfl) ?_
        refine lv_ishr hx hb d_Mo_plain_54 ?_
        refine lv_iconst (v := 1) hx hb d_Mo_plain_55 (by decide) ?_
        refine lv_iand hx hb d_Mo_plain_56 ?_
        refine lv_iconst (v := 1) hx hb d_Mo_plain_57 (by decide) ?_
        refine lv_icmp_eq (tgt := 66) hx hb d_Mo_plain_58 (by decide) (fun h => ?_) (fun h => ?_)
        · have vc := vc.1 h
          refine lv_iconst (v := 1) hx hb d_Mo_plain_66 (by decide) ?_
          refine lv_goto (tgt := 108) hx hb d_Mo_plain_67 (by decide) ?_
          exact hret _ _ _ _ _ _ _ _ _ _ _ _ _ _ _ _ _ _ _ _ _ _ _ _ _ _ _ _ ls _ H locs d_Mo_plain_108 vc hP hD hS
        · have vc := vc.2 h
          refine lv_iload hx hb d_Mo_plain_61 (lv_at hl 0 rfl) ?_
          refine lv_if_eq (tgt := 70) hx hb d_Mo_plain_63 (by decide) (fun h => ?_) (fun h => ?_)
          · have vc := vc.1 h
            refine lv_iconst (v := 0) hx hb d_Mo_plain_70 (by decide) ?_
            refine lv_goto (tgt := 108) hx hb d_Mo_plain_71 (by decide) ?_
            exact hret _ _ _ _ _ _ _ _ _ _ _ _ _ _ _ _ _ _ _ _ _ _ _ _ _ _ _ _ ls _ H locs d_Mo_plain_108 vc hP hD hS
          · have vc := vc.2 h
            refine lv_iconst (v := 1) hx hb d_Mo_plain_66 (by decide) ?_
            refine lv_goto (tgt := 108) hx hb d_Mo_plain_67 (by decide) ?_
            exact hret _ _ _ _ _ _ _ _ _ _ _ _ _ _ _ _ _ _ _ _ _ _ _ _ _ _ _ _ ls _ H locs d_Mo_plain_108 vc hP hD hS
    clear vc2
    refine lv_icmp_ne (tgt := 44) hx hb d_Mo_plain_16 (by decide) (fun h => ?_) (fun h => ?_)
    · have vc := vc.1 h
      refine lv_iconst (v := 0) hx hb d_Mo_plain_44 (by decide) ?_
      exact jJ7 0 ls H locs vc (lv_sub hl [1, 2, 3, 4, 0] rfl) hP hD hS
    · have vc := vc.2 h
      refine lv_aload_n hx hb d_Mo_plain_19 rfl (lv_at hl 1 rfl) ?_
      refine va_get (D := D) (ci := 6) (v := .ref (b 2)) (C := R_Mo) (T := F_Mo) (N := 27) hx hb hts in_Mo hown hK hP 0 rfl rfl 3 (by decide) (hts _ fl_Mo_13) (fun _ h => h) rfl d_Mo_plain_20 ?_
      refine lv_iload_n hx hb d_Mo_plain_23 rfl (lv_at hl 2 rfl) ?_
      obtain ⟨vcb, vc⟩ := vc
      refine va_lald hx hb hK hP 2 1 rfl rfl vcb d_Mo_plain_24 ?_
      refine lv_ldc2 hx hb hown (hts _ cg_Mo_172) d_Mo_plain_25 ?_
      refine lv_lrem hx hb d_Mo_plain_28 (by decide) ?_
      refine lv_lconst (v := 0) hx hb d_Mo_plain_29 (by decide) ?_
      refine W.lcmp hx hb d_Mo_plain_30 ?_
      obtain ⟨J8, vc, vc2⟩ := vc
      have jJ8 : ∀ (ls : Array Slot) (H : Heap) (locs : List Loc), J8 → lv_has ls 9 [(0, .ref (b 0)), (1, .int x), (2, .int y), (3, .int w), (4, .int (mki x.toNatClampNeg))] → va_P D vwCl (wM b cI cJ cZ mki msz mle mel mme mal mic mil mio mab mae msa mlc mli mna mva mma mch mre mlv mwr msh mth mnv mns mfa mmo) H → va_D A (wM b cI cJ cZ mki msz mle mel mme mal mic mil mio mab mae msa mlc mli mna mva mma mch mre mlv mwr msh mth mnv mns mfa mmo) → va_S A s.heap H locs → W p l e R s m args below meth c H locs cells slots Q (F0 m 44 ls []) := by
        intro  ls H locs vc hl hP hD hS
        have vc := vc2  vc
        refine lv_iconst (v := 0) hx hb d_Mo_plain_44 (by decide) ?_
        exact jJ7 0 ls H locs vc (lv_sub hl [0, 1, 2, 3, 4] rfl) hP hD hS
      clear vc2
      refine lv_if_ne (tgt := 44) hx hb d_Mo_plain_31 (by decide) (fun h => ?_) (fun h => ?_)
      · have vc := vc.1 h
        exact jJ8 ls H locs vc (lv_sub hl [1, 2, 3, 4, 0] rfl) hP hD hS
      · have vc := vc.2 h
        refine lv_iload_n hx hb d_Mo_plain_34 rfl (lv_at hl 4 rfl) ?_
        refine lv_bipush (v := 63) hx hb d_Mo_plain_35 (by decide) ?_
        refine lv_icmp_le (tgt := 44) hx hb d_Mo_plain_37 (by decide) (fun h => ?_) (fun h => ?_)
        · have vc := vc.1 h
          exact jJ8 ls H locs vc (lv_sub hl [1, 2, 3, 4, 0] rfl) hP hD hS
        · have vc := vc.2 h
          refine lv_iconst (v := 1) hx hb d_Mo_plain_40 (by decide) ?_
          refine lv_goto (tgt := 45) hx hb d_Mo_plain_41 (by decide) ?_
          exact jJ7 1 ls H locs vc (lv_sub hl [1, 2, 3, 4, 0] rfl) hP hD hS
set_option maxHeartbeats 4000000 in
theorem v_Mo_plain (mki : Nat → Int32) (msz : Nat → Int64) (mle : Nat → Int32) (mel : Nat → Int32) (mme : Nat → Int32) (mal : Nat → Int32) (mic : Nat → Int32) (mil : Nat → Int32) (mio : Nat → Int32) (mab : Nat → Int32) (mae : Nat → Int32) (msa : Nat → Int32) (mlc : Nat → Int32) (mli : Nat → Int32) (mna : Nat → Int32) (mva : Nat → Int32) (mma : Nat → Int32) (mch : Nat → Int32) (mre : Nat → Int32) (mlv : Nat → Int32) (mwr : Nat → Int64) (msh : Nat → Int32) (mth : Int32) (mnv : Int32) (mns : Int32) (mfa : Int32) (mmo : Int32) (x : Int32) (y : Int32) (w : Int32) (hpre : (∃ n0 k0 q0 v0 : Nat, k0 < 17 ∧ v0 < n0 ∧ x = nI v0 ∧ y = nI k0 ∧ w = nI q0 ∧ (¬ w < 0 ∧ okk mki msz n0 k0 w ∧ q0 < 2 ^ 31) ∧ MVOK mki msz mle mel mme n0 ∧ POK mic mio)) : V_Mo_plain mki msz mle mel mme mal mic mil mio mab mae msa mlc mli mna mva mma mch mre mlv mwr msh mth mnv mns mfa mmo x y w (fun v mki' msz' mle' mel' mme' mal' mic' mil' mio' mab' mae' msa' mlc' mli' mna' mva' mma' mch' mre' mlv' mwr' msh' mth' mnv' mns' mfa' mmo' => ∃ rr : Bool, v = bI rr ∧ ((rr = true ↔ plS mki msz (mpb mki mle mme) (mpt mki mle mel mme) mal mic mil mio mab mae y.toNatClampNeg x.toNatClampNeg w)) ∧ mki' = mki ∧ msz' = msz ∧ mle' = mle ∧ mel' = mel ∧ mme' = mme ∧ mal' = mal ∧ mic' = mic ∧ mil' = mil ∧ mio' = mio ∧ mab' = mab ∧ mae' = mae ∧ msa' = msa ∧ mlc' = mlc ∧ mli' = mli ∧ mna' = mna ∧ mva' = mva ∧ mma' = mma ∧ mch' = mch ∧ mre' = mre ∧ mlv' = mlv ∧ mwr' = mwr ∧ msh' = msh ∧ mth' = mth ∧ mnv' = mnv ∧ mns' = mns ∧ mfa' = mfa ∧ mmo' = mmo) := by
  have main : ∀ post : Int32 → (Nat → Int32) → (Nat → Int64) → (Nat → Int32) → (Nat → Int32) → (Nat → Int32) → (Nat → Int32) → (Nat → Int32) → (Nat → Int32) → (Nat → Int32) → (Nat → Int32) → (Nat → Int32) → (Nat → Int32) → (Nat → Int32) → (Nat → Int32) → (Nat → Int32) → (Nat → Int32) → (Nat → Int32) → (Nat → Int32) → (Nat → Int32) → (Nat → Int32) → (Nat → Int64) → (Nat → Int32) → Int32 → Int32 → Int32 → Int32 → Int32 → Prop, (∀ v mki' msz' mle' mel' mme' mal' mic' mil' mio' mab' mae' msa' mlc' mli' mna' mva' mma' mch' mre' mlv' mwr' msh' mth' mnv' mns' mfa' mmo', (fun v mki' msz' mle' mel' mme' mal' mic' mil' mio' mab' mae' msa' mlc' mli' mna' mva' mma' mch' mre' mlv' mwr' msh' mth' mnv' mns' mfa' mmo' => ∃ rr : Bool, v = bI rr ∧ ((rr = true ↔ plS mki msz (mpb mki mle mme) (mpt mki mle mel mme) mal mic mil mio mab mae y.toNatClampNeg x.toNatClampNeg w)) ∧ mki' = mki ∧ msz' = msz ∧ mle' = mle ∧ mel' = mel ∧ mme' = mme ∧ mal' = mal ∧ mic' = mic ∧ mil' = mil ∧ mio' = mio ∧ mab' = mab ∧ mae' = mae ∧ msa' = msa ∧ mlc' = mlc ∧ mli' = mli ∧ mna' = mna ∧ mva' = mva ∧ mma' = mma ∧ mch' = mch ∧ mre' = mre ∧ mlv' = mlv ∧ mwr' = mwr ∧ msh' = msh ∧ mth' = mth ∧ mnv' = mnv ∧ mns' = mns ∧ mfa' = mfa ∧ mmo' = mmo) v mki' msz' mle' mel' mme' mal' mic' mil' mio' mab' mae' msa' mlc' mli' mna' mva' mma' mch' mre' mlv' mwr' msh' mth' mnv' mns' mfa' mmo' → post v mki' msz' mle' mel' mme' mal' mic' mil' mio' mab' mae' msa' mlc' mli' mna' mva' mma' mch' mre' mlv' mwr' msh' mth' mnv' mns' mfa' mmo') → V_Mo_plain mki msz mle mel mme mal mic mil mio mab mae msa mlc mli mna mva mma mch mre mlv mwr msh mth mnv mns mfa mmo x y w post := by
    intro post hpost
    unfold V_Mo_plain
    obtain ⟨n0, k0, q0, v0, hk, hv, rfl, rfl, rfl, hok, hV, hP⟩ := hpre
    obtain ⟨hn, hel, hV⟩ := hV
    have hv40 : v0 < 40 := by omega
    obtain ⟨⟨kd, hkd, ekd⟩, ⟨L, hL, eL⟩, hpart, hmem, htxt⟩ := hV v0 hv40
    have hne : ¬ nI q0 = -1 := fun e => absurd (e.symm ▸ neg1_lt) (hok.1)
    obtain ⟨q', eq', hq4, o0, o1, o2, o3, o7, oc, o10, o13⟩ := hok.2.1.resolve_left hne
    have hqq : q' = q0 := by rw [nI_eq hok.2.2 (by omega)] at eq'; exact eq'.symm
    subst hqq
    have hx : vp_in (nI v0) 40 := vp_in_nI hv40 (by decide)
    have cv : (nI v0).toNatClampNeg = v0 := nI_clamp (by omega)
    have ck : (nI k0).toNatClampNeg = k0 := nI_clamp (by omega)
    have cq : (nI q').toNatClampNeg = q' := nI_clamp (by omega)
    have cL : (nI L).toNatClampNeg = L := nI_clamp (by omega)
    have l3 : (3 : Int32) ≤ nI k0 ↔ 3 ≤ k0 := nI_leL (n := 3) (by decide) (by omega)
    have l8 : (8 : Int32) ≤ nI k0 ↔ 8 ≤ k0 := nI_leL (n := 8) (by decide) (by omega)
    have l11 : (11 : Int32) ≤ nI k0 ↔ 11 ≤ k0 := nI_leL (n := 11) (by decide) (by omega)
    have l14 : (14 : Int32) ≤ nI k0 ↔ 14 ≤ k0 := nI_leL (n := 14) (by decide) (by omega)
    have ek : ∀ c : Nat, c < 2 ^ 31 → (nI k0 = nI c ↔ k0 = c) := fun c hc => nI_eq (by omega) hc
    have e0 : nI k0 = 0 ↔ k0 = 0 := ek 0 (by decide)
    have e1 : nI k0 = 1 ↔ k0 = 1 := ek 1 (by decide)
    have e3 : nI k0 = 3 ↔ k0 = 3 := ek 3 (by decide)
    have e4 : nI k0 = 4 ↔ k0 = 4 := ek 4 (by decide)
    have e5 : nI k0 = 5 ↔ k0 = 5 := ek 5 (by decide)
    have e6 : nI k0 = 6 ↔ k0 = 6 := ek 6 (by decide)
    have e8 : nI k0 = 8 ↔ k0 = 8 := ek 8 (by decide)
    have e9 : nI k0 = 9 ↔ k0 = 9 := ek 9 (by decide)
    have e11 : nI k0 = 11 ↔ k0 = 11 := ek 11 (by decide)
    have e12 : nI k0 = 12 ↔ k0 = 12 := ek 12 (by decide)
    have e14 : nI k0 = 14 ↔ k0 = 14 := ek 14 (by decide)
    have e15 : nI k0 = 15 ↔ k0 = 15 := ek 15 (by decide)
    have hsz : mki v0 = 4 → cN (mpb mki mle mme v0) 12 = L := fun h4 => by
      rw [← cN_lt_eq L 12 (by omega)]
      exact cN_iff 12 (fun i _ => by rw [mpb_r hv40 h4 (by rw [eL, cL]; exact hL), eL, cL])
    simp only [cv, ck, cq, l3, l8, l11, l14, e0, e1, e3, e4, e5, e6, e8, e9, e11, e12, e14, e15, lg_eq0, lg_lt0, lg_le0, lg_ge0, lg_gt0, eL, cL] at hpost ⊢
    refine ⟨hx, fun h3 => ⟨fun h8 => ⟨fun h11 => ⟨fun h14 => ?_, fun h14 => ?_⟩, fun h11 => ?_⟩, fun h8 => ?_⟩, fun h3 => ?_⟩
    · refine ⟨hx, fun b hb => ⟨fun hk5 => (hpost _ _ _ _ _ _ _ _ _ _ _ _ _ _ _ _ _ _ _ _ _ _ _ _ _ _ _ _ ⟨true, rfl, ⟨fun _ => plS_off k0 hk (by rw [spk_5 h14]; decide) (by rw [spk_5 h14]; exact fun e => hk5 e.symm), fun _ => rfl⟩, rfl, rfl, rfl, rfl, rfl, rfl, rfl, rfl, rfl, rfl, rfl, rfl, rfl, rfl, rfl, rfl, rfl, rfl, rfl, rfl, rfl, rfl, rfl, rfl, rfl, rfl, rfl⟩), fun hk5 => ?_⟩⟩
      have hcn : cN (fun k => bt b k = true) 12 = cN (mpb mki mle mme v0) 12 := cN_iff 12 (fun i hi => by
        rw [hb i (by omega), mpb_m hv40 hk5 hi]; exact ⟨fun q => q.2.2, fun q => ⟨hi, hk5, q⟩⟩)
      have hle := cN_le (mpb mki mle mme v0) 12
      refine ⟨fun n14 => ⟨fun n15 => ?_, fun e => ?_⟩, fun e => ?_⟩
      · obtain rfl : k0 = 16 := by omega
        have key : plS mki msz (mpb mki mle mme) (mpt mki mle mel mme) mal mic mil mio mab mae 16 v0 (nI q') ↔ nI q' &&& (b ^^^ (-1)) = 0 := by
          rw [req_iff hq4]
          simp [plS, hk5]
          exact ⟨fun h i hi hbb => (hb i (by omega)).mpr ⟨hi, hk5, (mpb_m hv40 hk5 hi).mp (h i hi hbb)⟩, fun h i hi hbb => (mpb_m hv40 hk5 hi).mpr ((hb i (by omega)).mp (h i hi hbb)).2.2⟩
        exact ⟨fun h => (hpost _ _ _ _ _ _ _ _ _ _ _ _ _ _ _ _ _ _ _ _ _ _ _ _ _ _ _ _ ⟨false, rfl, ⟨fun q => absurd q (by decide), fun q => absurd q (fun z => h (key.mp z))⟩, rfl, rfl, rfl, rfl, rfl, rfl, rfl, rfl, rfl, rfl, rfl, rfl, rfl, rfl, rfl, rfl, rfl, rfl, rfl, rfl, rfl, rfl, rfl, rfl, rfl, rfl, rfl⟩), fun h => (hpost _ _ _ _ _ _ _ _ _ _ _ _ _ _ _ _ _ _ _ _ _ _ _ _ _ _ _ _ ⟨true, rfl, ⟨fun _ => key.mpr h, fun _ => rfl⟩, rfl, rfl, rfl, rfl, rfl, rfl, rfl, rfl, rfl, rfl, rfl, rfl, rfl, rfl, rfl, rfl, rfl, rfl, rfl, rfl, rfl, rfl, rfl, rfl, rfl, rfl, rfl⟩)⟩
      · subst e
        have h12 := oc (by omega)
        have key : plS mki msz (mpb mki mle mme) (mpt mki mle mel mme) mal mic mil mio mab mae 15 v0 (nI q') ↔ cN (mpb mki mle mme v0) 12 ≤ q' := by simp [plS, cq, hk5]
        intro c hc
        rw [hc, hcn, nI_ltI (by omega) (by omega)]
        exact ⟨fun h => (hpost _ _ _ _ _ _ _ _ _ _ _ _ _ _ _ _ _ _ _ _ _ _ _ _ _ _ _ _ ⟨false, rfl, ⟨fun q => absurd q (by decide), fun q => absurd q (fun z => by rw [key] at z; omega)⟩, rfl, rfl, rfl, rfl, rfl, rfl, rfl, rfl, rfl, rfl, rfl, rfl, rfl, rfl, rfl, rfl, rfl, rfl, rfl, rfl, rfl, rfl, rfl, rfl, rfl, rfl, rfl⟩), fun h => (hpost _ _ _ _ _ _ _ _ _ _ _ _ _ _ _ _ _ _ _ _ _ _ _ _ _ _ _ _ ⟨true, rfl, ⟨fun _ => key.mpr (by omega), fun _ => rfl⟩, rfl, rfl, rfl, rfl, rfl, rfl, rfl, rfl, rfl, rfl, rfl, rfl, rfl, rfl, rfl, rfl, rfl, rfl, rfl, rfl, rfl, rfl, rfl, rfl, rfl, rfl, rfl⟩)⟩
      · subst e
        have h12 := oc (by omega)
        have key : plS mki msz (mpb mki mle mme) (mpt mki mle mel mme) mal mic mil mio mab mae 14 v0 (nI q') ↔ q' ≤ cN (mpb mki mle mme v0) 12 := by simp [plS, cq, hk5]
        intro c hc
        rw [hc, hcn, nI_ltI (by omega) (by omega)]
        exact ⟨fun h => (hpost _ _ _ _ _ _ _ _ _ _ _ _ _ _ _ _ _ _ _ _ _ _ _ _ _ _ _ _ ⟨false, rfl, ⟨fun q => absurd q (by decide), fun q => absurd q (fun z => by rw [key] at z; omega)⟩, rfl, rfl, rfl, rfl, rfl, rfl, rfl, rfl, rfl, rfl, rfl, rfl, rfl, rfl, rfl, rfl, rfl, rfl, rfl, rfl, rfl, rfl, rfl, rfl, rfl, rfl, rfl⟩), fun h => (hpost _ _ _ _ _ _ _ _ _ _ _ _ _ _ _ _ _ _ _ _ _ _ _ _ _ _ _ _ ⟨true, rfl, ⟨fun _ => key.mpr (by omega), fun _ => rfl⟩, rfl, rfl, rfl, rfl, rfl, rfl, rfl, rfl, rfl, rfl, rfl, rfl, rfl, rfl, rfl, rfl, rfl, rfl, rfl, rfl, rfl, rfl, rfl, rfl, rfl, rfl, rfl⟩)⟩
    · refine ⟨fun hk4 => (hpost _ _ _ _ _ _ _ _ _ _ _ _ _ _ _ _ _ _ _ _ _ _ _ _ _ _ _ _ ⟨true, rfl, ⟨fun _ => plS_off k0 hk (by rw [spk_4 h11 (by omega)]; decide) (by rw [spk_4 h11 (by omega)]; exact fun e => hk4 e.symm), fun _ => rfl⟩, rfl, rfl, rfl, rfl, rfl, rfl, rfl, rfl, rfl, rfl, rfl, rfl, rfl, rfl, rfl, rfl, rfl, rfl, rfl, rfl, rfl, rfl, rfl, rfl, rfl, rfl, rfl⟩), fun hk4 => ?_⟩
      have hcn := hsz hk4
      refine ⟨fun n11 => ⟨fun n12 => ?_, fun e => ?_⟩, fun e => ?_⟩
      · obtain rfl : k0 = 13 := by omega
        refine ⟨fun h => (hpost _ _ _ _ _ _ _ _ _ _ _ _ _ _ _ _ _ _ _ _ _ _ _ _ _ _ _ _ ⟨true, rfl, ⟨fun _ => ?_, fun _ => rfl⟩, rfl, rfl, rfl, rfl, rfl, rfl, rfl, rfl, rfl, rfl, rfl, rfl, rfl, rfl, rfl, rfl, rfl, rfl, rfl, rfl, rfl, rfl, rfl, rfl, rfl, rfl, rfl⟩), fun h => ⟨⟨hx, ⟨L, hL, rfl⟩, hel⟩, fun b hb => ⟨fun h2 => (hpost _ _ _ _ _ _ _ _ _ _ _ _ _ _ _ _ _ _ _ _ _ _ _ _ _ _ _ _ ⟨false, rfl, ⟨fun q => absurd q (by decide), fun q => absurd q (fun z => ?_)⟩, rfl, rfl, rfl, rfl, rfl, rfl, rfl, rfl, rfl, rfl, rfl, rfl, rfl, rfl, rfl, rfl, rfl, rfl, rfl, rfl, rfl, rfl, rfl, rfl, rfl, rfl, rfl⟩), fun h2 => (hpost _ _ _ _ _ _ _ _ _ _ _ _ _ _ _ _ _ _ _ _ _ _ _ _ _ _ _ _ ⟨true, rfl, ⟨fun _ => ?_, fun _ => rfl⟩, rfl, rfl, rfl, rfl, rfl, rfl, rfl, rfl, rfl, rfl, rfl, rfl, rfl, rfl, rfl, rfl, rfl, rfl, rfl, rfl, rfl, rfl, rfl, rfl, rfl, rfl, rfl⟩)⟩⟩⟩
        · simp [plS, hk4, h]
        · simp [plS, hk4, h] at z
          have : b = true := hb.mpr (fun i j w1 w2 => by
            have := z i j (by omega) w2 ((mpb_r hv40 hk4 (by rw [eL, cL]; exact hL) i).mpr (by rw [eL, cL]; exact w1)) ((mpb_r hv40 hk4 (by rw [eL, cL]; exact hL) j).mpr (by rw [eL, cL]; omega))
            rw [mpt_r hv40 hk4 (by rw [eL, cL]; exact hL) (by rw [eL, cL]; exact w1), mpt_r hv40 hk4 (by rw [eL, cL]; exact hL) (by rw [eL, cL]; omega)] at this
            exact this)
          rw [bI0.mp h2] at this; exact absurd this (by decide)
        · simp [plS, hk4]
          refine Or.inr (fun i j w1 w2 w3 w4 => ?_)
          have p3 := (mpb_r hv40 hk4 (by rw [eL, cL]; exact hL) i).mp w3
          have p4 := (mpb_r hv40 hk4 (by rw [eL, cL]; exact hL) j).mp w4
          rw [mpt_r hv40 hk4 (by rw [eL, cL]; exact hL) p3, mpt_r hv40 hk4 (by rw [eL, cL]; exact hL) p4]
          rw [eL, cL] at p3
          exact (hb.mp (bI_ne.mp h2)) i j p3 w2
      · subst e
        have h12 := oc (by omega)
        have key : plS mki msz (mpb mki mle mme) (mpt mki mle mel mme) mal mic mil mio mab mae 12 v0 (nI q') ↔ L ≤ q' := by simp [plS, cq, hk4, hcn]
        rw [nI_ltI (by omega) (by omega)]
        exact ⟨hx, fun h => (hpost _ _ _ _ _ _ _ _ _ _ _ _ _ _ _ _ _ _ _ _ _ _ _ _ _ _ _ _ ⟨false, rfl, ⟨fun q => absurd q (by decide), fun q => absurd q (fun z => by rw [key] at z; omega)⟩, rfl, rfl, rfl, rfl, rfl, rfl, rfl, rfl, rfl, rfl, rfl, rfl, rfl, rfl, rfl, rfl, rfl, rfl, rfl, rfl, rfl, rfl, rfl, rfl, rfl, rfl, rfl⟩), fun h => (hpost _ _ _ _ _ _ _ _ _ _ _ _ _ _ _ _ _ _ _ _ _ _ _ _ _ _ _ _ ⟨true, rfl, ⟨fun _ => key.mpr (by omega), fun _ => rfl⟩, rfl, rfl, rfl, rfl, rfl, rfl, rfl, rfl, rfl, rfl, rfl, rfl, rfl, rfl, rfl, rfl, rfl, rfl, rfl, rfl, rfl, rfl, rfl, rfl, rfl, rfl, rfl⟩)⟩
      · subst e
        have h12 := oc (by omega)
        have key : plS mki msz (mpb mki mle mme) (mpt mki mle mel mme) mal mic mil mio mab mae 11 v0 (nI q') ↔ q' ≤ L := by simp [plS, cq, hk4, hcn]
        rw [nI_ltI (by omega) (by omega)]
        exact ⟨hx, fun h => (hpost _ _ _ _ _ _ _ _ _ _ _ _ _ _ _ _ _ _ _ _ _ _ _ _ _ _ _ _ ⟨false, rfl, ⟨fun q => absurd q (by decide), fun q => absurd q (fun z => by rw [key] at z; omega)⟩, rfl, rfl, rfl, rfl, rfl, rfl, rfl, rfl, rfl, rfl, rfl, rfl, rfl, rfl, rfl, rfl, rfl, rfl, rfl, rfl, rfl, rfl, rfl, rfl, rfl, rfl, rfl⟩), fun h => (hpost _ _ _ _ _ _ _ _ _ _ _ _ _ _ _ _ _ _ _ _ _ _ _ _ _ _ _ _ ⟨true, rfl, ⟨fun _ => key.mpr (by omega), fun _ => rfl⟩, rfl, rfl, rfl, rfl, rfl, rfl, rfl, rfl, rfl, rfl, rfl, rfl, rfl, rfl, rfl, rfl, rfl, rfl, rfl, rfl, rfl, rfl, rfl, rfl, rfl, rfl, rfl⟩)⟩
    · refine ⟨fun hk3 => (hpost _ _ _ _ _ _ _ _ _ _ _ _ _ _ _ _ _ _ _ _ _ _ _ _ _ _ _ _ ⟨true, rfl, ⟨fun _ => plS_off k0 hk (by rw [spk_3 h8 (by omega)]; decide) (by rw [spk_3 h8 (by omega)]; exact fun e => hk3 e.symm), fun _ => rfl⟩, rfl, rfl, rfl, rfl, rfl, rfl, rfl, rfl, rfl, rfl, rfl, rfl, rfl, rfl, rfl, rfl, rfl, rfl, rfl, rfl, rfl, rfl, rfl, rfl, rfl, rfl, rfl⟩), fun hk3 => ?_⟩
      obtain ⟨t, ht, hto, et⟩ := htxt hk3
      have htl : ∃ t, t < 2 ^ 31 ∧ told 8 t = true ∧ msz v0 = (nI t).toInt64 := ⟨t, ht, hto, et⟩
      have hle := sTextLen_le 8 t
      refine ⟨fun n8 => ⟨fun n9 => ?_, fun e => ?_⟩, fun e => ?_⟩
      · obtain rfl : k0 = 10 := by omega
        have hq1 := o10 rfl
        obtain ⟨c, hc, ec⟩ := hP.1 q' hq1
        have hs := sMatch_eq mic mil mio mab mae q' t c hc ec (fun i hi => hP.2 _ (by omega))
        have key : plS mki msz (mpb mki mle mme) (mpt mki mle mel mme) mal mic mil mio mab mae 10 v0 (nI q') ↔ sMatch mic mil mio mab mae q' t = true := by simp [plS, cq, hk3, et, i64_32 ht, nI_clamp ht]
        rw [et, i64_32 ht, nI_clamp ht, ec, nI_clamp (show c < 2 ^ 31 by omega), ← hs]
        exact ⟨hx, ⟨vp_in_nI hq1 (by decide), ⟨c, hc, rfl⟩, t, ht, rfl, hto⟩, fun h => (hpost _ _ _ _ _ _ _ _ _ _ _ _ _ _ _ _ _ _ _ _ _ _ _ _ _ _ _ _ ⟨false, rfl, ⟨fun q => absurd q (by decide), fun q => absurd q (fun z => by rw [key, bI0.mp h] at z; exact absurd z (by decide))⟩, rfl, rfl, rfl, rfl, rfl, rfl, rfl, rfl, rfl, rfl, rfl, rfl, rfl, rfl, rfl, rfl, rfl, rfl, rfl, rfl, rfl, rfl, rfl, rfl, rfl, rfl, rfl⟩), fun h => (hpost _ _ _ _ _ _ _ _ _ _ _ _ _ _ _ _ _ _ _ _ _ _ _ _ _ _ _ _ ⟨true, rfl, ⟨fun _ => key.mpr (bI_ne.mp h), fun _ => rfl⟩, rfl, rfl, rfl, rfl, rfl, rfl, rfl, rfl, rfl, rfl, rfl, rfl, rfl, rfl, rfl, rfl, rfl, rfl, rfl, rfl, rfl, rfl, rfl, rfl, rfl, rfl, rfl⟩)⟩
      · subst e
        have h12 := oc (by omega)
        have key : plS mki msz (mpb mki mle mme) (mpt mki mle mel mme) mal mic mil mio mab mae 9 v0 (nI q') ↔ sTextLen 8 t ≤ q' := by simp [plS, cq, hk3, et, i64_32 ht, nI_clamp ht]
        refine ⟨⟨hx, htl⟩, fun c hc => ?_⟩
        rw [hc t ht hto et, nI_ltI (by omega) (by omega)]
        exact ⟨fun h => (hpost _ _ _ _ _ _ _ _ _ _ _ _ _ _ _ _ _ _ _ _ _ _ _ _ _ _ _ _ ⟨false, rfl, ⟨fun q => absurd q (by decide), fun q => absurd q (fun z => by rw [key] at z; omega)⟩, rfl, rfl, rfl, rfl, rfl, rfl, rfl, rfl, rfl, rfl, rfl, rfl, rfl, rfl, rfl, rfl, rfl, rfl, rfl, rfl, rfl, rfl, rfl, rfl, rfl, rfl, rfl⟩), fun h => (hpost _ _ _ _ _ _ _ _ _ _ _ _ _ _ _ _ _ _ _ _ _ _ _ _ _ _ _ _ ⟨true, rfl, ⟨fun _ => key.mpr (by omega), fun _ => rfl⟩, rfl, rfl, rfl, rfl, rfl, rfl, rfl, rfl, rfl, rfl, rfl, rfl, rfl, rfl, rfl, rfl, rfl, rfl, rfl, rfl, rfl, rfl, rfl, rfl, rfl, rfl, rfl⟩)⟩
      · subst e
        have h12 := oc (by omega)
        have key : plS mki msz (mpb mki mle mme) (mpt mki mle mel mme) mal mic mil mio mab mae 8 v0 (nI q') ↔ q' ≤ sTextLen 8 t := by simp [plS, cq, hk3, et, i64_32 ht, nI_clamp ht]
        refine ⟨⟨hx, htl⟩, fun c hc => ?_⟩
        rw [hc t ht hto et, nI_ltI (by omega) (by omega)]
        exact ⟨fun h => (hpost _ _ _ _ _ _ _ _ _ _ _ _ _ _ _ _ _ _ _ _ _ _ _ _ _ _ _ _ ⟨false, rfl, ⟨fun q => absurd q (by decide), fun q => absurd q (fun z => by rw [key] at z; omega)⟩, rfl, rfl, rfl, rfl, rfl, rfl, rfl, rfl, rfl, rfl, rfl, rfl, rfl, rfl, rfl, rfl, rfl, rfl, rfl, rfl, rfl, rfl, rfl, rfl, rfl, rfl, rfl⟩), fun h => (hpost _ _ _ _ _ _ _ _ _ _ _ _ _ _ _ _ _ _ _ _ _ _ _ _ _ _ _ _ ⟨true, rfl, ⟨fun _ => key.mpr (by omega), fun _ => rfl⟩, rfl, rfl, rfl, rfl, rfl, rfl, rfl, rfl, rfl, rfl, rfl, rfl, rfl, rfl, rfl, rfl, rfl, rfl, rfl, rfl, rfl, rfl, rfl, rfl, rfl, rfl, rfl⟩)⟩
    · have hq1 := o3 h3 (by omega)
      refine ⟨hx, vp_in_nI (by omega) (by decide), fun hk2 => (hpost _ _ _ _ _ _ _ _ _ _ _ _ _ _ _ _ _ _ _ _ _ _ _ _ _ _ _ _ ⟨true, rfl, ⟨fun _ => plS_off k0 hk (by rw [spk_2 h3 (by omega)]; decide) (by rw [spk_2 h3 (by omega)]; exact fun e => hk2 e.symm), fun _ => rfl⟩, rfl, rfl, rfl, rfl, rfl, rfl, rfl, rfl, rfl, rfl, rfl, rfl, rfl, rfl, rfl, rfl, rfl, rfl, rfl, rfl, rfl, rfl, rfl, rfl, rfl, rfl, rfl⟩), fun hk2 => ⟨fun n3 => ⟨fun n4 => ⟨fun n5 => ⟨fun n6 => ?_, fun e => ?_⟩, fun e => ?_⟩, fun e => ?_⟩, fun e => ?_⟩⟩
      · obtain rfl : k0 = 7 := by omega
        have key : plS mki msz (mpb mki mle mme) (mpt mki mle mel mme) mal mic mil mio mab mae 7 v0 (nI q') ↔ msz v0 - msz v0 / msz q' * msz q' = 0 := by simp [plS, cq, hk2]
        exact ⟨fun z => absurd (z ▸ o7 rfl) (Int64.lt_irrefl), fun h => (hpost _ _ _ _ _ _ _ _ _ _ _ _ _ _ _ _ _ _ _ _ _ _ _ _ _ _ _ _ ⟨false, rfl, ⟨fun q => absurd q (by decide), fun q => absurd q (fun z => h (key.mp z))⟩, rfl, rfl, rfl, rfl, rfl, rfl, rfl, rfl, rfl, rfl, rfl, rfl, rfl, rfl, rfl, rfl, rfl, rfl, rfl, rfl, rfl, rfl, rfl, rfl, rfl, rfl, rfl⟩), fun h => (hpost _ _ _ _ _ _ _ _ _ _ _ _ _ _ _ _ _ _ _ _ _ _ _ _ _ _ _ _ ⟨true, rfl, ⟨fun _ => key.mpr h, fun _ => rfl⟩, rfl, rfl, rfl, rfl, rfl, rfl, rfl, rfl, rfl, rfl, rfl, rfl, rfl, rfl, rfl, rfl, rfl, rfl, rfl, rfl, rfl, rfl, rfl, rfl, rfl, rfl, rfl⟩)⟩
      · subst e
        have key : plS mki msz (mpb mki mle mme) (mpt mki mle mel mme) mal mic mil mio mab mae 6 v0 (nI q') ↔ msz v0 < msz q' := by simp [plS, cq, hk2]
        exact ⟨fun h => (hpost _ _ _ _ _ _ _ _ _ _ _ _ _ _ _ _ _ _ _ _ _ _ _ _ _ _ _ _ ⟨false, rfl, ⟨fun q => absurd q (by decide), fun q => absurd q (fun z => Int64.not_lt.mpr h (key.mp z))⟩, rfl, rfl, rfl, rfl, rfl, rfl, rfl, rfl, rfl, rfl, rfl, rfl, rfl, rfl, rfl, rfl, rfl, rfl, rfl, rfl, rfl, rfl, rfl, rfl, rfl, rfl, rfl⟩), fun h => (hpost _ _ _ _ _ _ _ _ _ _ _ _ _ _ _ _ _ _ _ _ _ _ _ _ _ _ _ _ ⟨true, rfl, ⟨fun _ => key.mpr (Int64.not_le.mp h), fun _ => rfl⟩, rfl, rfl, rfl, rfl, rfl, rfl, rfl, rfl, rfl, rfl, rfl, rfl, rfl, rfl, rfl, rfl, rfl, rfl, rfl, rfl, rfl, rfl, rfl, rfl, rfl, rfl, rfl⟩)⟩
      · subst e
        have key : plS mki msz (mpb mki mle mme) (mpt mki mle mel mme) mal mic mil mio mab mae 5 v0 (nI q') ↔ msz q' < msz v0 := by simp [plS, cq, hk2]
        exact ⟨fun h => (hpost _ _ _ _ _ _ _ _ _ _ _ _ _ _ _ _ _ _ _ _ _ _ _ _ _ _ _ _ ⟨false, rfl, ⟨fun q => absurd q (by decide), fun q => absurd q (fun z => Int64.not_lt.mpr h (key.mp z))⟩, rfl, rfl, rfl, rfl, rfl, rfl, rfl, rfl, rfl, rfl, rfl, rfl, rfl, rfl, rfl, rfl, rfl, rfl, rfl, rfl, rfl, rfl, rfl, rfl, rfl, rfl, rfl⟩), fun h => (hpost _ _ _ _ _ _ _ _ _ _ _ _ _ _ _ _ _ _ _ _ _ _ _ _ _ _ _ _ ⟨true, rfl, ⟨fun _ => key.mpr (Int64.not_le.mp h), fun _ => rfl⟩, rfl, rfl, rfl, rfl, rfl, rfl, rfl, rfl, rfl, rfl, rfl, rfl, rfl, rfl, rfl, rfl, rfl, rfl, rfl, rfl, rfl, rfl, rfl, rfl, rfl, rfl, rfl⟩)⟩
      · subst e
        have key : plS mki msz (mpb mki mle mme) (mpt mki mle mel mme) mal mic mil mio mab mae 4 v0 (nI q') ↔ msz v0 ≤ msz q' := by simp [plS, cq, hk2]
        exact ⟨fun h => (hpost _ _ _ _ _ _ _ _ _ _ _ _ _ _ _ _ _ _ _ _ _ _ _ _ _ _ _ _ ⟨false, rfl, ⟨fun q => absurd q (by decide), fun q => absurd q (fun z => Int64.not_le.mpr h (key.mp z))⟩, rfl, rfl, rfl, rfl, rfl, rfl, rfl, rfl, rfl, rfl, rfl, rfl, rfl, rfl, rfl, rfl, rfl, rfl, rfl, rfl, rfl, rfl, rfl, rfl, rfl, rfl, rfl⟩), fun h => (hpost _ _ _ _ _ _ _ _ _ _ _ _ _ _ _ _ _ _ _ _ _ _ _ _ _ _ _ _ ⟨true, rfl, ⟨fun _ => key.mpr (Int64.not_lt.mp h), fun _ => rfl⟩, rfl, rfl, rfl, rfl, rfl, rfl, rfl, rfl, rfl, rfl, rfl, rfl, rfl, rfl, rfl, rfl, rfl, rfl, rfl, rfl, rfl, rfl, rfl, rfl, rfl, rfl, rfl⟩)⟩
      · subst e
        have key : plS mki msz (mpb mki mle mme) (mpt mki mle mel mme) mal mic mil mio mab mae 3 v0 (nI q') ↔ msz q' ≤ msz v0 := by simp [plS, cq, hk2]
        exact ⟨fun h => (hpost _ _ _ _ _ _ _ _ _ _ _ _ _ _ _ _ _ _ _ _ _ _ _ _ _ _ _ _ ⟨false, rfl, ⟨fun q => absurd q (by decide), fun q => absurd q (fun z => Int64.not_le.mpr h (key.mp z))⟩, rfl, rfl, rfl, rfl, rfl, rfl, rfl, rfl, rfl, rfl, rfl, rfl, rfl, rfl, rfl, rfl, rfl, rfl, rfl, rfl, rfl, rfl, rfl, rfl, rfl, rfl, rfl⟩), fun h => (hpost _ _ _ _ _ _ _ _ _ _ _ _ _ _ _ _ _ _ _ _ _ _ _ _ _ _ _ _ ⟨true, rfl, ⟨fun _ => key.mpr (Int64.not_lt.mp h), fun _ => rfl⟩, rfl, rfl, rfl, rfl, rfl, rfl, rfl, rfl, rfl, rfl, rfl, rfl, rfl, rfl, rfl, rfl, rfl, rfl, rfl, rfl, rfl, rfl, rfl, rfl, rfl, rfl, rfl⟩)⟩
    · refine ⟨fun z => z = bI (decide (mki v0 = 2 ∧ msz v0 - msz v0 / 1000 * 1000 = 0 ∧ ¬ nI q' ≤ 63)), ⟨fun h => by simp [bI, h], fun h => ⟨hx, ¬ (msz v0 - msz v0 / 1000 * 1000 = 0 ∧ ¬ nI q' ≤ 63), ⟨fun h2 => fun w => h2 w.1, fun h2 => ⟨fun h4 => fun w => w.2 h4, fun h4 => by rw [decide_eq_true ⟨h, h2, h4⟩]; rfl⟩⟩, fun h2 => by rw [decide_eq_false (fun w => h2 w.2)]; rfl⟩⟩, ?_⟩
      rintro _ rfl
      refine ⟨fun n0' => ⟨fun n1 => ?_, fun e => ?_⟩, fun e => ?_⟩
      · obtain rfl : k0 = 2 := by omega
        obtain ⟨hq1, hq4'⟩ := o2 rfl
        obtain ⟨_, ⟨L2, hL2, eL2⟩, _, _, _⟩ := hV q' (by omega)
        have cL2 : (mle q').toNatClampNeg ≤ 8 := by rw [eL2, nI_clamp (by omega)]; exact hL2
        refine ⟨⟨hx, vp_in_nI (by omega) (by decide), ⟨L2, hL2, eL2⟩, hel⟩, fun b hb => (hpost _ _ _ _ _ _ _ _ _ _ _ _ _ _ _ _ _ _ _ _ _ _ _ _ _ _ _ _ ⟨_, rfl, ?_, rfl, rfl, rfl, rfl, rfl, rfl, rfl, rfl, rfl, rfl, rfl, rfl, rfl, rfl, rfl, rfl, rfl, rfl, rfl, rfl, rfl, rfl, rfl, rfl, rfl, rfl, rfl⟩)⟩
        rw [hb]
        have : plS mki msz (mpb mki mle mme) (mpt mki mle mel mme) mal mic mil mio mab mae 2 v0 (nI q') ↔ ∃ i, i < 12 ∧ mpb mki mle mme q' i ∧ mal (mpt mki mle mel mme q' i) = mal v0 := by simp [plS, cq]
        rw [this]
        constructor
        · rintro ⟨i, w1, w2⟩
          exact ⟨i, by omega, (mpb_r (by omega) hq4' cL2 i).mpr w1, by rw [mpt_r (by omega) hq4' cL2 w1]; exact w2⟩
        · rintro ⟨i, _, w1, w2⟩
          have w1 := (mpb_r (by omega) hq4' cL2 i).mp w1
          rw [mpt_r (by omega) hq4' cL2 w1] at w2
          exact ⟨i, w1, w2⟩
      · subst e
        have hq1 := o1 rfl
        have key : plS mki msz (mpb mki mle mme) (mpt mki mle mel mme) mal mic mil mio mab mae 1 v0 (nI q') ↔ mal q' = mal v0 := by simp [plS, cq]; exact eq_comm
        exact ⟨vp_in_nI (by omega) (by decide), hx, fun h => (hpost _ _ _ _ _ _ _ _ _ _ _ _ _ _ _ _ _ _ _ _ _ _ _ _ _ _ _ _ ⟨false, rfl, ⟨fun q => absurd q (by decide), fun q => absurd q (fun z => h (key.mp z))⟩, rfl, rfl, rfl, rfl, rfl, rfl, rfl, rfl, rfl, rfl, rfl, rfl, rfl, rfl, rfl, rfl, rfl, rfl, rfl, rfl, rfl, rfl, rfl, rfl, rfl, rfl, rfl⟩), fun h => (hpost _ _ _ _ _ _ _ _ _ _ _ _ _ _ _ _ _ _ _ _ _ _ _ _ _ _ _ _ ⟨true, rfl, ⟨fun _ => key.mpr h, fun _ => rfl⟩, rfl, rfl, rfl, rfl, rfl, rfl, rfl, rfl, rfl, rfl, rfl, rfl, rfl, rfl, rfl, rfl, rfl, rfl, rfl, rfl, rfl, rfl, rfl, rfl, rfl, rfl, rfl⟩)⟩
      · subst e
        have hq128 := o0 rfl
        have key : plS mki msz (mpb mki mle mme) (mpt mki mle mel mme) mal mic mil mio mab mae 0 v0 (nI q') ↔ bt (nI q') kd = true ∨ (mki v0 = 2 ∧ msz v0 - msz v0 / 1000 * 1000 = 0 ∧ ¬ nI q' ≤ 63) := by
          have h63 : ¬ nI q' ≤ 63 ↔ bt (nI q') 6 = true := by
            rw [b6_128 q' hq128, decide_eq_true_eq, show (63 : Int32) = nI 63 from rfl, nI_leI (by omega) (by omega)]; omega
          rw [h63]
          simp only [plS, ekd, nI_clamp (show kd < 2 ^ 31 by omega)]
          simp
          constructor
          · rintro (h | ⟨h1, h2, h3⟩)
            · exact Or.inl h
            · exact Or.inr ⟨h1, h3, h2⟩
          · rintro (h | ⟨h1, h2, h3⟩)
            · exact Or.inl h
            · exact Or.inr ⟨h1, h3, h2⟩
        rw [ekd, b_and1 _ (by omega), bI1]
        rw [ekd] at key
        refine ⟨fun h => (hpost _ _ _ _ _ _ _ _ _ _ _ _ _ _ _ _ _ _ _ _ _ _ _ _ _ _ _ _ ⟨true, rfl, ⟨fun _ => key.mpr (Or.inl h), fun _ => rfl⟩, rfl, rfl, rfl, rfl, rfl, rfl, rfl, rfl, rfl, rfl, rfl, rfl, rfl, rfl, rfl, rfl, rfl, rfl, rfl, rfl, rfl, rfl, rfl, rfl, rfl, rfl, rfl⟩), fun h => ⟨fun h2 => (hpost _ _ _ _ _ _ _ _ _ _ _ _ _ _ _ _ _ _ _ _ _ _ _ _ _ _ _ _ ⟨false, rfl, ⟨fun q => absurd q (by decide), fun q => absurd q (fun z => ?_)⟩, rfl, rfl, rfl, rfl, rfl, rfl, rfl, rfl, rfl, rfl, rfl, rfl, rfl, rfl, rfl, rfl, rfl, rfl, rfl, rfl, rfl, rfl, rfl, rfl, rfl, rfl, rfl⟩), fun h2 => (hpost _ _ _ _ _ _ _ _ _ _ _ _ _ _ _ _ _ _ _ _ _ _ _ _ _ _ _ _ ⟨true, rfl, ⟨fun _ => key.mpr (Or.inr (of_decide_eq_true (bI_ne.mp h2))), fun _ => rfl⟩, rfl, rfl, rfl, rfl, rfl, rfl, rfl, rfl, rfl, rfl, rfl, rfl, rfl, rfl, rfl, rfl, rfl, rfl, rfl, rfl, rfl, rfl, rfl, rfl, rfl, rfl, rfl⟩)⟩⟩
        rcases key.mp z with z | z
        · exact h z
        · exact absurd z (of_decide_eq_false (bI0.mp h2))
  exact main _ (fun _ _ _ _ _ _ _ _ _ _ _ _ _ _ _ _ _ _ _ _ _ _ _ _ _ _ _ _ h => h)
theorem c_Mo_plain (l : Launch) (D : va_G) (b : Nat → Nat) (cI cJ cZ : ClassId) (mki : Nat → Int32) (msz : Nat → Int64) (mle : Nat → Int32) (mel : Nat → Int32) (mme : Nat → Int32) (mal : Nat → Int32) (mic : Nat → Int32) (mil : Nat → Int32) (mio : Nat → Int32) (mab : Nat → Int32) (mae : Nat → Int32) (msa : Nat → Int32) (mlc : Nat → Int32) (mli : Nat → Int32) (mna : Nat → Int32) (mva : Nat → Int32) (mma : Nat → Int32) (mch : Nat → Int32) (mre : Nat → Int32) (mlv : Nat → Int32) (mwr : Nat → Int64) (msh : Nat → Int32) (mth : Int32) (mnv : Int32) (mns : Int32) (mfa : Int32) (mmo : Int32) (x : Int32) (y : Int32) (w : Int32) (hpre : (∃ n0 k0 q0 v0 : Nat, k0 < 17 ∧ v0 < n0 ∧ x = nI v0 ∧ y = nI k0 ∧ w = nI q0 ∧ (¬ w < 0 ∧ okk mki msz n0 k0 w ∧ q0 < 2 ^ 31) ∧ MVOK mki msz mle mel mme n0 ∧ POK mic mio)) : Wm (S := Bool) l y_Mo_plain b_Mo_plain 9 (some .boolean) 2 56 [.ref (b 0), .int x, .int y, .int w] D (tyA cI cJ cZ) (wM b cI cJ cZ mki msz mle mel mme mal mic mil mio mab mae msa mlc mli mna mva mma mch mre mlv mwr msh mth mnv mns mfa mmo) (fun uu => (uu = true ↔ plS mki msz (mpb mki mle mme) (mpt mki mle mel mme) mal mic mil mio mab mae y.toNatClampNeg x.toNatClampNeg w)) (fun uu => some (.int (bI uu))) (fun uu => (wM b cI cJ cZ mki msz mle mel mme mal mic mil mio mab mae msa mlc mli mna mva mma mch mre mlv mwr msh mth mnv mns mfa mmo)) :=
  wm_i (by decide) (fun _ _ => bI_nar _) (Nat.le_of_ble_eq_true rfl) (fun p e s m below meth c ls Q A S hK hP hD hA hS hl hret => g_Mo_plain S (Nat.le_refl _) (Nat.le_refl _) ⟨Nat.le_refl _, Nat.le_refl _⟩ D b cI cJ cZ mki msz mle mel mme mal mic mil mio mab mae msa mlc mli mna mva mma mch mre mlv mwr msh mth mnv mns mfa mmo x y w hK hP hD hA hS hl (v_Mo_plain mki msz mle mel mme mal mic mil mio mab mae msa mlc mli mna mva mma mch mre mlv mwr msh mth mnv mns mfa mmo x y w hpre) (fun v mki' msz' mle' mel' mme' mal' mic' mil' mio' mab' mae' msa' mlc' mli' mna' mva' mma' mch' mre' mlv' mwr' msh' mth' mnv' mns' mfa' mmo' ls1 pc H1 locs1 hd hv hP1 hD1 hS1 => by obtain ⟨rr, rfl, hp, rfl, rfl, rfl, rfl, rfl, rfl, rfl, rfl, rfl, rfl, rfl, rfl, rfl, rfl, rfl, rfl, rfl, rfl, rfl, rfl, rfl, rfl, rfl, rfl, rfl, rfl, rfl⟩ := hv; exact hret rr _ ls1 pc H1 locs1 hd hp rfl hP1 hD1 hS1))
theorem hd_Mo_plain : y_Mo_plain.cls ≠ "java/lang/invoke/MethodHandle" ∧ y_Mo_plain.cls ≠ "java/lang/invoke/VarHandle" ∧ (parseMethodDescriptor y_Mo_plain.desc).map (fun d => d.parameters.length) = some 3 := ⟨by decide, by decide, by decide +kernel⟩
