def V_Mo_leading (mki : Nat → Int32) (msz : Nat → Int64) (mle : Nat → Int32) (mel : Nat → Int32) (mme : Nat → Int32) (mal : Nat → Int32) (mic : Nat → Int32) (mil : Nat → Int32) (mio : Nat → Int32) (mab : Nat → Int32) (mae : Nat → Int32) (msa : Nat → Int32) (mlc : Nat → Int32) (mli : Nat → Int32) (mna : Nat → Int32) (mva : Nat → Int32) (mma : Nat → Int32) (mch : Nat → Int32) (mre : Nat → Int32) (mlv : Nat → Int32) (mwr : Nat → Int64) (msh : Nat → Int32) (mth : Int32) (mnv : Int32) (mns : Int32) (mfa : Int32) (mmo : Int32) (x : Int32) (y : Int32) (k : Int32) (w : Int32) (post : Int32 → (Nat → Int32) → (Nat → Int64) → (Nat → Int32) → (Nat → Int32) → (Nat → Int32) → (Nat → Int32) → (Nat → Int32) → (Nat → Int32) → (Nat → Int32) → (Nat → Int32) → (Nat → Int32) → (Nat → Int32) → (Nat → Int32) → (Nat → Int32) → (Nat → Int32) → (Nat → Int32) → (Nat → Int32) → (Nat → Int32) → (Nat → Int32) → (Nat → Int32) → (Nat → Int64) → (Nat → Int32) → Int32 → Int32 → Int32 → Int32 → Int32 → Prop) : Prop :=
  (((k = 17) → ((vp_in (40 * w + y) 960 ∧ (mva (40 * w + y : Int32).toNatClampNeg = 0 ∨ mva (40 * w + y : Int32).toNatClampNeg = 1)) ∧ ((¬ (bI (decide (¬ mva (40 * w + y : Int32).toNatClampNeg = 0))) = 0 → post 0 mki msz mle mel mme mal mic mil mio mab mae msa mlc mli mna mva mma mch mre mlv mwr msh mth mnv mns mfa mmo) ∧ ((bI (decide (¬ mva (40 * w + y : Int32).toNatClampNeg = 0))) = 0 → post 1 mki msz mle mel mme mal mic mil mio mab mae msa mlc mli mna mva mma mch mre mlv mwr msh mth mnv mns mfa mmo)))) ∧ ((k = 19 ∨ k = 20) → ((∃ n0 m0 s0 v0 : Nat, mnv = nI n0 ∧ mns = nI m0 ∧ MSOK mki msz mle mel mme mic mio msa mlc mli mna mva n0 m0 ∧ (s0 < m0 ∧ v0 < n0 ∧ x = nI s0 ∧ y = nI v0) ∧ ∃ k0 : Nat, k0 < 36 ∧ k = nI k0) ∧ (∀ (t1 : Bool), ((∀ G : Sp, G = gM mki msz mle mel mme mal mic mil mio mab mae msa mlc mli mna mva mma mnv.toNatClampNeg → (t1 = true ↔ trn G x.toNatClampNeg y.toNatClampNeg k.toNatClampNeg))) → (((bI t1) = 0 → post 1 mki msz mle mel mme mal mic mil mio mab mae msa mlc mli mna mva mma mch mre mlv mwr msh mth mnv mns mfa mmo) ∧ (¬ (bI t1) = 0 → ((vp_in (40 * w + y) 960 ∧ (mva (40 * w + y : Int32).toNatClampNeg = 0 ∨ mva (40 * w + y : Int32).toNatClampNeg = 1)) ∧ (((bI (decide (¬ mva (40 * w + y : Int32).toNatClampNeg = 0))) = 0 → post 0 mki msz mle mel mme mal mic mil mio mab mae msa mlc mli mna mva mma mch mre mlv mwr msh mth mnv mns mfa mmo) ∧ (¬ (bI (decide (¬ mva (40 * w + y : Int32).toNatClampNeg = 0))) = 0 → post 1 mki msz mle mel mme mal mic mil mio mab mae msa mlc mli mna mva mma mch mre mlv mwr msh mth mnv mns mfa mmo)))))))) ∧ ((k = 21) → ((vp_in (40 * w + y) 960 ∧ (mva (40 * w + y : Int32).toNatClampNeg = 0 ∨ mva (40 * w + y : Int32).toNatClampNeg = 1)) ∧ post (bI (decide (¬ mva (40 * w + y : Int32).toNatClampNeg = 0))) mki msz mle mel mme mal mic mil mio mab mae msa mlc mli mna mva mma mch mre mlv mwr msh mth mnv mns mfa mmo)) ∧ ((k = 22) → (vp_in y 40 ∧ ((¬ (mki y.toNatClampNeg) = 4 → post 1 mki msz mle mel mme mal mic mil mio mab mae msa mlc mli mna mva mma mch mre mlv mwr msh mth mnv mns mfa mmo) ∧ ((mki y.toNatClampNeg) = 4 → (vp_in (4 * x + 32 - 29) 96 ∧ ((∃ n0 m0 s0 v0 : Nat, mnv = nI n0 ∧ mns = nI m0 ∧ MSOK mki msz mle mel mme mic mio msa mlc mli mna mva n0 m0 ∧ s0 < m0 ∧ v0 < n0 ∧ w = nI s0 ∧ y = nI v0) ∧ (∀ (t2 : Bool), ((t2 = true ↔ ∀ i, i < (mle y.toNatClampNeg).toNatClampNeg → bt ((-1) <<< ((mlc (4 * x + 32 - 29 : Int32).toNatClampNeg) &&& 31)) i = true → ¬ mva (40 * w.toNatClampNeg + (mel (8 * y.toNatClampNeg + i)).toNatClampNeg) = 0)) → (((bI t2) = 0 → post 0 mki msz mle mel mme mal mic mil mio mab mae msa mlc mli mna mva mma mch mre mlv mwr msh mth mnv mns mfa mmo) ∧ (¬ (bI t2) = 0 → post 1 mki msz mle mel mme mal mic mil mio mab mae msa mlc mli mna mva mma mch mre mlv mwr msh mth mnv mns mfa mmo))))))))) ∧ ((k = 23) → (vp_in y 40 ∧ ((¬ (mki y.toNatClampNeg) = 4 → post 1 mki msz mle mel mme mal mic mil mio mab mae msa mlc mli mna mva mma mch mre mlv mwr msh mth mnv mns mfa mmo) ∧ ((mki y.toNatClampNeg) = 4 → ((∃ n0 m0 s0 v0 : Nat, mnv = nI n0 ∧ mns = nI m0 ∧ MSOK mki msz mle mel mme mic mio msa mlc mli mna mva n0 m0 ∧ (s0 < m0 ∧ v0 < n0 ∧ x = nI s0 ∧ y = nI v0) ∧ ¬ msa (s0 * 29 + 23) < 0) ∧ (∀ (x3 : Int32), ((∀ G : Sp, G = gM mki msz mle mel mme mal mic mil mio mab mae msa mlc mli mna mva mma mnv.toNatClampNeg → mki y.toNatClampNeg = 4 → ∀ i, i < 32 → (bt x3 i = true ↔ MrkCo G x.toNatClampNeg y.toNatClampNeg i))) → (∀ (x4 : Int32), (x4 = nI (cN (fun k => bt x3 k = true) 12)) → (vp_in (29 * x + 24) 696 ∧ (∃ J5 : Int32 → Prop, ((0 ≤ (msa (29 * x + 24 : Int32).toNatClampNeg) → (vp_in (29 * x + 24) 696 ∧ J5 (msa (29 * x + 24 : Int32).toNatClampNeg))) ∧ (¬ 0 ≤ (msa (29 * x + 24 : Int32).toNatClampNeg) → J5 1)) ∧ (∀ (x6 : Int32), J5 x6 → ((x4 < x6 → post 0 mki msz mle mel mme mal mic mil mio mab mae msa mlc mli mna mva mma mch mre mlv mwr msh mth mnv mns mfa mmo) ∧ (¬ x4 < x6 → post 1 mki msz mle mel mme mal mic mil mio mab mae msa mlc mli mna mva mma mch mre mlv mwr msh mth mnv mns mfa mmo)))))))))))) ∧ ((k = 25) → (vp_in y 40 ∧ ((¬ (mki y.toNatClampNeg) = 4 → post 1 mki msz mle mel mme mal mic mil mio mab mae msa mlc mli mna mva mma mch mre mlv mwr msh mth mnv mns mfa mmo) ∧ ((mki y.toNatClampNeg) = 4 → (vp_in (29 * x + 23) 696 ∧ (((msa (29 * x + 23 : Int32).toNatClampNeg) < 0 → post 1 mki msz mle mel mme mal mic mil mio mab mae msa mlc mli mna mva mma mch mre mlv mwr msh mth mnv mns mfa mmo) ∧ (¬ (msa (29 * x + 23 : Int32).toNatClampNeg) < 0 → ((∃ n0 m0 s0 v0 : Nat, mnv = nI n0 ∧ mns = nI m0 ∧ MSOK mki msz mle mel mme mic mio msa mlc mli mna mva n0 m0 ∧ (s0 < m0 ∧ v0 < n0 ∧ x = nI s0 ∧ y = nI v0) ∧ ¬ msa (s0 * 29 + 23) < 0) ∧ (∀ (x7 : Int32), ((∀ G : Sp, G = gM mki msz mle mel mme mal mic mil mio mab mae msa mlc mli mna mva mma mnv.toNatClampNeg → mki y.toNatClampNeg = 4 → ∀ i, i < 32 → (bt x7 i = true ↔ MrkCo G x.toNatClampNeg y.toNatClampNeg i))) → (∀ (x8 : Int32), (x8 = nI (cN (fun k => bt x7 k = true) 12)) → ((w < x8 → post 0 mki msz mle mel mme mal mic mil mio mab mae msa mlc mli mna mva mma mch mre mlv mwr msh mth mnv mns mfa mmo) ∧ (¬ w < x8 → post 1 mki msz mle mel mme mal mic mil mio mab mae msa mlc mli mna mva mma mch mre mlv mwr msh mth mnv mns mfa mmo)))))))))))) ∧ ((k = 26) → (vp_in y 40 ∧ ((¬ (mki y.toNatClampNeg) = 5 → post 1 mki msz mle mel mme mal mic mil mio mab mae msa mlc mli mna mva mma mch mre mlv mwr msh mth mnv mns mfa mmo) ∧ ((mki y.toNatClampNeg) = 5 → ((∃ n0 m0 s0 v0 : Nat, mnv = nI n0 ∧ mns = nI m0 ∧ MSOK mki msz mle mel mme mic mio msa mlc mli mna mva n0 m0 ∧ s0 < m0 ∧ v0 < n0 ∧ x = nI s0 ∧ y = nI v0) ∧ (∀ (x9 : Int32), ((∀ i, i < 32 → (bt x9 i = true ↔ i < 12 ∧ mki y.toNatClampNeg = 5 ∧ ¬ mme (12 * y.toNatClampNeg + i) < 0 ∧ mna ((x.toNatClampNeg * 3 + 0) * 12 + i) < 0))) → ((∃ n0 m0 s0 v0 : Nat, mnv = nI n0 ∧ mns = nI m0 ∧ MSOK mki msz mle mel mme mic mio msa mlc mli mna mva n0 m0 ∧ s0 < m0 ∧ v0 < n0 ∧ w = nI s0 ∧ y = nI v0) ∧ (∀ (t10 : Bool), ((t10 = true ↔ ∀ i, i < 12 → bt x9 i = true → mki y.toNatClampNeg = 5 → ¬ mme (12 * y.toNatClampNeg + i) < 0 → ¬ mva (40 * w.toNatClampNeg + (mme (12 * y.toNatClampNeg + i)).toNatClampNeg) = 0)) → (((bI t10) = 0 → post 0 mki msz mle mel mme mal mic mil mio mab mae msa mlc mli mna mva mma mch mre mlv mwr msh mth mnv mns mfa mmo) ∧ (¬ (bI t10) = 0 → post 1 mki msz mle mel mme mal mic mil mio mab mae msa mlc mli mna mva mma mch mre mlv mwr msh mth mnv mns mfa mmo)))))))))) ∧ ((k = 27) → (vp_in y 40 ∧ ((¬ (mki y.toNatClampNeg) = 5 → post 1 mki msz mle mel mme mal mic mil mio mab mae msa mlc mli mna mva mma mch mre mlv mwr msh mth mnv mns mfa mmo) ∧ ((mki y.toNatClampNeg) = 5 → ((∃ n0 m0 s0 v0 : Nat, mnv = nI n0 ∧ mns = nI m0 ∧ MSOK mki msz mle mel mme mic mio msa mlc mli mna mva n0 m0 ∧ s0 < m0 ∧ v0 < n0 ∧ x = nI s0 ∧ y = nI v0) ∧ (∀ (x11 : Int32), ((∀ G : Sp, G = gM mki msz mle mel mme mal mic mil mio mab mae msa mlc mli mna mva mma mnv.toNatClampNeg → ∀ i, i < 32 → (bt x11 i = true ↔ Mrk0 G x.toNatClampNeg y.toNatClampNeg i))) → ((∃ n0 m0 s0 v0 : Nat, mnv = nI n0 ∧ mns = nI m0 ∧ MSOK mki msz mle mel mme mic mio msa mlc mli mna mva n0 m0 ∧ s0 < m0 ∧ v0 < n0 ∧ w = nI s0 ∧ y = nI v0) ∧ (∀ (t12 : Bool), ((t12 = true ↔ ∀ i, i < 12 → bt (x11 ^^^ (-1)) i = true → mki y.toNatClampNeg = 5 → ¬ mme (12 * y.toNatClampNeg + i) < 0 → ¬ mva (40 * w.toNatClampNeg + (mme (12 * y.toNatClampNeg + i)).toNatClampNeg) = 0)) → (((bI t12) = 0 → post 0 mki msz mle mel mme mal mic mil mio mab mae msa mlc mli mna mva mma mch mre mlv mwr msh mth mnv mns mfa mmo) ∧ (¬ (bI t12) = 0 → post 1 mki msz mle mel mme mal mic mil mio mab mae msa mlc mli mna mva mma mch mre mlv mwr msh mth mnv mns mfa mmo)))))))))) ∧ ((k = 28) → (vp_in y 40 ∧ ((¬ (mki y.toNatClampNeg) = 4 → post 1 mki msz mle mel mme mal mic mil mio mab mae msa mlc mli mna mva mma mch mre mlv mwr msh mth mnv mns mfa mmo) ∧ ((mki y.toNatClampNeg) = 4 → ((∃ n0 m0 s0 v0 : Nat, mnv = nI n0 ∧ mns = nI m0 ∧ MSOK mki msz mle mel mme mic mio msa mlc mli mna mva n0 m0 ∧ s0 < m0 ∧ v0 < n0 ∧ x = nI s0 ∧ y = nI v0) ∧ (∀ (x13 : Int32), ((∀ G : Sp, G = gM mki msz mle mel mme mal mic mil mio mab mae msa mlc mli mna mva mma mnv.toNatClampNeg → ∀ i, i < 32 → (bt x13 i = true ↔ Mrk0 G x.toNatClampNeg y.toNatClampNeg i))) → ((∃ n0 m0 s0 v0 : Nat, mnv = nI n0 ∧ mns = nI m0 ∧ MSOK mki msz mle mel mme mic mio msa mlc mli mna mva n0 m0 ∧ s0 < m0 ∧ v0 < n0 ∧ w = nI s0 ∧ y = nI v0) ∧ (∀ (t14 : Bool), ((t14 = true ↔ ∀ i, i < (mle y.toNatClampNeg).toNatClampNeg → bt (x13 ^^^ (-1)) i = true → ¬ mva (40 * w.toNatClampNeg + (mel (8 * y.toNatClampNeg + i)).toNatClampNeg) = 0)) → (((bI t14) = 0 → post 0 mki msz mle mel mme mal mic mil mio mab mae msa mlc mli mna mva mma mch mre mlv mwr msh mth mnv mns mfa mmo) ∧ (¬ (bI t14) = 0 → post 1 mki msz mle mel mme mal mic mil mio mab mae msa mlc mli mna mva mma mch mre mlv mwr msh mth mnv mns mfa mmo)))))))))) ∧ (((k.toInt < 17 ∨ 28 < k.toInt) ∨ k = 18 ∨ k = 24) → post 1 mki msz mle mel mme mal mic mil mio mab mae msa mlc mli mna mva mma mch mre mlv mwr msh mth mnv mns mfa mmo))
set_option maxHeartbeats 4000000 in
set_option maxRecDepth 100000 in
theorem g_Mo_leading {p : Program} {l : Launch} {e : Env} {R : Room} {s : State} {m : MethodId} {args : Array Value} {below : List Frame} {meth : Method} {c : Code} {H : Heap} {locs : List Loc} {cells slots : Nat} {Q : State → Prop} {ls : Array Slot} {A : Nat → Prop} (S : CallFix p m c b_Mo_leading 5 s args W0 R_Mo) (hRf : 4 ≤ R.frames) (hRl : 95 ≤ R.locals) (hRc : cells ≤ R.cells ∧ slots ≤ R.slots) (D : va_G) (b : Nat → Nat) (cI cJ cZ : ClassId) (mki : Nat → Int32) (msz : Nat → Int64) (mle : Nat → Int32) (mel : Nat → Int32) (mme : Nat → Int32) (mal : Nat → Int32) (mic : Nat → Int32) (mil : Nat → Int32) (mio : Nat → Int32) (mab : Nat → Int32) (mae : Nat → Int32) (msa : Nat → Int32) (mlc : Nat → Int32) (mli : Nat → Int32) (mna : Nat → Int32) (mva : Nat → Int32) (mma : Nat → Int32) (mch : Nat → Int32) (mre : Nat → Int32) (mlv : Nat → Int32) (mwr : Nat → Int64) (msh : Nat → Int32) (mth : Int32) (mnv : Int32) (mns : Int32) (mfa : Int32) (mmo : Int32) (x : Int32) (y : Int32) (k : Int32) (w : Int32) (hK : va_K D vwCl (tyA cI cJ cZ) s) (hP : va_P D vwCl (wM b cI cJ cZ mki msz mle mel mme mal mic mil mio mab mae msa mlc mli mna mva mma mch mre mlv mwr msh mth mnv mns mfa mmo) H) (hD : va_D A (wM b cI cJ cZ mki msz mle mel mme mal mic mil mio mab mae msa mlc mli mna mva mma mch mre mlv mwr msh mth mnv mns mfa mmo)) (hA : ∀ q, s.heap.size ≤ q → A q) (hS : va_S A s.heap H locs) (hl : lv_has ls 5 [(0, .ref (b 0)), (1, .int x), (2, .int y), (3, .int k), (4, .int w)]) {post : Int32 → (Nat → Int32) → (Nat → Int64) → (Nat → Int32) → (Nat → Int32) → (Nat → Int32) → (Nat → Int32) → (Nat → Int32) → (Nat → Int32) → (Nat → Int32) → (Nat → Int32) → (Nat → Int32) → (Nat → Int32) → (Nat → Int32) → (Nat → Int32) → (Nat → Int32) → (Nat → Int32) → (Nat → Int32) → (Nat → Int32) → (Nat → Int32) → (Nat → Int32) → (Nat → Int64) → (Nat → Int32) → Int32 → Int32 → Int32 → Int32 → Int32 → Prop} (vc : V_Mo_leading mki msz mle mel mme mal mic mil mio mab mae msa mlc mli mna mva mma mch mre mlv mwr msh mth mnv mns mfa mmo x y k w post)
    (hret : ∀ (v : Int32) (mki : Nat → Int32) (msz : Nat → Int64) (mle : Nat → Int32) (mel : Nat → Int32) (mme : Nat → Int32) (mal : Nat → Int32) (mic : Nat → Int32) (mil : Nat → Int32) (mio : Nat → Int32) (mab : Nat → Int32) (mae : Nat → Int32) (msa : Nat → Int32) (mlc : Nat → Int32) (mli : Nat → Int32) (mna : Nat → Int32) (mva : Nat → Int32) (mma : Nat → Int32) (mch : Nat → Int32) (mre : Nat → Int32) (mlv : Nat → Int32) (mwr : Nat → Int64) (msh : Nat → Int32) (mth : Int32) (mnv : Int32) (mns : Int32) (mfa : Int32) (mmo : Int32) (ls : Array Slot) (pc : Nat) (H : Heap) (locs : List Loc), decode b_Mo_leading pc = .ok (.ireturn, 1) → post v mki msz mle mel mme mal mic mil mio mab mae msa mlc mli mna mva mma mch mre mlv mwr msh mth mnv mns mfa mmo → va_P D vwCl (wM b cI cJ cZ mki msz mle mel mme mal mic mil mio mab mae msa mlc mli mna mva mma mch mre mlv mwr msh mth mnv mns mfa mmo) H → va_D A (wM b cI cJ cZ mki msz mle mel mme mal mic mil mio mab mae msa mlc mli mna mva mma mch mre mlv mwr msh mth mnv mns mfa mmo) → va_S A s.heap H locs → W p l e R s m args below meth c H locs cells slots Q (F0 m pc ls [.int v])) : W p l e R s m args below meth c H locs cells slots Q (F0 m 0 ls []) := by
  have hx := S.1
  have hb := S.2.1
  have hown := S.2.2.2.1
  have hts := S.2.2.2.2
  unfold V_Mo_leading at vc
  refine lv_iload_n hx hb d_Mo_leading_0 rfl (lv_at hl 3 rfl) ?_
  refine lv_topi (fun xs es => ?_)
  have a64 : (k = 17) → W p l e R s m args below meth c H locs cells slots Q (F0 m 64 ls []) := by
    intro h
    have vc := vc.1 h
    refine lv_aload_n hx hb d_Mo_leading_64 rfl (lv_at hl 0 rfl) ?_
    refine lv_iload hx hb d_Mo_leading_65 (lv_at hl 4 rfl) ?_
    refine lv_iload_n hx hb d_Mo_leading_67 rfl (lv_at hl 2 rfl) ?_
    obtain ⟨hpre, vc⟩ := vc
    refine pc_V (As := [.int w, .int y]) (rest := []) S (c_Mo_isValid l D b cI cJ cZ mki msz mle mel mme mal mic mil mio mab mae msa mlc mli mna mva mma mch mre mlv mwr msh mth mnv mns mfa mmo w y hpre) wB_blind k_Mo_isValid i_Mo_isValid e_Mo_isValid o_Mo ml_Mo_193 hd_Mo_isValid (Nat.le_trans (by decide) hRf) (Nat.le_trans (by decide) hRl) hRc (va_recv hK hP (q0 := 0) (ci := 6) rfl rfl) (wB_at hP hK) hl.1 rfl (Nat.le_of_ble_eq_true rfl) d_Mo_leading_68 ?_
    refine lv_if_ne (tgt := 78) hx hb d_Mo_leading_71 (by decide) (fun h => ?_) (fun h => ?_)
    · have vc := vc.1 h
      refine lv_iconst (v := 0) hx hb d_Mo_leading_78 (by decide) ?_
      exact hret _ _ _ _ _ _ _ _ _ _ _ _ _ _ _ _ _ _ _ _ _ _ _ _ _ _ _ _ ls _ H locs d_Mo_leading_79 vc hP hD hS
    · have vc := vc.2 h
      refine lv_iconst (v := 1) hx hb d_Mo_leading_74 (by decide) ?_
      refine lv_goto (tgt := 79) hx hb d_Mo_leading_75 (by decide) ?_
      exact hret _ _ _ _ _ _ _ _ _ _ _ _ _ _ _ _ _ _ _ _ _ _ _ _ _ _ _ _ ls _ H locs d_Mo_leading_79 vc hP hD hS
  have a80 : (k = 19 ∨ k = 20) → W p l e R s m args below meth c H locs cells slots Q (F0 m 80 ls []) := by
    intro h
    have vc := vc.2.1 h
    refine lv_aload_n hx hb d_Mo_leading_80 rfl (lv_at hl 0 rfl) ?_
    refine lv_iload_n hx hb d_Mo_leading_81 rfl (lv_at hl 1 rfl) ?_
    refine lv_iload_n hx hb d_Mo_leading_82 rfl (lv_at hl 2 rfl) ?_
    refine lv_iload_n hx hb d_Mo_leading_83 rfl (lv_at hl 3 rfl) ?_
    obtain ⟨hpre, vc⟩ := vc
    refine wc_V (As := [.int x, .int y, .int k]) (rest := []) (wr := ([] : va_W)) S (c_Mo_turns l D b cI cJ cZ mki msz mle mel mme mal mic mil mio mab mae msa mlc mli mna mva mma mch mre mlv mwr msh mth mnv mns mfa mmo x y k hpre) k_Mo_turns i_Mo_turns e_Mo_turns o_Mo ml_Mo_205 hd_Mo_turns (Nat.le_trans (by decide) hRf) (Nat.le_trans (by decide) hRl) hRc (va_recv hK hP (q0 := 0) (ci := 6) rfl rfl) hK hP hD hS hA [0, 1, 2, 3, 4, 5, 6, 7, 8, 9, 10, 11, 12, 13, 14, 15, 16, 17, 18, 19, 20, 21, 22] [] rfl rfl rfl (by decide) (by decide) (by decide) hl.1 rfl (Nat.le_of_ble_eq_true rfl) d_Mo_leading_84 (fun t1 H locs hu hP hD hS => ?_)
    have vc := vc t1 hu
    clear hu
    have hP : va_P D vwCl (wM b cI cJ cZ mki msz mle mel mme mal mic mil mio mab mae msa mlc mli mna mva mma mch mre mlv mwr msh mth mnv mns mfa mmo) H := hP
    have hD : va_D A (wM b cI cJ cZ mki msz mle mel mme mal mic mil mio mab mae msa mlc mli mna mva mma mch mre mlv mwr msh mth mnv mns mfa mmo) := hD
    refine lv_if_eq (tgt := 100) hx hb d_Mo_leading_87 (by decide) (fun h => ?_) (fun h => ?_)
    · have vc := vc.1 h
      refine lv_iconst (v := 1) hx hb d_Mo_leading_100 (by decide) ?_
      refine lv_goto (tgt := 105) hx hb d_Mo_leading_101 (by decide) ?_
      exact hret _ _ _ _ _ _ _ _ _ _ _ _ _ _ _ _ _ _ _ _ _ _ _ _ _ _ _ _ ls _ H locs d_Mo_leading_105 vc hP hD hS
    · have vc := vc.2 h
      refine lv_aload_n hx hb d_Mo_leading_90 rfl (lv_at hl 0 rfl) ?_
      refine lv_iload hx hb d_Mo_leading_91 (lv_at hl 4 rfl) ?_
      refine lv_iload_n hx hb d_Mo_leading_93 rfl (lv_at hl 2 rfl) ?_
      obtain ⟨hpre, vc⟩ := vc
      refine pc_V (As := [.int w, .int y]) (rest := []) S (c_Mo_isValid l D b cI cJ cZ mki msz mle mel mme mal mic mil mio mab mae msa mlc mli mna mva mma mch mre mlv mwr msh mth mnv mns mfa mmo w y hpre) wB_blind k_Mo_isValid i_Mo_isValid e_Mo_isValid o_Mo ml_Mo_193 hd_Mo_isValid (Nat.le_trans (by decide) hRf) (Nat.le_trans (by decide) hRl) hRc (va_recv hK hP (q0 := 0) (ci := 6) rfl rfl) (wB_at hP hK) hl.1 rfl (Nat.le_of_ble_eq_true rfl) d_Mo_leading_94 ?_
      refine lv_if_eq (tgt := 104) hx hb d_Mo_leading_97 (by decide) (fun h => ?_) (fun h => ?_)
      · have vc := vc.1 h
        refine lv_iconst (v := 0) hx hb d_Mo_leading_104 (by decide) ?_
        exact hret _ _ _ _ _ _ _ _ _ _ _ _ _ _ _ _ _ _ _ _ _ _ _ _ _ _ _ _ ls _ H locs d_Mo_leading_105 vc hP hD hS
      · have vc := vc.2 h
        refine lv_iconst (v := 1) hx hb d_Mo_leading_100 (by decide) ?_
        refine lv_goto (tgt := 105) hx hb d_Mo_leading_101 (by decide) ?_
        exact hret _ _ _ _ _ _ _ _ _ _ _ _ _ _ _ _ _ _ _ _ _ _ _ _ _ _ _ _ ls _ H locs d_Mo_leading_105 vc hP hD hS
  have a106 : (k = 21) → W p l e R s m args below meth c H locs cells slots Q (F0 m 106 ls []) := by
    intro h
    have vc := vc.2.2.1 h
    refine lv_aload_n hx hb d_Mo_leading_106 rfl (lv_at hl 0 rfl) ?_
    refine lv_iload hx hb d_Mo_leading_107 (lv_at hl 4 rfl) ?_
    refine lv_iload_n hx hb d_Mo_leading_109 rfl (lv_at hl 2 rfl) ?_
    obtain ⟨hpre, vc⟩ := vc
    refine pc_V (As := [.int w, .int y]) (rest := []) S (c_Mo_isValid l D b cI cJ cZ mki msz mle mel mme mal mic mil mio mab mae msa mlc mli mna mva mma mch mre mlv mwr msh mth mnv mns mfa mmo w y hpre) wB_blind k_Mo_isValid i_Mo_isValid e_Mo_isValid o_Mo ml_Mo_193 hd_Mo_isValid (Nat.le_trans (by decide) hRf) (Nat.le_trans (by decide) hRl) hRc (va_recv hK hP (q0 := 0) (ci := 6) rfl rfl) (wB_at hP hK) hl.1 rfl (Nat.le_of_ble_eq_true rfl) d_Mo_leading_110 ?_
    exact hret _ _ _ _ _ _ _ _ _ _ _ _ _ _ _ _ _ _ _ _ _ _ _ _ _ _ _ _ ls _ H locs d_Mo_leading_113 vc hP hD hS
  have a114 : (k = 22) → W p l e R s m args below meth c H locs cells slots Q (F0 m 114 ls []) := by
    intro h
    have vc := vc.2.2.2.1 h
    refine lv_aload_n hx hb d_Mo_leading_114 rfl (lv_at hl 0 rfl) ?_
    refine va_get (D := D) (ci := 6) (v := .ref (b 1)) (C := R_Mo) (T := F_Mo) (N := 27) hx hb hts in_Mo hown hK hP 0 rfl rfl 2 (by decide) (hts _ fl_Mo_7) (fun _ h => h) rfl d_Mo_leading_115 ?_
    refine lv_iload_n hx hb d_Mo_leading_118 rfl (lv_at hl 2 rfl) ?_
    obtain ⟨vcb, vc⟩ := vc
    refine va_iald hx hb hK hP 1 0 rfl rfl vcb d_Mo_leading_119 ?_
    refine lv_iconst (v := 4) hx hb d_Mo_leading_120 (by decide) ?_
    refine lv_icmp_ne (tgt := 143) hx hb d_Mo_leading_121 (by decide) (fun h => ?_) (fun h => ?_)
    · have vc := vc.1 h
      refine lv_iconst (v := 1) hx hb d_Mo_leading_143 (by decide) ?_
      refine lv_goto (tgt := 148) hx hb d_Mo_leading_144 (by decide) ?_
      exact hret _ _ _ _ _ _ _ _ _ _ _ _ _ _ _ _ _ _ _ _ _ _ _ _ _ _ _ _ ls _ H locs d_Mo_leading_148 vc hP hD hS
    · have vc := vc.2 h
      refine lv_aload_n hx hb d_Mo_leading_124 rfl (lv_at hl 0 rfl) ?_
      refine lv_iload hx hb d_Mo_leading_125 (lv_at hl 4 rfl) ?_
      refine lv_iload_n hx hb d_Mo_leading_127 rfl (lv_at hl 2 rfl) ?_
      refine lv_iconst (v := (-1)) hx hb d_Mo_leading_128 (by decide) ?_
      refine lv_aload_n hx hb d_Mo_leading_129 rfl (lv_at hl 0 rfl) ?_
      refine lv_iload_n hx hb d_Mo_leading_130 rfl (lv_at hl 1 rfl) ?_
      refine lv_bipush (v := 32) hx hb d_Mo_leading_131 (by decide) ?_
      obtain ⟨hpre, vc⟩ := vc
      refine pc_V (As := [.int x, .int 32]) (rest := [.int (-1), .int y, .int w, .ref (b 0)]) S (c_Mo_many l D b cI cJ cZ mki msz mle mel mme mal mic mil mio mab mae msa mlc mli mna mva mma mch mre mlv mwr msh mth mnv mns mfa mmo x 32 hpre) wB_blind k_Mo_many i_Mo_many e_Mo_many o_Mo ml_Mo_148 hd_Mo_many (Nat.le_trans (by decide) hRf) (Nat.le_trans (by decide) hRl) hRc (va_recv hK hP (q0 := 0) (ci := 6) rfl rfl) (wB_at hP hK) hl.1 rfl (Nat.le_of_ble_eq_true rfl) d_Mo_leading_133 ?_
      refine lv_ishl hx hb d_Mo_leading_136 ?_
      obtain ⟨hpre, vc⟩ := vc
      refine wc_V (As := [.int w, .int y, .int ((-1) <<< ((mlc (4 * x + 32 - 29 : Int32).toNatClampNeg) &&& 31))]) (rest := []) (wr := ([] : va_W)) S (c_Mo_allElements l D b cI cJ cZ mki msz mle mel mme mal mic mil mio mab mae msa mlc mli mna mva mma mch mre mlv mwr msh mth mnv mns mfa mmo w y ((-1) <<< ((mlc (4 * x + 32 - 29 : Int32).toNatClampNeg) &&& 31)) hpre) k_Mo_allElements i_Mo_allElements e_Mo_allElements o_Mo ml_Mo_209 hd_Mo_allElements (Nat.le_trans (by decide) hRf) (Nat.le_trans (by decide) hRl) hRc (va_recv hK hP (q0 := 0) (ci := 6) rfl rfl) hK hP hD hS hA [0, 1, 2, 3, 4, 5, 6, 7, 8, 9, 10, 11, 12, 13, 14, 15, 16, 17, 18, 19, 20, 21, 22] [] rfl rfl rfl (by decide) (by decide) (by decide) hl.1 rfl (Nat.le_of_ble_eq_true rfl) d_Mo_leading_137 (fun t2 H locs hu hP hD hS => ?_)
      have vc := vc t2 hu
      clear hu
      have hP : va_P D vwCl (wM b cI cJ cZ mki msz mle mel mme mal mic mil mio mab mae msa mlc mli mna mva mma mch mre mlv mwr msh mth mnv mns mfa mmo) H := hP
      have hD : va_D A (wM b cI cJ cZ mki msz mle mel mme mal mic mil mio mab mae msa mlc mli mna mva mma mch mre mlv mwr msh mth mnv mns mfa mmo) := hD
      refine lv_if_eq (tgt := 147) hx hb d_Mo_leading_140 (by decide) (fun h => ?_) (fun h => ?_)
      · have vc := vc.1 h
        refine lv_iconst (v := 0) hx hb d_Mo_leading_147 (by decide) ?_
        exact hret _ _ _ _ _ _ _ _ _ _ _ _ _ _ _ _ _ _ _ _ _ _ _ _ _ _ _ _ ls _ H locs d_Mo_leading_148 vc hP hD hS
      · have vc := vc.2 h
        refine lv_iconst (v := 1) hx hb d_Mo_leading_143 (by decide) ?_
        refine lv_goto (tgt := 148) hx hb d_Mo_leading_144 (by decide) ?_
        exact hret _ _ _ _ _ _ _ _ _ _ _ _ _ _ _ _ _ _ _ _ _ _ _ _ _ _ _ _ ls _ H locs d_Mo_leading_148 vc hP hD hS
  have a149 : (k = 23) → W p l e R s m args below meth c H locs cells slots Q (F0 m 149 ls []) := by
    intro h
    have vc := vc.2.2.2.2.1 h
    refine lv_aload_n hx hb d_Mo_leading_149 rfl (lv_at hl 0 rfl) ?_
    refine va_get (D := D) (ci := 6) (v := .ref (b 1)) (C := R_Mo) (T := F_Mo) (N := 27) hx hb hts in_Mo hown hK hP 0 rfl rfl 2 (by decide) (hts _ fl_Mo_7) (fun _ h => h) rfl d_Mo_leading_150 ?_
    refine lv_iload_n hx hb d_Mo_leading_153 rfl (lv_at hl 2 rfl) ?_
    obtain ⟨vcb, vc⟩ := vc
    refine va_iald hx hb hK hP 1 0 rfl rfl vcb d_Mo_leading_154 ?_
    refine lv_iconst (v := 4) hx hb d_Mo_leading_155 (by decide) ?_
    refine lv_icmp_ne (tgt := 193) hx hb d_Mo_leading_156 (by decide) (fun h => ?_) (fun h => ?_)
    · have vc := vc.1 h
      refine lv_iconst (v := 1) hx hb d_Mo_leading_193 (by decide) ?_
      refine lv_goto (tgt := 198) hx hb d_Mo_leading_194 (by decide) ?_
      exact hret _ _ _ _ _ _ _ _ _ _ _ _ _ _ _ _ _ _ _ _ _ _ _ _ _ _ _ _ ls _ H locs d_Mo_leading_198 vc hP hD hS
    · have vc := vc.2 h
      refine lv_aload_n hx hb d_Mo_leading_159 rfl (lv_at hl 0 rfl) ?_
      refine lv_aload_n hx hb d_Mo_leading_160 rfl (lv_at hl 0 rfl) ?_
      refine lv_iload_n hx hb d_Mo_leading_161 rfl (lv_at hl 1 rfl) ?_
      refine lv_iload_n hx hb d_Mo_leading_162 rfl (lv_at hl 2 rfl) ?_
      obtain ⟨hpre, vc⟩ := vc
      refine wc_V (As := [.int x, .int y]) (rest := [.ref (b 0)]) (wr := ([] : va_W)) S (c_Mo_contained l D b cI cJ cZ mki msz mle mel mme mal mic mil mio mab mae msa mlc mli mna mva mma mch mre mlv mwr msh mth mnv mns mfa mmo x y hpre) k_Mo_contained i_Mo_contained e_Mo_contained o_Mo ml_Mo_196 hd_Mo_contained (Nat.le_trans (by decide) hRf) (Nat.le_trans (by decide) hRl) hRc (va_recv hK hP (q0 := 0) (ci := 6) rfl rfl) hK hP hD hS hA [0, 1, 2, 3, 4, 5, 6, 7, 8, 9, 10, 11, 12, 13, 14, 15, 16, 17, 18, 19, 20, 21, 22] [] rfl rfl rfl (by decide) (by decide) (by decide) hl.1 rfl (Nat.le_of_ble_eq_true rfl) d_Mo_leading_163 (fun x3 H locs hu hP hD hS => ?_)
      have vc := vc x3 hu
      clear hu
      have hP : va_P D vwCl (wM b cI cJ cZ mki msz mle mel mme mal mic mil mio mab mae msa mlc mli mna mva mma mch mre mlv mwr msh mth mnv mns mfa mmo) H := hP
      have hD : va_D A (wM b cI cJ cZ mki msz mle mel mme mal mic mil mio mab mae msa mlc mli mna mva mma mch mre mlv mwr msh mth mnv mns mfa mmo) := hD
      refine wc_V (As := [.int x3]) (rest := []) (wr := ([] : va_W)) S (c_Mo_countOf l D b cI cJ cZ mki msz mle mel mme mal mic mil mio mab mae msa mlc mli mna mva mma mch mre mlv mwr msh mth mnv mns mfa mmo x3) k_Mo_countOf i_Mo_countOf e_Mo_countOf o_Mo ml_Mo_190 hd_Mo_countOf (Nat.le_trans (by decide) hRf) (Nat.le_trans (by decide) hRl) hRc (va_recv hK hP (q0 := 0) (ci := 6) rfl rfl) hK hP hD hS hA [0, 1, 2, 3, 4, 5, 6, 7, 8, 9, 10, 11, 12, 13, 14, 15, 16, 17, 18, 19, 20, 21, 22] [] rfl rfl rfl (by decide) (by decide) (by decide) hl.1 rfl (Nat.le_of_ble_eq_true rfl) d_Mo_leading_166 (fun x4 H locs hu hP hD hS => ?_)
      have vc := vc x4 hu
      clear hu
      have hP : va_P D vwCl (wM b cI cJ cZ mki msz mle mel mme mal mic mil mio mab mae msa mlc mli mna mva mma mch mre mlv mwr msh mth mnv mns mfa mmo) H := hP
      have hD : va_D A (wM b cI cJ cZ mki msz mle mel mme mal mic mil mio mab mae msa mlc mli mna mva mma mch mre mlv mwr msh mth mnv mns mfa mmo) := hD
      refine lv_aload_n hx hb d_Mo_leading_169 rfl (lv_at hl 0 rfl) ?_
      refine lv_iload_n hx hb d_Mo_leading_170 rfl (lv_at hl 1 rfl) ?_
      refine lv_bipush (v := 24) hx hb d_Mo_leading_171 (by decide) ?_
      obtain ⟨hpre, vc⟩ := vc
      refine pc_V (As := [.int x, .int 24]) (rest := [.int x4]) S (c_Mo_said l D b cI cJ cZ mki msz mle mel mme mal mic mil mio mab mae msa mlc mli mna mva mma mch mre mlv mwr msh mth mnv mns mfa mmo x 24 hpre) wB_blind k_Mo_said i_Mo_said e_Mo_said o_Mo ml_Mo_141 hd_Mo_said (Nat.le_trans (by decide) hRf) (Nat.le_trans (by decide) hRl) hRc (va_recv hK hP (q0 := 0) (ci := 6) rfl rfl) (wB_at hP hK) hl.1 rfl (Nat.le_of_ble_eq_true rfl) d_Mo_leading_173 ?_
      obtain ⟨J5, vc, vc2⟩ := vc
      have jJ5 : ∀ (x6 : Int32) (ls : Array Slot) (H : Heap) (locs : List Loc), J5 x6 → lv_has ls 5 [(0, .ref (b 0)), (1, .int x), (2, .int y), (3, .int k), (4, .int w)] → va_P D vwCl (wM b cI cJ cZ mki msz mle mel mme mal mic mil mio mab mae msa mlc mli mna mva mma mch mre mlv mwr msh mth mnv mns mfa mmo) H → va_D A (wM b cI cJ cZ mki msz mle mel mme mal mic mil mio mab mae msa mlc mli mna mva mma mch mre mlv mwr msh mth mnv mns mfa mmo) → va_S A s.heap H locs → W p l e R s m args below meth c H locs cells slots Q (F0 m 190 ls [.int x6, .int x4]) := by
        intro x6 ls H locs vc hl hP hD hS
        have vc := vc2 x6 vc
        refine lv_icmp_lt (tgt := 197) hx hb d_Mo_leading_190 (by decide) (fun h => ?_) (fun h => ?_)
        · have vc := vc.1 h
          refine lv_iconst (v := 0) hx hb d_Mo_leading_197 (by decide) ?_
          exact hret _ _ _ _ _ _ _ _ _ _ _ _ _ _ _ _ _ _ _ _ _ _ _ _ _ _ _ _ ls _ H locs d_Mo_leading_198 vc hP hD hS
        · have vc := vc.2 h
          refine lv_iconst (v := 1) hx hb d_Mo_leading_193 (by decide) ?_
          refine lv_goto (tgt := 198) hx hb d_Mo_leading_194 (by decide) ?_
          exact hret _ _ _ _ _ _ _ _ _ _ _ _ _ _ _ _ _ _ _ _ _ _ _ _ _ _ _ _ ls _ H locs d_Mo_leading_198 vc hP hD hS
      clear vc2
      refine lv_if_ge (tgt := 183) hx hb d_Mo_leading_176 (by decide) (fun h => ?_) (fun h => ?_)
      · have vc := vc.1 h
        refine lv_aload_n hx hb d_Mo_leading_183 rfl (lv_at hl 0 rfl) ?_
        refine lv_iload_n hx hb d_Mo_leading_184 rfl (lv_at hl 1 rfl) ?_
        refine lv_bipush (v := 24) hx hb d_Mo_leading_185 (by decide) ?_
        obtain ⟨hpre, vc⟩ := vc
        refine pc_V (As := [.int x, .int 24]) (rest := [.int x4]) S (c_Mo_said l D b cI cJ cZ mki msz mle mel mme mal mic mil mio mab mae msa mlc mli mna mva mma mch mre mlv mwr msh mth mnv mns mfa mmo x 24 hpre) wB_blind k_Mo_said i_Mo_said e_Mo_said o_Mo ml_Mo_141 hd_Mo_said (Nat.le_trans (by decide) hRf) (Nat.le_trans (by decide) hRl) hRc (va_recv hK hP (q0 := 0) (ci := 6) rfl rfl) (wB_at hP hK) hl.1 rfl (Nat.le_of_ble_eq_true rfl) d_Mo_leading_187 ?_
        exact jJ5 (msa (29 * x + 24 : Int32).toNatClampNeg) ls H locs vc (lv_sub hl [0, 1, 2, 3, 4] rfl) hP hD hS
      · have vc := vc.2 h
        refine lv_iconst (v := 1) hx hb d_Mo_leading_179 (by decide) ?_
        refine lv_goto (tgt := 190) hx hb d_Mo_leading_180 (by decide) ?_
        exact jJ5 1 ls H locs vc (lv_sub hl [0, 1, 2, 3, 4] rfl) hP hD hS
  have a199 : (k = 25) → W p l e R s m args below meth c H locs cells slots Q (F0 m 199 ls []) := by
    intro h
    have vc := vc.2.2.2.2.2.1 h
    refine lv_aload_n hx hb d_Mo_leading_199 rfl (lv_at hl 0 rfl) ?_
    refine va_get (D := D) (ci := 6) (v := .ref (b 1)) (C := R_Mo) (T := F_Mo) (N := 27) hx hb hts in_Mo hown hK hP 0 rfl rfl 2 (by decide) (hts _ fl_Mo_7) (fun _ h => h) rfl d_Mo_leading_200 ?_
    refine lv_iload_n hx hb d_Mo_leading_203 rfl (lv_at hl 2 rfl) ?_
    obtain ⟨vcb, vc⟩ := vc
    refine va_iald hx hb hK hP 1 0 rfl rfl vcb d_Mo_leading_204 ?_
    refine lv_iconst (v := 4) hx hb d_Mo_leading_205 (by decide) ?_
    refine lv_icmp_ne (tgt := 234) hx hb d_Mo_leading_206 (by decide) (fun h => ?_) (fun h => ?_)
    · have vc := vc.1 h
      refine lv_iconst (v := 1) hx hb d_Mo_leading_234 (by decide) ?_
      refine lv_goto (tgt := 239) hx hb d_Mo_leading_235 (by decide) ?_
      exact hret _ _ _ _ _ _ _ _ _ _ _ _ _ _ _ _ _ _ _ _ _ _ _ _ _ _ _ _ ls _ H locs d_Mo_leading_239 vc hP hD hS
    · have vc := vc.2 h
      refine lv_aload_n hx hb d_Mo_leading_209 rfl (lv_at hl 0 rfl) ?_
      refine lv_iload_n hx hb d_Mo_leading_210 rfl (lv_at hl 1 rfl) ?_
      refine lv_bipush (v := 23) hx hb d_Mo_leading_211 (by decide) ?_
      obtain ⟨hpre, vc⟩ := vc
      refine pc_V (As := [.int x, .int 23]) (rest := []) S (c_Mo_said l D b cI cJ cZ mki msz mle mel mme mal mic mil mio mab mae msa mlc mli mna mva mma mch mre mlv mwr msh mth mnv mns mfa mmo x 23 hpre) wB_blind k_Mo_said i_Mo_said e_Mo_said o_Mo ml_Mo_141 hd_Mo_said (Nat.le_trans (by decide) hRf) (Nat.le_trans (by decide) hRl) hRc (va_recv hK hP (q0 := 0) (ci := 6) rfl rfl) (wB_at hP hK) hl.1 rfl (Nat.le_of_ble_eq_true rfl) d_Mo_leading_213 ?_
      refine lv_if_lt (tgt := 234) hx hb d_Mo_leading_216 (by decide) (fun h => ?_) (fun h => ?_)
      · have vc := vc.1 h
        refine lv_iconst (v := 1) hx hb d_Mo_leading_234 (by decide) ?_
        refine lv_goto (tgt := 239) hx hb d_Mo_leading_235 (by decide) ?_
        exact hret _ _ _ _ _ _ _ _ _ _ _ _ _ _ _ _ _ _ _ _ _ _ _ _ _ _ _ _ ls _ H locs d_Mo_leading_239 vc hP hD hS
      · have vc := vc.2 h
        refine lv_aload_n hx hb d_Mo_leading_219 rfl (lv_at hl 0 rfl) ?_
        refine lv_aload_n hx hb d_Mo_leading_220 rfl (lv_at hl 0 rfl) ?_
        refine lv_iload_n hx hb d_Mo_leading_221 rfl (lv_at hl 1 rfl) ?_
        refine lv_iload_n hx hb d_Mo_leading_222 rfl (lv_at hl 2 rfl) ?_
        obtain ⟨hpre, vc⟩ := vc
        refine wc_V (As := [.int x, .int y]) (rest := [.ref (b 0)]) (wr := ([] : va_W)) S (c_Mo_contained l D b cI cJ cZ mki msz mle mel mme mal mic mil mio mab mae msa mlc mli mna mva mma mch mre mlv mwr msh mth mnv mns mfa mmo x y hpre) k_Mo_contained i_Mo_contained e_Mo_contained o_Mo ml_Mo_196 hd_Mo_contained (Nat.le_trans (by decide) hRf) (Nat.le_trans (by decide) hRl) hRc (va_recv hK hP (q0 := 0) (ci := 6) rfl rfl) hK hP hD hS hA [0, 1, 2, 3, 4, 5, 6, 7, 8, 9, 10, 11, 12, 13, 14, 15, 16, 17, 18, 19, 20, 21, 22] [] rfl rfl rfl (by decide) (by decide) (by decide) hl.1 rfl (Nat.le_of_ble_eq_true rfl) d_Mo_leading_223 (fun x7 H locs hu hP hD hS => ?_)
        have vc := vc x7 hu
        clear hu
        have hP : va_P D vwCl (wM b cI cJ cZ mki msz mle mel mme mal mic mil mio mab mae msa mlc mli mna mva mma mch mre mlv mwr msh mth mnv mns mfa mmo) H := hP
        have hD : va_D A (wM b cI cJ cZ mki msz mle mel mme mal mic mil mio mab mae msa mlc mli mna mva mma mch mre mlv mwr msh mth mnv mns mfa mmo) := hD
        refine wc_V (As := [.int x7]) (rest := []) (wr := ([] : va_W)) S (c_Mo_countOf l D b cI cJ cZ mki msz mle mel mme mal mic mil mio mab mae msa mlc mli mna mva mma mch mre mlv mwr msh mth mnv mns mfa mmo x7) k_Mo_countOf i_Mo_countOf e_Mo_countOf o_Mo ml_Mo_190 hd_Mo_countOf (Nat.le_trans (by decide) hRf) (Nat.le_trans (by decide) hRl) hRc (va_recv hK hP (q0 := 0) (ci := 6) rfl rfl) hK hP hD hS hA [0, 1, 2, 3, 4, 5, 6, 7, 8, 9, 10, 11, 12, 13, 14, 15, 16, 17, 18, 19, 20, 21, 22] [] rfl rfl rfl (by decide) (by decide) (by decide) hl.1 rfl (Nat.le_of_ble_eq_true rfl) d_Mo_leading_226 (fun x8 H locs hu hP hD hS => ?_)
        have vc := vc x8 hu
        clear hu
        have hP : va_P D vwCl (wM b cI cJ cZ mki msz mle mel mme mal mic mil mio mab mae msa mlc mli mna mva mma mch mre mlv mwr msh mth mnv mns mfa mmo) H := hP
        have hD : va_D A (wM b cI cJ cZ mki msz mle mel mme mal mic mil mio mab mae msa mlc mli mna mva mma mch mre mlv mwr msh mth mnv mns mfa mmo) := hD
        refine lv_iload hx hb d_Mo_leading_229 (lv_at hl 4 rfl) ?_
        refine lv_icmp_gt (tgt := 238) hx hb d_Mo_leading_231 (by decide) (fun h => ?_) (fun h => ?_)
        · have vc := vc.1 h
          refine lv_iconst (v := 0) hx hb d_Mo_leading_238 (by decide) ?_
          exact hret _ _ _ _ _ _ _ _ _ _ _ _ _ _ _ _ _ _ _ _ _ _ _ _ _ _ _ _ ls _ H locs d_Mo_leading_239 vc hP hD hS
        · have vc := vc.2 h
          refine lv_iconst (v := 1) hx hb d_Mo_leading_234 (by decide) ?_
          refine lv_goto (tgt := 239) hx hb d_Mo_leading_235 (by decide) ?_
          exact hret _ _ _ _ _ _ _ _ _ _ _ _ _ _ _ _ _ _ _ _ _ _ _ _ _ _ _ _ ls _ H locs d_Mo_leading_239 vc hP hD hS
  have a240 : (k = 26) → W p l e R s m args below meth c H locs cells slots Q (F0 m 240 ls []) := by
    intro h
    have vc := vc.2.2.2.2.2.2.1 h
    refine lv_aload_n hx hb d_Mo_leading_240 rfl (lv_at hl 0 rfl) ?_
    refine va_get (D := D) (ci := 6) (v := .ref (b 1)) (C := R_Mo) (T := F_Mo) (N := 27) hx hb hts in_Mo hown hK hP 0 rfl rfl 2 (by decide) (hts _ fl_Mo_7) (fun _ h => h) rfl d_Mo_leading_241 ?_
    refine lv_iload_n hx hb d_Mo_leading_244 rfl (lv_at hl 2 rfl) ?_
    obtain ⟨vcb, vc⟩ := vc
    refine va_iald hx hb hK hP 1 0 rfl rfl vcb d_Mo_leading_245 ?_
    refine lv_iconst (v := 5) hx hb d_Mo_leading_246 (by decide) ?_
    refine lv_icmp_ne (tgt := 266) hx hb d_Mo_leading_247 (by decide) (fun h => ?_) (fun h => ?_)
    · have vc := vc.1 h
      refine lv_iconst (v := 1) hx hb d_Mo_leading_266 (by decide) ?_
      refine lv_goto (tgt := 271) hx hb d_Mo_leading_267 (by decide) ?_
      exact hret _ _ _ _ _ _ _ _ _ _ _ _ _ _ _ _ _ _ _ _ _ _ _ _ _ _ _ _ ls _ H locs d_Mo_leading_271 vc hP hD hS
    · have vc := vc.2 h
      refine lv_aload_n hx hb d_Mo_leading_250 rfl (lv_at hl 0 rfl) ?_
      refine lv_iload hx hb d_Mo_leading_251 (lv_at hl 4 rfl) ?_
      refine lv_iload_n hx hb d_Mo_leading_253 rfl (lv_at hl 2 rfl) ?_
      refine lv_aload_n hx hb d_Mo_leading_254 rfl (lv_at hl 0 rfl) ?_
      refine lv_iload_n hx hb d_Mo_leading_255 rfl (lv_at hl 1 rfl) ?_
      refine lv_iload_n hx hb d_Mo_leading_256 rfl (lv_at hl 2 rfl) ?_
      obtain ⟨hpre, vc⟩ := vc
      refine wc_V (As := [.int x, .int y]) (rest := [.int y, .int w, .ref (b 0)]) (wr := ([] : va_W)) S (c_Mo_additional l D b cI cJ cZ mki msz mle mel mme mal mic mil mio mab mae msa mlc mli mna mva mma mch mre mlv mwr msh mth mnv mns mfa mmo x y hpre) k_Mo_additional i_Mo_additional e_Mo_additional o_Mo ml_Mo_199 hd_Mo_additional (Nat.le_trans (by decide) hRf) (Nat.le_trans (by decide) hRl) hRc (va_recv hK hP (q0 := 0) (ci := 6) rfl rfl) hK hP hD hS hA [0, 1, 2, 3, 4, 5, 6, 7, 8, 9, 10, 11, 12, 13, 14, 15, 16, 17, 18, 19, 20, 21, 22] [] rfl rfl rfl (by decide) (by decide) (by decide) hl.1 rfl (Nat.le_of_ble_eq_true rfl) d_Mo_leading_257 (fun x9 H locs hu hP hD hS => ?_)
      have vc := vc x9 hu
      clear hu
      have hP : va_P D vwCl (wM b cI cJ cZ mki msz mle mel mme mal mic mil mio mab mae msa mlc mli mna mva mma mch mre mlv mwr msh mth mnv mns mfa mmo) H := hP
      have hD : va_D A (wM b cI cJ cZ mki msz mle mel mme mal mic mil mio mab mae msa mlc mli mna mva mma mch mre mlv mwr msh mth mnv mns mfa mmo) := hD
      obtain ⟨hpre, vc⟩ := vc
      refine wc_V (As := [.int w, .int y, .int x9]) (rest := []) (wr := ([] : va_W)) S (c_Mo_allMembers l D b cI cJ cZ mki msz mle mel mme mal mic mil mio mab mae msa mlc mli mna mva mma mch mre mlv mwr msh mth mnv mns mfa mmo w y x9 hpre) k_Mo_allMembers i_Mo_allMembers e_Mo_allMembers o_Mo ml_Mo_212 hd_Mo_allMembers (Nat.le_trans (by decide) hRf) (Nat.le_trans (by decide) hRl) hRc (va_recv hK hP (q0 := 0) (ci := 6) rfl rfl) hK hP hD hS hA [0, 1, 2, 3, 4, 5, 6, 7, 8, 9, 10, 11, 12, 13, 14, 15, 16, 17, 18, 19, 20, 21, 22] [] rfl rfl rfl (by decide) (by decide) (by decide) hl.1 rfl (Nat.le_of_ble_eq_true rfl) d_Mo_leading_260 (fun t10 H locs hu hP hD hS => ?_)
      have vc := vc t10 hu
      clear hu
      have hP : va_P D vwCl (wM b cI cJ cZ mki msz mle mel mme mal mic mil mio mab mae msa mlc mli mna mva mma mch mre mlv mwr msh mth mnv mns mfa mmo) H := hP
      have hD : va_D A (wM b cI cJ cZ mki msz mle mel mme mal mic mil mio mab mae msa mlc mli mna mva mma mch mre mlv mwr msh mth mnv mns mfa mmo) := hD
      refine lv_if_eq (tgt := 270) hx hb d_Mo_leading_263 (by decide) (fun h => ?_) (fun h => ?_)
      · have vc := vc.1 h
        refine lv_iconst (v := 0) hx hb d_Mo_leading_270 (by decide) ?_
        exact hret _ _ _ _ _ _ _ _ _ _ _ _ _ _ _ _ _ _ _ _ _ _ _ _ _ _ _ _ ls _ H locs d_Mo_leading_271 vc hP hD hS
      · have vc := vc.2 h
        refine lv_iconst (v := 1) hx hb d_Mo_leading_266 (by decide) ?_
        refine lv_goto (tgt := 271) hx hb d_Mo_leading_267 (by decide) ?_
        exact hret _ _ _ _ _ _ _ _ _ _ _ _ _ _ _ _ _ _ _ _ _ _ _ _ _ _ _ _ ls _ H locs d_Mo_leading_271 vc hP hD hS
  have a272 : (k = 27) → W p l e R s m args below meth c H locs cells slots Q (F0 m 272 ls []) := by
    intro h
    have vc := vc.2.2.2.2.2.2.2.1 h
    refine lv_aload_n hx hb d_Mo_leading_272 rfl (lv_at hl 0 rfl) ?_
    refine va_get (D := D) (ci := 6) (v := .ref (b 1)) (C := R_Mo) (T := F_Mo) (N := 27) hx hb hts in_Mo hown hK hP 0 rfl rfl 2 (by decide) (hts _ fl_Mo_7) (fun _ h => h) rfl d_Mo_leading_273 ?_
    refine lv_iload_n hx hb d_Mo_leading_276 rfl (lv_at hl 2 rfl) ?_
    obtain ⟨vcb, vc⟩ := vc
    refine va_iald hx hb hK hP 1 0 rfl rfl vcb d_Mo_leading_277 ?_
    refine lv_iconst (v := 5) hx hb d_Mo_leading_278 (by decide) ?_
    refine lv_icmp_ne (tgt := 300) hx hb d_Mo_leading_279 (by decide) (fun h => ?_) (fun h => ?_)
    · have vc := vc.1 h
      refine lv_iconst (v := 1) hx hb d_Mo_leading_300 (by decide) ?_
      refine lv_goto (tgt := 305) hx hb d_Mo_leading_301 (by decide) ?_
      exact hret _ _ _ _ _ _ _ _ _ _ _ _ _ _ _ _ _ _ _ _ _ _ _ _ _ _ _ _ ls _ H locs d_Mo_leading_305 vc hP hD hS
    · have vc := vc.2 h
      refine lv_aload_n hx hb d_Mo_leading_282 rfl (lv_at hl 0 rfl) ?_
      refine lv_iload hx hb d_Mo_leading_283 (lv_at hl 4 rfl) ?_
      refine lv_iload_n hx hb d_Mo_leading_285 rfl (lv_at hl 2 rfl) ?_
      refine lv_aload_n hx hb d_Mo_leading_286 rfl (lv_at hl 0 rfl) ?_
      refine lv_iload_n hx hb d_Mo_leading_287 rfl (lv_at hl 1 rfl) ?_
      refine lv_iload_n hx hb d_Mo_leading_288 rfl (lv_at hl 2 rfl) ?_
      obtain ⟨hpre, vc⟩ := vc
      refine wc_V (As := [.int x, .int y]) (rest := [.int y, .int w, .ref (b 0)]) (wr := ([] : va_W)) S (c_Mo_marksOf l D b cI cJ cZ mki msz mle mel mme mal mic mil mio mab mae msa mlc mli mna mva mma mch mre mlv mwr msh mth mnv mns mfa mmo x y hpre) k_Mo_marksOf i_Mo_marksOf e_Mo_marksOf o_Mo ml_Mo_215 hd_Mo_marksOf (Nat.le_trans (by decide) hRf) (Nat.le_trans (by decide) hRl) hRc (va_recv hK hP (q0 := 0) (ci := 6) rfl rfl) hK hP hD hS hA [0, 1, 2, 3, 4, 5, 6, 7, 8, 9, 10, 11, 12, 13, 14, 15, 16, 17, 18, 19, 20, 21, 22] [] rfl rfl rfl (by decide) (by decide) (by decide) hl.1 rfl (Nat.le_of_ble_eq_true rfl) d_Mo_leading_289 (fun x11 H locs hu hP hD hS => ?_)
      have vc := vc x11 hu
      clear hu
      have hP : va_P D vwCl (wM b cI cJ cZ mki msz mle mel mme mal mic mil mio mab mae msa mlc mli mna mva mma mch mre mlv mwr msh mth mnv mns mfa mmo) H := hP
      have hD : va_D A (wM b cI cJ cZ mki msz mle mel mme mal mic mil mio mab mae msa mlc mli mna mva mma mch mre mlv mwr msh mth mnv mns mfa mmo) := hD
      refine lv_iconst (v := (-1)) hx hb d_Mo_leading_292 (by decide) ?_
      refine lv_ixor hx hb d_Mo_leading_293 ?_
      obtain ⟨hpre, vc⟩ := vc
      refine wc_V (As := [.int w, .int y, .int (x11 ^^^ (-1))]) (rest := []) (wr := ([] : va_W)) S (c_Mo_allMembers l D b cI cJ cZ mki msz mle mel mme mal mic mil mio mab mae msa mlc mli mna mva mma mch mre mlv mwr msh mth mnv mns mfa mmo w y (x11 ^^^ (-1)) hpre) k_Mo_allMembers i_Mo_allMembers e_Mo_allMembers o_Mo ml_Mo_212 hd_Mo_allMembers (Nat.le_trans (by decide) hRf) (Nat.le_trans (by decide) hRl) hRc (va_recv hK hP (q0 := 0) (ci := 6) rfl rfl) hK hP hD hS hA [0, 1, 2, 3, 4, 5, 6, 7, 8, 9, 10, 11, 12, 13, 14, 15, 16, 17, 18, 19, 20, 21, 22] [] rfl rfl rfl (by decide) (by decide) (by decide) hl.1 rfl (Nat.le_of_ble_eq_true rfl) d_Mo_leading_294 (fun t12 H locs hu hP hD hS => ?_)
      have vc := vc t12 hu
      clear hu
      have hP : va_P D vwCl (wM b cI cJ cZ mki msz mle mel mme mal mic mil mio mab mae msa mlc mli mna mva mma mch mre mlv mwr msh mth mnv mns mfa mmo) H := hP
      have hD : va_D A (wM b cI cJ cZ mki msz mle mel mme mal mic mil mio mab mae msa mlc mli mna mva mma mch mre mlv mwr msh mth mnv mns mfa mmo) := hD
      refine lv_if_eq (tgt := 304) hx hb d_Mo_leading_297 (by decide) (fun h => ?_) (fun h => ?_)
      · have vc := vc.1 h
        refine lv_iconst (v := 0) hx hb d_Mo_leading_304 (by decide) ?_
        exact hret _ _ _ _ _ _ _ _ _ _ _ _ _ _ _ _ _ _ _ _ _ _ _ _ _ _ _ _ ls _ H locs d_Mo_leading_305 vc hP hD hS
      · have vc := vc.2 h
        refine lv_iconst (v := 1) hx hb d_Mo_leading_300 (by decide) ?_
        refine lv_goto (tgt := 305) hx hb d_Mo_leading_301 (by decide) ?_
        exact hret _ _ _ _ _ _ _ _ _ _ _ _ _ _ _ _ _ _ _ _ _ _ _ _ _ _ _ _ ls _ H locs d_Mo_leading_305 vc hP hD hS
  have a306 : (k = 28) → W p l e R s m args below meth c H locs cells slots Q (F0 m 306 ls []) := by
    intro h
    have vc := vc.2.2.2.2.2.2.2.2.1 h
    refine lv_aload_n hx hb d_Mo_leading_306 rfl (lv_at hl 0 rfl) ?_
    refine va_get (D := D) (ci := 6) (v := .ref (b 1)) (C := R_Mo) (T := F_Mo) (N := 27) hx hb hts in_Mo hown hK hP 0 rfl rfl 2 (by decide) (hts _ fl_Mo_7) (fun _ h => h) rfl d_Mo_leading_307 ?_
    refine lv_iload_n hx hb d_Mo_leading_310 rfl (lv_at hl 2 rfl) ?_
    obtain ⟨vcb, vc⟩ := vc
    refine va_iald hx hb hK hP 1 0 rfl rfl vcb d_Mo_leading_311 ?_
    refine lv_iconst (v := 4) hx hb d_Mo_leading_312 (by decide) ?_
    refine lv_icmp_ne (tgt := 334) hx hb d_Mo_leading_313 (by decide) (fun h => ?_) (fun h => ?_)
    · have vc := vc.1 h
      refine lv_iconst (v := 1) hx hb d_Mo_leading_334 (by decide) ?_
      refine lv_goto (tgt := 339) hx hb d_Mo_leading_335 (by decide) ?_
      exact hret _ _ _ _ _ _ _ _ _ _ _ _ _ _ _ _ _ _ _ _ _ _ _ _ _ _ _ _ ls _ H locs d_Mo_leading_339 vc hP hD hS
    · have vc := vc.2 h
      refine lv_aload_n hx hb d_Mo_leading_316 rfl (lv_at hl 0 rfl) ?_
      refine lv_iload hx hb d_Mo_leading_317 (lv_at hl 4 rfl) ?_
      refine lv_iload_n hx hb d_Mo_leading_319 rfl (lv_at hl 2 rfl) ?_
      refine lv_aload_n hx hb d_Mo_leading_320 rfl (lv_at hl 0 rfl) ?_
      refine lv_iload_n hx hb d_Mo_leading_321 rfl (lv_at hl 1 rfl) ?_
      refine lv_iload_n hx hb d_Mo_leading_322 rfl (lv_at hl 2 rfl) ?_
      obtain ⟨hpre, vc⟩ := vc
      refine wc_V (As := [.int x, .int y]) (rest := [.int y, .int w, .ref (b 0)]) (wr := ([] : va_W)) S (c_Mo_marksOf l D b cI cJ cZ mki msz mle mel mme mal mic mil mio mab mae msa mlc mli mna mva mma mch mre mlv mwr msh mth mnv mns mfa mmo x y hpre) k_Mo_marksOf i_Mo_marksOf e_Mo_marksOf o_Mo ml_Mo_215 hd_Mo_marksOf (Nat.le_trans (by decide) hRf) (Nat.le_trans (by decide) hRl) hRc (va_recv hK hP (q0 := 0) (ci := 6) rfl rfl) hK hP hD hS hA [0, 1, 2, 3, 4, 5, 6, 7, 8, 9, 10, 11, 12, 13, 14, 15, 16, 17, 18, 19, 20, 21, 22] [] rfl rfl rfl (by decide) (by decide) (by decide) hl.1 rfl (Nat.le_of_ble_eq_true rfl) d_Mo_leading_323 (fun x13 H locs hu hP hD hS => ?_)
      have vc := vc x13 hu
      clear hu
      have hP : va_P D vwCl (wM b cI cJ cZ mki msz mle mel mme mal mic mil mio mab mae msa mlc mli mna mva mma mch mre mlv mwr msh mth mnv mns mfa mmo) H := hP
      have hD : va_D A (wM b cI cJ cZ mki msz mle mel mme mal mic mil mio mab mae msa mlc mli mna mva mma mch mre mlv mwr msh mth mnv mns mfa mmo) := hD
      refine lv_iconst (v := (-1)) hx hb d_Mo_leading_326 (by decide) ?_
      refine lv_ixor hx hb d_Mo_leading_327 ?_
      obtain ⟨hpre, vc⟩ := vc
      refine wc_V (As := [.int w, .int y, .int (x13 ^^^ (-1))]) (rest := []) (wr := ([] : va_W)) S (c_Mo_allElements l D b cI cJ cZ mki msz mle mel mme mal mic mil mio mab mae msa mlc mli mna mva mma mch mre mlv mwr msh mth mnv mns mfa mmo w y (x13 ^^^ (-1)) hpre) k_Mo_allElements i_Mo_allElements e_Mo_allElements o_Mo ml_Mo_209 hd_Mo_allElements (Nat.le_trans (by decide) hRf) (Nat.le_trans (by decide) hRl) hRc (va_recv hK hP (q0 := 0) (ci := 6) rfl rfl) hK hP hD hS hA [0, 1, 2, 3, 4, 5, 6, 7, 8, 9, 10, 11, 12, 13, 14, 15, 16, 17, 18, 19, 20, 21, 22] [] rfl rfl rfl (by decide) (by decide) (by decide) hl.1 rfl (Nat.le_of_ble_eq_true rfl) d_Mo_leading_328 (fun t14 H locs hu hP hD hS => ?_)
      have vc := vc t14 hu
      clear hu
      have hP : va_P D vwCl (wM b cI cJ cZ mki msz mle mel mme mal mic mil mio mab mae msa mlc mli mna mva mma mch mre mlv mwr msh mth mnv mns mfa mmo) H := hP
      have hD : va_D A (wM b cI cJ cZ mki msz mle mel mme mal mic mil mio mab mae msa mlc mli mna mva mma mch mre mlv mwr msh mth mnv mns mfa mmo) := hD
      refine lv_if_eq (tgt := 338) hx hb d_Mo_leading_331 (by decide) (fun h => ?_) (fun h => ?_)
      · have vc := vc.1 h
        refine lv_iconst (v := 0) hx hb d_Mo_leading_338 (by decide) ?_
        exact hret _ _ _ _ _ _ _ _ _ _ _ _ _ _ _ _ _ _ _ _ _ _ _ _ _ _ _ _ ls _ H locs d_Mo_leading_339 vc hP hD hS
      · have vc := vc.2 h
        refine lv_iconst (v := 1) hx hb d_Mo_leading_334 (by decide) ?_
        refine lv_goto (tgt := 339) hx hb d_Mo_leading_335 (by decide) ?_
        exact hret _ _ _ _ _ _ _ _ _ _ _ _ _ _ _ _ _ _ _ _ _ _ _ _ _ _ _ _ ls _ H locs d_Mo_leading_339 vc hP hD hS
  have a340 : ((k.toInt < 17 ∨ 28 < k.toInt) ∨ k = 18 ∨ k = 24) → W p l e R s m args below meth c H locs cells slots Q (F0 m 340 ls []) := by
    intro h
    have vc := vc.2.2.2.2.2.2.2.2.2 h
    refine lv_iconst (v := 1) hx hb d_Mo_leading_340 (by decide) ?_
    exact hret _ _ _ _ _ _ _ _ _ _ _ _ _ _ _ _ _ _ _ _ _ _ _ _ _ _ _ _ ls _ H locs d_Mo_leading_341 vc hP hD hS
  by_cases h0 : xs.toInt < 17 ∨ 28 < xs.toInt
  · exact lv_tableOut (tgt := 340) hx hb d_Mo_leading_1 h0 (by decide) (a340 (Or.inl (by rw [← es]; exact h0)))
  · obtain ⟨k, hk, rfl⟩ := sw_of (lo := 17) (n := 11) (fun h => h0 (Or.inl h)) (fun h => h0 (Or.inr h))
    have hk : k = 0 ∨ k = 1 ∨ k = 2 ∨ k = 3 ∨ k = 4 ∨ k = 5 ∨ k = 6 ∨ k = 7 ∨ k = 8 ∨ k = 9 ∨ k = 10 ∨ k = 11 := by omega
    rcases hk with rfl | rfl | rfl | rfl | rfl | rfl | rfl | rfl | rfl | rfl | rfl | rfl
    · exact lv_tableIn (off := 63) (tgt := 64) hx hb d_Mo_leading_1 (by decide) (by decide) (by decide) (by decide) (a64 (es.symm))
    · exact lv_tableIn (off := 339) (tgt := 340) hx hb d_Mo_leading_1 (by decide) (by decide) (by decide) (by decide) (a340 (Or.inr (Or.inl es.symm)))
    · exact lv_tableIn (off := 79) (tgt := 80) hx hb d_Mo_leading_1 (by decide) (by decide) (by decide) (by decide) (a80 (Or.inl es.symm))
    · exact lv_tableIn (off := 79) (tgt := 80) hx hb d_Mo_leading_1 (by decide) (by decide) (by decide) (by decide) (a80 (Or.inr (es.symm)))
    · exact lv_tableIn (off := 105) (tgt := 106) hx hb d_Mo_leading_1 (by decide) (by decide) (by decide) (by decide) (a106 (es.symm))
    · exact lv_tableIn (off := 113) (tgt := 114) hx hb d_Mo_leading_1 (by decide) (by decide) (by decide) (by decide) (a114 (es.symm))
    · exact lv_tableIn (off := 148) (tgt := 149) hx hb d_Mo_leading_1 (by decide) (by decide) (by decide) (by decide) (a149 (es.symm))
    · exact lv_tableIn (off := 339) (tgt := 340) hx hb d_Mo_leading_1 (by decide) (by decide) (by decide) (by decide) (a340 (Or.inr (Or.inr (es.symm))))
    · exact lv_tableIn (off := 198) (tgt := 199) hx hb d_Mo_leading_1 (by decide) (by decide) (by decide) (by decide) (a199 (es.symm))
    · exact lv_tableIn (off := 239) (tgt := 240) hx hb d_Mo_leading_1 (by decide) (by decide) (by decide) (by decide) (a240 (es.symm))
    · exact lv_tableIn (off := 271) (tgt := 272) hx hb d_Mo_leading_1 (by decide) (by decide) (by decide) (by decide) (a272 (es.symm))
    · exact lv_tableIn (off := 305) (tgt := 306) hx hb d_Mo_leading_1 (by decide) (by decide) (by decide) (by decide) (a306 (es.symm))
set_option maxHeartbeats 4000000 in
theorem v_Mo_leading (mki : Nat → Int32) (msz : Nat → Int64) (mle : Nat → Int32) (mel : Nat → Int32) (mme : Nat → Int32) (mal : Nat → Int32) (mic : Nat → Int32) (mil : Nat → Int32) (mio : Nat → Int32) (mab : Nat → Int32) (mae : Nat → Int32) (msa : Nat → Int32) (mlc : Nat → Int32) (mli : Nat → Int32) (mna : Nat → Int32) (mva : Nat → Int32) (mma : Nat → Int32) (mch : Nat → Int32) (mre : Nat → Int32) (mlv : Nat → Int32) (mwr : Nat → Int64) (msh : Nat → Int32) (mth : Int32) (mnv : Int32) (mns : Int32) (mfa : Int32) (mmo : Int32) (x : Int32) (y : Int32) (k : Int32) (w : Int32) (hpre : (∃ n0 m0 s0 v0 : Nat, mnv = nI n0 ∧ mns = nI m0 ∧ MSOK mki msz mle mel mme mic mio msa mlc mli mna mva n0 m0 ∧ (s0 < m0 ∧ v0 < n0 ∧ x = nI s0 ∧ y = nI v0) ∧ ∃ k0 : Nat, 17 ≤ k0 ∧ k0 ≤ 28 ∧ k = nI k0 ∧ w = msa (s0 * 29 + k0) ∧ ¬ w < 0)) : V_Mo_leading mki msz mle mel mme mal mic mil mio mab mae msa mlc mli mna mva mma mch mre mlv mwr msh mth mnv mns mfa mmo x y k w (fun v mki' msz' mle' mel' mme' mal' mic' mil' mio' mab' mae' msa' mlc' mli' mna' mva' mma' mch' mre' mlv' mwr' msh' mth' mnv' mns' mfa' mmo' => ∃ rr : Bool, v = bI rr ∧ ((∀ G : Sp, G = gM mki msz mle mel mme mal mic mil mio mab mae msa mlc mli mna mva mma mnv.toNatClampNeg → (rr = true ↔ ¬ Bad G x.toNatClampNeg y.toNatClampNeg k.toNatClampNeg))) ∧ mki' = mki ∧ msz' = msz ∧ mle' = mle ∧ mel' = mel ∧ mme' = mme ∧ mal' = mal ∧ mic' = mic ∧ mil' = mil ∧ mio' = mio ∧ mab' = mab ∧ mae' = mae ∧ msa' = msa ∧ mlc' = mlc ∧ mli' = mli ∧ mna' = mna ∧ mva' = mva ∧ mma' = mma ∧ mch' = mch ∧ mre' = mre ∧ mlv' = mlv ∧ mwr' = mwr ∧ msh' = msh ∧ mth' = mth ∧ mnv' = mnv ∧ mns' = mns ∧ mfa' = mfa ∧ mmo' = mmo) := by
  have main : ∀ post : Int32 → (Nat → Int32) → (Nat → Int64) → (Nat → Int32) → (Nat → Int32) → (Nat → Int32) → (Nat → Int32) → (Nat → Int32) → (Nat → Int32) → (Nat → Int32) → (Nat → Int32) → (Nat → Int32) → (Nat → Int32) → (Nat → Int32) → (Nat → Int32) → (Nat → Int32) → (Nat → Int32) → (Nat → Int32) → (Nat → Int32) → (Nat → Int32) → (Nat → Int32) → (Nat → Int64) → (Nat → Int32) → Int32 → Int32 → Int32 → Int32 → Int32 → Prop, (∀ v mki' msz' mle' mel' mme' mal' mic' mil' mio' mab' mae' msa' mlc' mli' mna' mva' mma' mch' mre' mlv' mwr' msh' mth' mnv' mns' mfa' mmo', (fun v mki' msz' mle' mel' mme' mal' mic' mil' mio' mab' mae' msa' mlc' mli' mna' mva' mma' mch' mre' mlv' mwr' msh' mth' mnv' mns' mfa' mmo' => ∃ rr : Bool, v = bI rr ∧ ((∀ G : Sp, G = gM mki msz mle mel mme mal mic mil mio mab mae msa mlc mli mna mva mma mnv.toNatClampNeg → (rr = true ↔ ¬ Bad G x.toNatClampNeg y.toNatClampNeg k.toNatClampNeg))) ∧ mki' = mki ∧ msz' = msz ∧ mle' = mle ∧ mel' = mel ∧ mme' = mme ∧ mal' = mal ∧ mic' = mic ∧ mil' = mil ∧ mio' = mio ∧ mab' = mab ∧ mae' = mae ∧ msa' = msa ∧ mlc' = mlc ∧ mli' = mli ∧ mna' = mna ∧ mva' = mva ∧ mma' = mma ∧ mch' = mch ∧ mre' = mre ∧ mlv' = mlv ∧ mwr' = mwr ∧ msh' = msh ∧ mth' = mth ∧ mnv' = mnv ∧ mns' = mns ∧ mfa' = mfa ∧ mmo' = mmo) v mki' msz' mle' mel' mme' mal' mic' mil' mio' mab' mae' msa' mlc' mli' mna' mva' mma' mch' mre' mlv' mwr' msh' mth' mnv' mns' mfa' mmo' → post v mki' msz' mle' mel' mme' mal' mic' mil' mio' mab' mae' msa' mlc' mli' mna' mva' mma' mch' mre' mlv' mwr' msh' mth' mnv' mns' mfa' mmo') → V_Mo_leading mki msz mle mel mme mal mic mil mio mab mae msa mlc mli mna mva mma mch mre mlv mwr msh mth mnv mns mfa mmo x y k w post := by
    intro post hpost
    unfold V_Mo_leading
    obtain ⟨n0, m0, s0, v0, hnv, hns, hS, ⟨hs, hv, rfl, rfl⟩, k0, hk1, hk2, rfl, hw, hwn⟩ := hpre
    have hm24 := hS.2.2.1
    have hn40 := hS.1.1
    have hs24 : s0 < 24 := by omega
    have hv40 : v0 < 40 := by omega
    have cs : (nI s0).toNatClampNeg = s0 := nI_clamp (by omega)
    have cv : (nI v0).toNatClampNeg = v0 := nI_clamp (by omega)
    have cn : mnv.toNatClampNeg = n0 := by rw [hnv]; exact nI_clamp (by omega)
    have hxv : vp_in (nI v0) 40 := vp_in_nI hv40 (by decide)
    obtain ⟨⟨kd, hkd, ekd⟩, ⟨L, hL, eL⟩, hpart, hmem, htxt⟩ := hS.1.2.2 v0 hv40
    have cL : (nI L).toNatClampNeg = L := nI_clamp (by omega)
    have hL8 : (mle v0).toNatClampNeg ≤ 8 := by rw [eL, cL]; exact hL
    have ck : (nI k0).toNatClampNeg = k0 := nI_clamp (by omega)
    have e32 : 4 * nI s0 + 32 - 29 = nI (s0 * 4 + 3) := jx4 (k := 3)
    have e23 : 29 * nI s0 + 23 = nI (s0 * 29 + 23) := jx29 (k := 23)
    have e24 : 29 * nI s0 + 24 = nI (s0 * 29 + 24) := jx29 (k := 24)
    have c4 : (nI (s0 * 4 + 3)).toNatClampNeg = s0 * 4 + 3 := nI_clamp (by omega)
    have c23 : (nI (s0 * 29 + 23)).toNatClampNeg = s0 * 29 + 23 := nI_clamp (by omega)
    have c24 : (nI (s0 * 29 + 24)).toNatClampNeg = s0 * 29 + 24 := nI_clamp (by omega)
    obtain ⟨p, hp3, ep⟩ := hS.2.2.2.1 (s0 * 4 + 3) (by omega)
    have cp : (nI p).toNatClampNeg = p := nI_clamp (by omega)
    simp only [cs, cv, cn, ck, e32, e23, e24, c4, c23, c24, ep, eL, cL] at hpost ⊢
    have ek : ∀ c : Nat, c < 2 ^ 31 → (nI k0 = nI c ↔ k0 = c) := fun c hc => nI_eq (by omega) hc
    have gH : ∀ G, (G = gM mki msz mle mel mme mal mic mil mio mab mae msa mlc mli mna mva mma n0) → ∀ k, (ruH G s0 k ↔ ¬ msa (s0 * 29 + k) < 0) := fun G hG k => by unfold ruH; rw [(gM_eq hG).2.2.2.1]
    have gV : ∀ G, (G = gM mki msz mle mel mme mal mic mil mio mab mae msa mlc mli mna mva mma n0) → ∀ k, ruV G s0 k = (msa (s0 * 29 + k)).toNatClampNeg := fun G hG k => by unfold ruV; rw [(gM_eq hG).2.2.2.1]
    have gB : ∀ G, (G = gM mki msz mle mel mme mal mic mil mio mab mae msa mlc mli mna mva mma n0) → gPb G = mpb mki mle mme := fun G hG => (gM_eq hG).2.1
    have gT : ∀ G, (G = gM mki msz mle mel mme mal mic mil mio mab mae msa mlc mli mna mva mma n0) → gPt G = mpt mki mle mel mme := fun G hG => (gM_eq hG).2.2.1
    have gKk : ∀ G, (G = gM mki msz mle mel mme mal mic mil mio mab mae msa mlc mli mna mva mma n0) → gK G = mki := fun G hG => (gM_eq hG).1
    have gA : ∀ G, (G = gM mki msz mle mel mme mal mic mil mio mab mae msa mlc mli mna mva mma n0) → ∀ x w, (gVa G x w ↔ ¬ mva (40 * x + w) = 0) := fun G hG x w => by rw [(gM_eq hG).2.2.2.2.2.2.2.2.1]
    have hsch : k0 ≠ 24 → k0 ≠ 25 → ∃ x0, x0 < m0 ∧ msa (s0 * 29 + k0) = nI x0 := fun h1 h2 => okx_nn ((hS.2.2.2.2.1 s0 hs24).1 k0 hk1 (by omega) h1 h2) (by rw [← hw]; exact hwn)
    have row : ∀ G, (G = gM mki msz mle mel mme mal mic mil mio mab mae msa mlc mli mna mva mma n0) → mki v0 = 4 → ∀ i, (gPb G v0 i ↔ i < L) ∧ (i < L → gPt G v0 i = (mel (8 * v0 + i)).toNatClampNeg) := fun G hG h4 i => by
      rw [gB G hG, gT G hG, mpb_r hv40 h4 hL8, eL, cL]
      exact ⟨Iff.rfl, fun h => mpt_r hv40 h4 hL8 (by rw [eL, cL]; exact h)⟩
    have mem : ∀ G, (G = gM mki msz mle mel mme mal mic mil mio mab mae msa mlc mli mna mva mma n0) → mki v0 = 5 → ∀ i, i < 12 → (gPb G v0 i ↔ ¬ mme (12 * v0 + i) < 0) ∧ (¬ mme (12 * v0 + i) < 0 → gPt G v0 i = (mme (12 * v0 + i)).toNatClampNeg) := fun G hG h5 i hi => by
      rw [gB G hG, gT G hG, mpb_m hv40 h5 hi]
      exact ⟨Iff.rfl, fun h => mpt_m hv40 h5 hi h⟩
    refine ⟨fun e => ?_, fun e => ?_, fun e => ?_, fun e => ?_, fun e => ?_, fun e => ?_, fun e => ?_, fun e => ?_, fun e => ?_, fun e => ?_⟩
    · obtain rfl := (ek 17 (by decide)).mp e
      obtain ⟨x0, hx, ex⟩ := hsch (by decide) (by decide)
      have cx : (nI x0).toNatClampNeg = x0 := nI_clamp (by omega)
      have c0 := c40 (x := x0) (w := v0) (by omega) hv40
      rw [hw, ex]
      have key : ∀ G, (G = gM mki msz mle mel mme mal mic mil mio mab mae msa mlc mli mna mva mma n0) → (Bad G s0 v0 17 ↔ ¬ mva (40 * x0 + v0) = 0) := fun G hG => by
        rw [Bad_17, gH G hG, gV G hG, gA G hG, ex, cx]; exact ⟨fun q => q.2, fun q => ⟨nI_pos (by omega), q⟩⟩
      refine ⟨va_ok hS (by omega) hv40, fun h => (hpost _ _ _ _ _ _ _ _ _ _ _ _ _ _ _ _ _ _ _ _ _ _ _ _ _ _ _ _ ⟨false, rfl, fun G hG => ⟨fun q => absurd q (by decide), fun q => absurd ((key G hG).mpr (by have := of_decide_eq_true (bI_ne.mp h); rw [c0] at this; exact this)) q⟩, rfl, rfl, rfl, rfl, rfl, rfl, rfl, rfl, rfl, rfl, rfl, rfl, rfl, rfl, rfl, rfl, rfl, rfl, rfl, rfl, rfl, rfl, rfl, rfl, rfl, rfl, rfl⟩), fun h => (hpost _ _ _ _ _ _ _ _ _ _ _ _ _ _ _ _ _ _ _ _ _ _ _ _ _ _ _ _ ⟨true, rfl, fun G hG => ⟨fun _ => fun q => ?_, fun _ => rfl⟩, rfl, rfl, rfl, rfl, rfl, rfl, rfl, rfl, rfl, rfl, rfl, rfl, rfl, rfl, rfl, rfl, rfl, rfl, rfl, rfl, rfl, rfl, rfl, rfl, rfl, rfl, rfl⟩)⟩
      have := of_decide_eq_false (bI0.mp h); rw [c0] at this; exact this ((key G hG).mp q)
    · have e2 : k0 = 19 ∨ k0 = 20 := e.elim (fun q => Or.inl ((ek 19 (by decide)).mp q)) (fun q => Or.inr ((ek 20 (by decide)).mp q))
      obtain ⟨x0, hx, ex⟩ := hsch (by omega) (by omega)
      have cx : (nI x0).toNatClampNeg = x0 := nI_clamp (by omega)
      have c0 := c40 (x := x0) (w := v0) (by omega) hv40
      rw [hw, ex]
      have key : ∀ G, (G = gM mki msz mle mel mme mal mic mil mio mab mae msa mlc mli mna mva mma n0) → (Bad G s0 v0 k0 ↔ trn G s0 v0 k0 ∧ ¬ ¬ mva (40 * x0 + v0) = 0) := fun G hG => by
        rcases e2 with rfl | rfl
        · rw [Bad_19, gH G hG, gV G hG, gA G hG, ex, cx]; exact ⟨fun q => ⟨q.1, q.2.2⟩, fun q => ⟨q.1, nI_pos (by omega), q.2⟩⟩
        · rw [Bad_20, gH G hG, gV G hG, gA G hG, ex, cx]; exact ⟨fun q => ⟨q.1, q.2.2⟩, fun q => ⟨q.1, nI_pos (by omega), q.2⟩⟩
      refine ⟨⟨n0, m0, s0, v0, hnv, hns, hS, ⟨hs, hv, rfl, rfl⟩, k0, by omega, rfl⟩, fun t ht => ⟨fun h => (hpost _ _ _ _ _ _ _ _ _ _ _ _ _ _ _ _ _ _ _ _ _ _ _ _ _ _ _ _ ⟨true, rfl, fun G hG => ⟨fun _ => fun q => ?_, fun _ => rfl⟩, rfl, rfl, rfl, rfl, rfl, rfl, rfl, rfl, rfl, rfl, rfl, rfl, rfl, rfl, rfl, rfl, rfl, rfl, rfl, rfl, rfl, rfl, rfl, rfl, rfl, rfl, rfl⟩), fun h => ⟨va_ok hS (by omega) hv40, fun h2 => (hpost _ _ _ _ _ _ _ _ _ _ _ _ _ _ _ _ _ _ _ _ _ _ _ _ _ _ _ _ ⟨false, rfl, fun G hG => ⟨fun q => absurd q (by decide), fun q => absurd ((key G hG).mpr ⟨(ht G hG).mp (bI_ne.mp h), ?_⟩) q⟩, rfl, rfl, rfl, rfl, rfl, rfl, rfl, rfl, rfl, rfl, rfl, rfl, rfl, rfl, rfl, rfl, rfl, rfl, rfl, rfl, rfl, rfl, rfl, rfl, rfl, rfl, rfl⟩), fun h2 => (hpost _ _ _ _ _ _ _ _ _ _ _ _ _ _ _ _ _ _ _ _ _ _ _ _ _ _ _ _ ⟨true, rfl, fun G hG => ⟨fun _ => fun q => ?_, fun _ => rfl⟩, rfl, rfl, rfl, rfl, rfl, rfl, rfl, rfl, rfl, rfl, rfl, rfl, rfl, rfl, rfl, rfl, rfl, rfl, rfl, rfl, rfl, rfl, rfl, rfl, rfl, rfl, rfl⟩)⟩⟩⟩
      · have := (ht G hG).mpr ((key G hG).mp q).1; rw [bI0.mp h] at this; exact absurd this (by decide)
      · have := of_decide_eq_false (bI0.mp h2); rw [c0] at this; exact this
      · have := of_decide_eq_true (bI_ne.mp h2); rw [c0] at this; exact ((key G hG).mp q).2 this
    · obtain rfl := (ek 21 (by decide)).mp e
      obtain ⟨x0, hx, ex⟩ := hsch (by decide) (by decide)
      have cx : (nI x0).toNatClampNeg = x0 := nI_clamp (by omega)
      have c0 := c40 (x := x0) (w := v0) (by omega) hv40
      rw [hw, ex]
      have key : ∀ G, (G = gM mki msz mle mel mme mal mic mil mio mab mae msa mlc mli mna mva mma n0) → (Bad G s0 v0 21 ↔ ¬ ¬ mva (40 * x0 + v0) = 0) := fun G hG => by
        rw [Bad_21, gH G hG, gV G hG, gA G hG, ex, cx]; exact ⟨fun q => q.2, fun q => ⟨nI_pos (by omega), q⟩⟩
      refine ⟨va_ok hS (by omega) hv40, (hpost _ _ _ _ _ _ _ _ _ _ _ _ _ _ _ _ _ _ _ _ _ _ _ _ _ _ _ _ ⟨_, rfl, fun G hG => ?_, rfl, rfl, rfl, rfl, rfl, rfl, rfl, rfl, rfl, rfl, rfl, rfl, rfl, rfl, rfl, rfl, rfl, rfl, rfl, rfl, rfl, rfl, rfl, rfl, rfl, rfl, rfl⟩)⟩
      rw [decide_eq_true_eq, c0, key G hG, Classical.not_not]
    · obtain rfl := (ek 22 (by decide)).mp e
      obtain ⟨x0, hx, ex⟩ := hsch (by decide) (by decide)
      have cx : (nI x0).toNatClampNeg = x0 := nI_clamp (by omega)
      rw [hw, ex, cx]
      refine ⟨hxv, fun h4 => (hpost _ _ _ _ _ _ _ _ _ _ _ _ _ _ _ _ _ _ _ _ _ _ _ _ _ _ _ _ ⟨true, rfl, fun G hG => ⟨fun _ => fun q => h4 (by rw [← gKk G hG]; exact (Bad_22.mp q).1), fun _ => rfl⟩, rfl, rfl, rfl, rfl, rfl, rfl, rfl, rfl, rfl, rfl, rfl, rfl, rfl, rfl, rfl, rfl, rfl, rfl, rfl, rfl, rfl, rfl, rfl, rfl, rfl, rfl, rfl⟩), fun h4 => ⟨vp_in_nI (by omega) (by decide), ⟨n0, m0, x0, v0, hnv, hns, hS, hx, hv, rfl, rfl⟩, fun t ht => ?_⟩⟩
      have key : ∀ G, (G = gM mki msz mle mel mme mal mic mil mio mab mae msa mlc mli mna mva mma n0) → (t = true ↔ ¬ Bad G s0 v0 22) := fun G hG => by
        have hls : lsL G s0 3 = p := by unfold lsL; rw [(gM_eq hG).2.2.2.2.1, ep, cp]
        rw [ht, Bad_22, hls, gH G hG, gV G hG, ex, cx]
        constructor
        · rintro q ⟨_, i, w1, w2, w3, _, w4⟩
          have hi := (row G hG h4 i).1.mp w2
          rw [(row G hG h4 i).2 hi, gA G hG] at w4
          exact w4 (q i hi (by rw [b_m1s p (by omega) i (by omega)]; exact decide_eq_true w3))
        · intro q i hi hb
          rw [b_m1s p (by omega) i (by omega), decide_eq_true_eq] at hb
          apply Classical.byContradiction
          intro w
          refine q ⟨by rw [gKk G hG]; exact h4, i, by omega, (row G hG h4 i).1.mpr hi, hb, nI_pos (by omega), ?_⟩
          rw [(row G hG h4 i).2 hi, gA G hG]; exact w
      exact ⟨fun h => (hpost _ _ _ _ _ _ _ _ _ _ _ _ _ _ _ _ _ _ _ _ _ _ _ _ _ _ _ _ ⟨false, rfl, fun G hG => ⟨fun q => absurd q (by decide), fun q => absurd (Classical.byContradiction (fun q => by have := (key G hG).mpr q; rw [bI0.mp h] at this; exact absurd this (by decide))) q⟩, rfl, rfl, rfl, rfl, rfl, rfl, rfl, rfl, rfl, rfl, rfl, rfl, rfl, rfl, rfl, rfl, rfl, rfl, rfl, rfl, rfl, rfl, rfl, rfl, rfl, rfl, rfl⟩), fun h => (hpost _ _ _ _ _ _ _ _ _ _ _ _ _ _ _ _ _ _ _ _ _ _ _ _ _ _ _ _ ⟨true, rfl, fun G hG => ⟨fun _ => (key G hG).mp (bI_ne.mp h), fun _ => rfl⟩, rfl, rfl, rfl, rfl, rfl, rfl, rfl, rfl, rfl, rfl, rfl, rfl, rfl, rfl, rfl, rfl, rfl, rfl, rfl, rfl, rfl, rfl, rfl, rfl, rfl, rfl, rfl⟩)⟩
    · obtain rfl := (ek 23 (by decide)).mp e
      have h23 : ¬ msa (s0 * 29 + 23) < 0 := by rw [← hw]; exact hwn
      refine ⟨hxv, fun h4 => (hpost _ _ _ _ _ _ _ _ _ _ _ _ _ _ _ _ _ _ _ _ _ _ _ _ _ _ _ _ ⟨true, rfl, fun G hG => ⟨fun _ => fun q => h4 (by rw [← gKk G hG]; exact (Bad_23.mp q).1), fun _ => rfl⟩, rfl, rfl, rfl, rfl, rfl, rfl, rfl, rfl, rfl, rfl, rfl, rfl, rfl, rfl, rfl, rfl, rfl, rfl, rfl, rfl, rfl, rfl, rfl, rfl, rfl, rfl, rfl⟩), fun h4 => ⟨⟨n0, m0, s0, v0, hnv, hns, hS, ⟨hs, hv, rfl, rfl⟩, h23⟩, fun b hb c hc => ⟨vp_in_nI (by omega) (by decide), ?_⟩⟩⟩
      have hcn : ∀ G, (G = gM mki msz mle mel mme mal mic mil mio mab mae msa mlc mli mna mva mma n0) → cntC G s0 v0 = cN (fun k => bt b k = true) 12 := fun G hG => cN_iff 12 (fun i hi => by
        rw [hb G hG h4 i (by omega)]; unfold MrkCo
        exact ⟨fun q => ⟨(gH G hG 23).mpr h23, hi, q.1, q.2⟩, fun q => ⟨q.2.2.1, q.2.2.2⟩⟩)
      have hle := cN_le (fun k => bt b k = true) 12
      have ho24 := hS.2.2.2.2.2.1 s0 24 hs24 (by omega)
      refine ⟨fun z => ∃ fw, fw ≤ 12 ∧ z = nI fw ∧ ∀ G, (G = gM mki msz mle mel mme mal mic mil mio mab mae msa mlc mli mna mva mma n0) → ∀ k, ((ruH G s0 24 ∧ k < ruV G s0 24) ∨ (¬ ruH G s0 24 ∧ k < 1)) ↔ k < fw, ⟨fun h => ⟨vp_in_nI (by omega) (by decide), ?_⟩, fun h => ⟨1, by decide, rfl, fun G hG k => ?_⟩⟩, ?_⟩
      · have hnn : ¬ msa (s0 * 29 + 24) < 0 := Int32.not_lt.mpr h
        obtain ⟨q, e1, _, _, _, _, _, _, e2, _⟩ := ho24.resolve_left (fun w => by rw [w] at hnn; exact hnn neg1_lt)
        have q12 := e2 (by omega)
        refine ⟨q, q12, e1, fun G hG k => ?_⟩
        rw [gH G hG, gV G hG, e1, nI_clamp (show q < 2 ^ 31 by omega)]
        exact ⟨fun z => z.elim (fun z => z.2) (fun z => absurd (nI_pos (by omega)) z.1), fun z => Or.inl ⟨nI_pos (by omega), z⟩⟩
      · have hn : ¬ ruH G s0 24 := fun w => ((gH G hG 24).mp w) (Int32.not_le.mp h)
        exact ⟨fun z => z.elim (fun z => absurd z.1 hn) (fun z => z.2), fun z => Or.inr ⟨hn, z⟩⟩
      rintro z ⟨fw, hfw, rfl, hfwG⟩
      have key : ∀ G, (G = gM mki msz mle mel mme mal mic mil mio mab mae msa mlc mli mna mva mma n0) → (Bad G s0 v0 23 ↔ cN (fun k => bt b k = true) 12 < fw) := fun G hG => by
        rw [Bad_23, hcn G hG, hfwG G hG]
        exact ⟨fun q => q.2.2, fun q => ⟨by rw [gKk G hG]; exact h4, (gH G hG 23).mpr h23, q⟩⟩
      rw [hc, nI_ltI (by omega) (by omega)]
      exact ⟨fun h => (hpost _ _ _ _ _ _ _ _ _ _ _ _ _ _ _ _ _ _ _ _ _ _ _ _ _ _ _ _ ⟨false, rfl, fun G hG => ⟨fun q => absurd q (by decide), fun q => absurd ((key G hG).mpr h) q⟩, rfl, rfl, rfl, rfl, rfl, rfl, rfl, rfl, rfl, rfl, rfl, rfl, rfl, rfl, rfl, rfl, rfl, rfl, rfl, rfl, rfl, rfl, rfl, rfl, rfl, rfl, rfl⟩), fun h => (hpost _ _ _ _ _ _ _ _ _ _ _ _ _ _ _ _ _ _ _ _ _ _ _ _ _ _ _ _ ⟨true, rfl, fun G hG => ⟨fun _ => fun q => h ((key G hG).mp q), fun _ => rfl⟩, rfl, rfl, rfl, rfl, rfl, rfl, rfl, rfl, rfl, rfl, rfl, rfl, rfl, rfl, rfl, rfl, rfl, rfl, rfl, rfl, rfl, rfl, rfl, rfl, rfl, rfl, rfl⟩)⟩
    · obtain rfl := (ek 25 (by decide)).mp e
      have h25 : ¬ msa (s0 * 29 + 25) < 0 := by rw [← hw]; exact hwn
      obtain ⟨q0, eq0, _, _, _, _, _, _, e2, _⟩ := (hS.2.2.2.2.2.1 s0 25 hs24 (by omega)).resolve_left (fun w => by rw [w] at h25; exact h25 neg1_lt)
      have q12 := e2 (by omega)
      rw [hw, eq0]
      refine ⟨hxv, fun h4 => (hpost _ _ _ _ _ _ _ _ _ _ _ _ _ _ _ _ _ _ _ _ _ _ _ _ _ _ _ _ ⟨true, rfl, fun G hG => ⟨fun _ => fun q => h4 (by rw [← gKk G hG]; exact (Bad_25.mp q).1), fun _ => rfl⟩, rfl, rfl, rfl, rfl, rfl, rfl, rfl, rfl, rfl, rfl, rfl, rfl, rfl, rfl, rfl, rfl, rfl, rfl, rfl, rfl, rfl, rfl, rfl, rfl, rfl, rfl, rfl⟩), fun h4 => ⟨vp_in_nI (by omega) (by decide), fun h => (hpost _ _ _ _ _ _ _ _ _ _ _ _ _ _ _ _ _ _ _ _ _ _ _ _ _ _ _ _ ⟨true, rfl, fun G hG => ⟨fun _ => fun q => ((gH G hG 23).mp (Bad_25.mp q).2.1) h, fun _ => rfl⟩, rfl, rfl, rfl, rfl, rfl, rfl, rfl, rfl, rfl, rfl, rfl, rfl, rfl, rfl, rfl, rfl, rfl, rfl, rfl, rfl, rfl, rfl, rfl, rfl, rfl, rfl, rfl⟩), fun h => ⟨⟨n0, m0, s0, v0, hnv, hns, hS, ⟨hs, hv, rfl, rfl⟩, h⟩, fun b hb c hc => ?_⟩⟩⟩
      have hcn : ∀ G, (G = gM mki msz mle mel mme mal mic mil mio mab mae msa mlc mli mna mva mma n0) → cntC G s0 v0 = cN (fun k => bt b k = true) 12 := fun G hG => cN_iff 12 (fun i hi => by
        rw [hb G hG h4 i (by omega)]; unfold MrkCo
        exact ⟨fun q => ⟨(gH G hG 23).mpr h, hi, q.1, q.2⟩, fun q => ⟨q.2.2.1, q.2.2.2⟩⟩)
      have hle := cN_le (fun k => bt b k = true) 12
      have key : ∀ G, (G = gM mki msz mle mel mme mal mic mil mio mab mae msa mlc mli mna mva mma n0) → (Bad G s0 v0 25 ↔ q0 < cN (fun k => bt b k = true) 12) := fun G hG => by
        rw [Bad_25, hcn G hG, gH G hG 25, gV G hG 25, eq0, nI_clamp (show q0 < 2 ^ 31 by omega)]
        exact ⟨fun q => q.2.2.2, fun q => ⟨by rw [gKk G hG]; exact h4, (gH G hG 23).mpr h, nI_pos (by omega), q⟩⟩
      rw [hc, nI_ltI (by omega) (by omega)]
      exact ⟨fun h => (hpost _ _ _ _ _ _ _ _ _ _ _ _ _ _ _ _ _ _ _ _ _ _ _ _ _ _ _ _ ⟨false, rfl, fun G hG => ⟨fun q => absurd q (by decide), fun q => absurd ((key G hG).mpr h) q⟩, rfl, rfl, rfl, rfl, rfl, rfl, rfl, rfl, rfl, rfl, rfl, rfl, rfl, rfl, rfl, rfl, rfl, rfl, rfl, rfl, rfl, rfl, rfl, rfl, rfl, rfl, rfl⟩), fun h => (hpost _ _ _ _ _ _ _ _ _ _ _ _ _ _ _ _ _ _ _ _ _ _ _ _ _ _ _ _ ⟨true, rfl, fun G hG => ⟨fun _ => fun q => h ((key G hG).mp q), fun _ => rfl⟩, rfl, rfl, rfl, rfl, rfl, rfl, rfl, rfl, rfl, rfl, rfl, rfl, rfl, rfl, rfl, rfl, rfl, rfl, rfl, rfl, rfl, rfl, rfl, rfl, rfl, rfl, rfl⟩)⟩
    · obtain rfl := (ek 26 (by decide)).mp e
      obtain ⟨x0, hx, ex⟩ := hsch (by decide) (by decide)
      have cx : (nI x0).toNatClampNeg = x0 := nI_clamp (by omega)
      rw [hw, ex, cx]
      refine ⟨hxv, fun h5 => (hpost _ _ _ _ _ _ _ _ _ _ _ _ _ _ _ _ _ _ _ _ _ _ _ _ _ _ _ _ ⟨true, rfl, fun G hG => ⟨fun _ => fun q => h5 (by rw [← gKk G hG]; exact (Bad_26.mp q).1), fun _ => rfl⟩, rfl, rfl, rfl, rfl, rfl, rfl, rfl, rfl, rfl, rfl, rfl, rfl, rfl, rfl, rfl, rfl, rfl, rfl, rfl, rfl, rfl, rfl, rfl, rfl, rfl, rfl, rfl⟩), fun h5 => ⟨⟨n0, m0, s0, v0, hnv, hns, hS, hs, hv, rfl, rfl⟩, fun b hb => ⟨⟨n0, m0, x0, v0, hnv, hns, hS, hx, hv, rfl, rfl⟩, fun t ht => ?_⟩⟩⟩
      have key : ∀ G, (G = gM mki msz mle mel mme mal mic mil mio mab mae msa mlc mli mna mva mma n0) → (t = true ↔ ¬ Bad G s0 v0 26) := fun G hG => by
        have hnm : ∀ i, nmH G s0 0 i ↔ ¬ mna ((s0 * 3 + 0) * 12 + i) < 0 := fun i => by unfold nmH; rw [(gM_eq hG).2.2.2.2.2.2.1]
        rw [ht, Bad_26, gH G hG, gV G hG, ex, cx]
        constructor
        · rintro q ⟨_, i, w1, w2, w3, _, w4⟩
          have hm := (mem G hG h5 i w1).1.mp w2
          rw [(mem G hG h5 i w1).2 hm, gA G hG] at w4
          rw [hnm, Classical.not_not] at w3
          exact w4 (q i w1 ((hb i (by omega)).mpr ⟨w1, h5, hm, w3⟩) h5 hm)
        · intro q i hi hbb _ hm
          apply Classical.byContradiction
          intro w
          refine q ⟨by rw [gKk G hG]; exact h5, i, hi, (mem G hG h5 i hi).1.mpr hm, ?_, nI_pos (by omega), ?_⟩
          · rw [hnm, Classical.not_not]; exact ((hb i (by omega)).mp hbb).2.2.2
          · rw [(mem G hG h5 i hi).2 hm, gA G hG]; exact w
      exact ⟨fun h => (hpost _ _ _ _ _ _ _ _ _ _ _ _ _ _ _ _ _ _ _ _ _ _ _ _ _ _ _ _ ⟨false, rfl, fun G hG => ⟨fun q => absurd q (by decide), fun q => absurd (Classical.byContradiction (fun q => by have := (key G hG).mpr q; rw [bI0.mp h] at this; exact absurd this (by decide))) q⟩, rfl, rfl, rfl, rfl, rfl, rfl, rfl, rfl, rfl, rfl, rfl, rfl, rfl, rfl, rfl, rfl, rfl, rfl, rfl, rfl, rfl, rfl, rfl, rfl, rfl, rfl, rfl⟩), fun h => (hpost _ _ _ _ _ _ _ _ _ _ _ _ _ _ _ _ _ _ _ _ _ _ _ _ _ _ _ _ ⟨true, rfl, fun G hG => ⟨fun _ => (key G hG).mp (bI_ne.mp h), fun _ => rfl⟩, rfl, rfl, rfl, rfl, rfl, rfl, rfl, rfl, rfl, rfl, rfl, rfl, rfl, rfl, rfl, rfl, rfl, rfl, rfl, rfl, rfl, rfl, rfl, rfl, rfl, rfl, rfl⟩)⟩
    · obtain rfl := (ek 27 (by decide)).mp e
      obtain ⟨x0, hx, ex⟩ := hsch (by decide) (by decide)
      have cx : (nI x0).toNatClampNeg = x0 := nI_clamp (by omega)
      rw [hw, ex, cx]
      refine ⟨hxv, fun h5 => (hpost _ _ _ _ _ _ _ _ _ _ _ _ _ _ _ _ _ _ _ _ _ _ _ _ _ _ _ _ ⟨true, rfl, fun G hG => ⟨fun _ => fun q => h5 (by rw [← gKk G hG]; exact (Bad_27.mp q).1), fun _ => rfl⟩, rfl, rfl, rfl, rfl, rfl, rfl, rfl, rfl, rfl, rfl, rfl, rfl, rfl, rfl, rfl, rfl, rfl, rfl, rfl, rfl, rfl, rfl, rfl, rfl, rfl, rfl, rfl⟩), fun h5 => ⟨⟨n0, m0, s0, v0, hnv, hns, hS, hs, hv, rfl, rfl⟩, fun b hb => ⟨⟨n0, m0, x0, v0, hnv, hns, hS, hx, hv, rfl, rfl⟩, fun t ht => ?_⟩⟩⟩
      have key : ∀ G, (G = gM mki msz mle mel mme mal mic mil mio mab mae msa mlc mli mna mva mma n0) → (t = true ↔ ¬ Bad G s0 v0 27) := fun G hG => by
        rw [ht, Bad_27, gH G hG, gV G hG, ex, cx]
        constructor
        · rintro q ⟨_, _, i, w1, w2, w3, w4⟩
          have hm := (mem G hG h5 i w1).1.mp w2
          rw [(mem G hG h5 i w1).2 hm, gA G hG] at w4
          refine w4 (q i w1 ?_ h5 hm)
          rw [b_inv _ (by omega)]
          cases e : bt b i
          · rfl
          · exact absurd ((hb G hG i (by omega)).mp e) w3
        · intro q i hi hbb _ hm
          rw [b_inv _ (by omega)] at hbb
          apply Classical.byContradiction
          intro w
          refine q ⟨by rw [gKk G hG]; exact h5, nI_pos (by omega), i, hi, (mem G hG h5 i hi).1.mpr hm, fun z => ?_, ?_⟩
          · rw [(hb G hG i (by omega)).mpr z] at hbb; exact absurd hbb (by decide)
          · rw [(mem G hG h5 i hi).2 hm, gA G hG]; exact w
      exact ⟨fun h => (hpost _ _ _ _ _ _ _ _ _ _ _ _ _ _ _ _ _ _ _ _ _ _ _ _ _ _ _ _ ⟨false, rfl, fun G hG => ⟨fun q => absurd q (by decide), fun q => absurd (Classical.byContradiction (fun q => by have := (key G hG).mpr q; rw [bI0.mp h] at this; exact absurd this (by decide))) q⟩, rfl, rfl, rfl, rfl, rfl, rfl, rfl, rfl, rfl, rfl, rfl, rfl, rfl, rfl, rfl, rfl, rfl, rfl, rfl, rfl, rfl, rfl, rfl, rfl, rfl, rfl, rfl⟩), fun h => (hpost _ _ _ _ _ _ _ _ _ _ _ _ _ _ _ _ _ _ _ _ _ _ _ _ _ _ _ _ ⟨true, rfl, fun G hG => ⟨fun _ => (key G hG).mp (bI_ne.mp h), fun _ => rfl⟩, rfl, rfl, rfl, rfl, rfl, rfl, rfl, rfl, rfl, rfl, rfl, rfl, rfl, rfl, rfl, rfl, rfl, rfl, rfl, rfl, rfl, rfl, rfl, rfl, rfl, rfl, rfl⟩)⟩
    · obtain rfl := (ek 28 (by decide)).mp e
      obtain ⟨x0, hx, ex⟩ := hsch (by decide) (by decide)
      have cx : (nI x0).toNatClampNeg = x0 := nI_clamp (by omega)
      rw [hw, ex, cx]
      refine ⟨hxv, fun h4 => (hpost _ _ _ _ _ _ _ _ _ _ _ _ _ _ _ _ _ _ _ _ _ _ _ _ _ _ _ _ ⟨true, rfl, fun G hG => ⟨fun _ => fun q => h4 (by rw [← gKk G hG]; exact (Bad_28.mp q).1), fun _ => rfl⟩, rfl, rfl, rfl, rfl, rfl, rfl, rfl, rfl, rfl, rfl, rfl, rfl, rfl, rfl, rfl, rfl, rfl, rfl, rfl, rfl, rfl, rfl, rfl, rfl, rfl, rfl, rfl⟩), fun h4 => ⟨⟨n0, m0, s0, v0, hnv, hns, hS, hs, hv, rfl, rfl⟩, fun b hb => ⟨⟨n0, m0, x0, v0, hnv, hns, hS, hx, hv, rfl, rfl⟩, fun t ht => ?_⟩⟩⟩
      have key : ∀ G, (G = gM mki msz mle mel mme mal mic mil mio mab mae msa mlc mli mna mva mma n0) → (t = true ↔ ¬ Bad G s0 v0 28) := fun G hG => by
        rw [ht, Bad_28, gH G hG, gV G hG, ex, cx]
        constructor
        · rintro q ⟨_, _, i, w1, w2, w3, w4⟩
          have hi := (row G hG h4 i).1.mp w2
          rw [(row G hG h4 i).2 hi, gA G hG] at w4
          refine w4 (q i hi ?_)
          rw [b_inv _ (by omega)]
          cases e : bt b i
          · rfl
          · exact absurd ((hb G hG i (by omega)).mp e) w3
        · intro q i hi hbb
          rw [b_inv _ (by omega)] at hbb
          apply Classical.byContradiction
          intro w
          refine q ⟨by rw [gKk G hG]; exact h4, nI_pos (by omega), i, by omega, (row G hG h4 i).1.mpr hi, fun z => ?_, ?_⟩
          · rw [(hb G hG i (by omega)).mpr z] at hbb; exact absurd hbb (by decide)
          · rw [(row G hG h4 i).2 hi, gA G hG]; exact w
      exact ⟨fun h => (hpost _ _ _ _ _ _ _ _ _ _ _ _ _ _ _ _ _ _ _ _ _ _ _ _ _ _ _ _ ⟨false, rfl, fun G hG => ⟨fun q => absurd q (by decide), fun q => absurd (Classical.byContradiction (fun q => by have := (key G hG).mpr q; rw [bI0.mp h] at this; exact absurd this (by decide))) q⟩, rfl, rfl, rfl, rfl, rfl, rfl, rfl, rfl, rfl, rfl, rfl, rfl, rfl, rfl, rfl, rfl, rfl, rfl, rfl, rfl, rfl, rfl, rfl, rfl, rfl, rfl, rfl⟩), fun h => (hpost _ _ _ _ _ _ _ _ _ _ _ _ _ _ _ _ _ _ _ _ _ _ _ _ _ _ _ _ ⟨true, rfl, fun G hG => ⟨fun _ => (key G hG).mp (bI_ne.mp h), fun _ => rfl⟩, rfl, rfl, rfl, rfl, rfl, rfl, rfl, rfl, rfl, rfl, rfl, rfl, rfl, rfl, rfl, rfl, rfl, rfl, rfl, rfl, rfl, rfl, rfl, rfl, rfl, rfl, rfl⟩)⟩
    · have e2 : k0 = 18 ∨ k0 = 24 := by
        rcases e with e | e | e
        · rw [nI_toInt (by omega)] at e; omega
        · exact Or.inl ((ek 18 (by decide)).mp e)
        · exact Or.inr ((ek 24 (by decide)).mp e)
      rcases e2 with rfl | rfl
      · exact (hpost _ _ _ _ _ _ _ _ _ _ _ _ _ _ _ _ _ _ _ _ _ _ _ _ _ _ _ _ ⟨true, rfl, fun G hG => ⟨fun _ => Bad_18, fun _ => rfl⟩, rfl, rfl, rfl, rfl, rfl, rfl, rfl, rfl, rfl, rfl, rfl, rfl, rfl, rfl, rfl, rfl, rfl, rfl, rfl, rfl, rfl, rfl, rfl, rfl, rfl, rfl, rfl⟩)
      · exact (hpost _ _ _ _ _ _ _ _ _ _ _ _ _ _ _ _ _ _ _ _ _ _ _ _ _ _ _ _ ⟨true, rfl, fun G hG => ⟨fun _ => Bad_24, fun _ => rfl⟩, rfl, rfl, rfl, rfl, rfl, rfl, rfl, rfl, rfl, rfl, rfl, rfl, rfl, rfl, rfl, rfl, rfl, rfl, rfl, rfl, rfl, rfl, rfl, rfl, rfl, rfl, rfl⟩)
  exact main _ (fun _ _ _ _ _ _ _ _ _ _ _ _ _ _ _ _ _ _ _ _ _ _ _ _ _ _ _ _ h => h)
theorem c_Mo_leading (l : Launch) (D : va_G) (b : Nat → Nat) (cI cJ cZ : ClassId) (mki : Nat → Int32) (msz : Nat → Int64) (mle : Nat → Int32) (mel : Nat → Int32) (mme : Nat → Int32) (mal : Nat → Int32) (mic : Nat → Int32) (mil : Nat → Int32) (mio : Nat → Int32) (mab : Nat → Int32) (mae : Nat → Int32) (msa : Nat → Int32) (mlc : Nat → Int32) (mli : Nat → Int32) (mna : Nat → Int32) (mva : Nat → Int32) (mma : Nat → Int32) (mch : Nat → Int32) (mre : Nat → Int32) (mlv : Nat → Int32) (mwr : Nat → Int64) (msh : Nat → Int32) (mth : Int32) (mnv : Int32) (mns : Int32) (mfa : Int32) (mmo : Int32) (x : Int32) (y : Int32) (k : Int32) (w : Int32) (hpre : (∃ n0 m0 s0 v0 : Nat, mnv = nI n0 ∧ mns = nI m0 ∧ MSOK mki msz mle mel mme mic mio msa mlc mli mna mva n0 m0 ∧ (s0 < m0 ∧ v0 < n0 ∧ x = nI s0 ∧ y = nI v0) ∧ ∃ k0 : Nat, 17 ≤ k0 ∧ k0 ≤ 28 ∧ k = nI k0 ∧ w = msa (s0 * 29 + k0) ∧ ¬ w < 0)) : Wm (S := Bool) l y_Mo_leading b_Mo_leading 5 (some .boolean) 4 95 [.ref (b 0), .int x, .int y, .int k, .int w] D (tyA cI cJ cZ) (wM b cI cJ cZ mki msz mle mel mme mal mic mil mio mab mae msa mlc mli mna mva mma mch mre mlv mwr msh mth mnv mns mfa mmo) (fun uu => (∀ G : Sp, G = gM mki msz mle mel mme mal mic mil mio mab mae msa mlc mli mna mva mma mnv.toNatClampNeg → (uu = true ↔ ¬ Bad G x.toNatClampNeg y.toNatClampNeg k.toNatClampNeg))) (fun uu => some (.int (bI uu))) (fun uu => (wM b cI cJ cZ mki msz mle mel mme mal mic mil mio mab mae msa mlc mli mna mva mma mch mre mlv mwr msh mth mnv mns mfa mmo)) :=
  wm_i (by decide) (fun _ _ => bI_nar _) (Nat.le_of_ble_eq_true rfl) (fun p e s m below meth c ls Q A S hK hP hD hA hS hl hret => g_Mo_leading S (Nat.le_refl _) (Nat.le_refl _) ⟨Nat.le_refl _, Nat.le_refl _⟩ D b cI cJ cZ mki msz mle mel mme mal mic mil mio mab mae msa mlc mli mna mva mma mch mre mlv mwr msh mth mnv mns mfa mmo x y k w hK hP hD hA hS hl (v_Mo_leading mki msz mle mel mme mal mic mil mio mab mae msa mlc mli mna mva mma mch mre mlv mwr msh mth mnv mns mfa mmo x y k w hpre) (fun v mki' msz' mle' mel' mme' mal' mic' mil' mio' mab' mae' msa' mlc' mli' mna' mva' mma' mch' mre' mlv' mwr' msh' mth' mnv' mns' mfa' mmo' ls1 pc H1 locs1 hd hv hP1 hD1 hS1 => by obtain ⟨rr, rfl, hp, rfl, rfl, rfl, rfl, rfl, rfl, rfl, rfl, rfl, rfl, rfl, rfl, rfl, rfl, rfl, rfl, rfl, rfl, rfl, rfl, rfl, rfl, rfl, rfl, rfl, rfl, rfl⟩ := hv; exact hret rr _ ls1 pc H1 locs1 hd hp rfl hP1 hD1 hS1))
theorem hd_Mo_leading : y_Mo_leading.cls ≠ "java/lang/invoke/MethodHandle" ∧ y_Mo_leading.cls ≠ "java/lang/invoke/VarHandle" ∧ (parseMethodDescriptor y_Mo_leading.desc).map (fun d => d.parameters.length) = some 4 := ⟨by decide, by decide, by decide +kernel⟩
