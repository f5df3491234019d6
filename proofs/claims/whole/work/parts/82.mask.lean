/-! ===== what the model asks ===== -/
def ASK (x y w : Int32) (f f' : Nat → Int32) : Prop := ((x < 0 ∨ y < 0 ∨ w < f (40 * x + y : Int32).toNatClampNeg) ∧ f' = f) ∨ (¬ x < 0 ∧ ¬ y < 0 ∧ ¬ w < f (40 * x + y : Int32).toNatClampNeg ∧ f' = upd f (40 * x + y : Int32).toNatClampNeg (w + 1))
/-- asked so far, D, from a pair whose chain is c -/
def AkI (D : Nat → Nat → Prop) (c : Nat) (f0 f : Nat → Int32) : Prop :=
  (∀ x w, x < 24 → w < 40 → f (40 * x + w) = f0 (40 * x + w) ∨ (D x w ∧ f (40 * x + w) = nI (c + 1) ∧ ∃ e, e ≤ c ∧ f0 (40 * x + w) = nI e)) ∧ ∀ x w, D x w → x < 24 → w < 40 → ∃ e, c + 1 ≤ e ∧ e < 2 ^ 31 ∧ f (40 * x + w) = nI e
theorem AkI.start {c : Nat} {f : Nat → Int32} {D : Nat → Nat → Prop} (h : ∀ x w, ¬ D x w) : AkI D c f f := ⟨fun _ _ _ _ => Or.inl rfl, fun x w q => absurd q (h x w)⟩
theorem AkI.same {c : Nat} {f0 f : Nat → Int32} {D D' : Nat → Nat → Prop} (h : AkI D c f0 f) (hD : ∀ x w, x < 24 → w < 40 → (D x w ↔ D' x w)) : AkI D' c f0 f :=
  ⟨fun x w hx hw => (h.1 x w hx hw).imp_right (fun q => ⟨(hD x w hx hw).mp q.1, q.2⟩), fun x w q hx hw => h.2 x w ((hD x w hx hw).mpr q) hx hw⟩
theorem AkI.step {c : Nat} {f0 f f' : Nat → Int32} {D D' : Nat → Nat → Prop} {x y : Int32} (h : AkI D c f0 f) (hf : ∀ q, q < 960 → ∃ e, e < 2 ^ 30 ∧ f0 q = nI e) (hc : c < 2 ^ 30) (hk : ASK x y (nI c) f f') (hx : okx x 24) (hy : okx y 40) (hD : ∀ x' w', x' < 24 → w' < 40 → (D' x' w' ↔ D x' w' ∨ (x = nI x' ∧ y = nI w'))) : AkI D' c f0 f' := by
  obtain ⟨a1, a2⟩ := h
  have val : ∀ x w, x < 24 → w < 40 → ∃ e, e < 2 ^ 31 ∧ f (40 * x + w) = nI e := fun x w hx hw => by
    rcases a1 x w hx hw with q | ⟨_, q, _⟩
    · obtain ⟨e, h1, h2⟩ := hf (40 * x + w) (by omega); exact ⟨e, by omega, by rw [q]; exact h2⟩
    · exact ⟨c + 1, by omega, q⟩
  by_cases hxy : ¬ x < 0 ∧ ¬ y < 0
  · obtain ⟨x0, hx0, rfl⟩ := okx_nn hx hxy.1
    obtain ⟨y0, hy0, rfl⟩ := okx_nn hy hxy.2
    have c4 : (40 * nI x0 + nI y0 : Int32).toNatClampNeg = 40 * x0 + y0 := by rw [jx40, nI_clamp (by omega)]
    have eD : ∀ x' w', x' < 24 → w' < 40 → (D' x' w' ↔ D x' w' ∨ (x' = x0 ∧ w' = y0)) := fun x' w' h1 h2 => by
      rw [hD x' w' h1 h2, nI_eq (by omega) (by omega), nI_eq (by omega) (by omega)]
      exact or_congr_right ⟨fun q => ⟨q.1.symm, q.2.symm⟩, fun q => ⟨q.1.symm, q.2.symm⟩⟩
    obtain ⟨e0, he0, ee0⟩ := val x0 y0 hx0 hy0
    rcases hk with ⟨q, rfl⟩ | ⟨_, _, q, rfl⟩
    · rw [c4, ee0] at q
      have hlt : c < e0 := by
        rcases q with q | q | q
        · exact absurd q hxy.1
        · exact absurd q hxy.2
        · exact (nI_ltI (by omega) (by omega)).mp q
      refine ⟨fun x' w' h1 h2 => ?_, fun x' w' q h1 h2 => ?_⟩
      · rcases a1 x' w' h1 h2 with p | ⟨p1, p2⟩
        · exact Or.inl p
        · exact Or.inr ⟨(eD x' w' h1 h2).mpr (Or.inl p1), p2⟩
      · rcases (eD x' w' h1 h2).mp q with p | ⟨rfl, rfl⟩
        · exact a2 x' w' p h1 h2
        · exact ⟨e0, by omega, he0, ee0⟩
    · rw [c4, ee0] at q
      have hle : e0 ≤ c := by
        rcases Nat.lt_or_ge c e0 with w | w
        · exact absurd ((nI_ltI (by omega) (by omega)).mpr w) q
        · exact w
      rw [c4]
      have at0 : upd f (40 * x0 + y0) (nI c + 1) (40 * x0 + y0) = nI (c + 1) := by rw [upd_at]; exact nI_1 c
      refine ⟨fun x' w' h1 h2 => ?_, fun x' w' q' h1 h2 => ?_⟩
      · by_cases e : x' = x0 ∧ w' = y0
        · obtain ⟨rfl, rfl⟩ := e
          refine Or.inr ⟨(eD x' w' h1 h2).mpr (Or.inr ⟨rfl, rfl⟩), at0, ?_⟩
          rcases a1 x' w' h1 h2 with p | ⟨_, _, p⟩
          · exact ⟨e0, hle, by rw [← p]; exact ee0⟩
          · exact p
        · rw [upd_ne (by omega)]
          rcases a1 x' w' h1 h2 with p | ⟨p1, p2⟩
          · exact Or.inl p
          · exact Or.inr ⟨(eD x' w' h1 h2).mpr (Or.inl p1), p2⟩
      · by_cases e : x' = x0 ∧ w' = y0
        · obtain ⟨rfl, rfl⟩ := e
          exact ⟨c + 1, Nat.le_refl _, by omega, at0⟩
        · rw [upd_ne (by omega)]
          rcases (eD x' w' h1 h2).mp q' with p | p
          · exact a2 x' w' p h1 h2
          · exact absurd p e
  · have hff : f' = f := by
      rcases hk with ⟨_, q⟩ | ⟨q1, q2, _⟩
      · exact q
      · exact absurd ⟨q1, q2⟩ hxy
    subst hff
    have eD : ∀ x' w', x' < 24 → w' < 40 → (D' x' w' ↔ D x' w') := fun x' w' h1 h2 => by
      rw [hD x' w' h1 h2]
      refine ⟨fun q => q.elim id (fun q => ?_), Or.inl⟩
      exact absurd ⟨by rw [q.1]; exact nI_pos (by omega), by rw [q.2]; exact nI_pos (by omega)⟩ hxy
    exact ⟨fun x' w' h1 h2 => (a1 x' w' h1 h2).imp_right (fun q => ⟨(eD x' w' h1 h2).mpr q.1, q.2⟩), fun x' w' q h1 h2 => a2 x' w' ((eD x' w' h1 h2).mp q) h1 h2⟩
theorem AkI.vals {c : Nat} {f0 f : Nat → Int32} {D : Nat → Nat → Prop} (h : AkI D c f0 f) {x w : Nat} (hx : x < 24) (hw : w < 40) (hn : ¬ D x w) : f (40 * x + w) = f0 (40 * x + w) := (h.1 x w hx hw).resolve_right (fun q => hn q.1)
def V_Mo_ask (mki : Nat → Int32) (msz : Nat → Int64) (mle : Nat → Int32) (mel : Nat → Int32) (mme : Nat → Int32) (mal : Nat → Int32) (mic : Nat → Int32) (mil : Nat → Int32) (mio : Nat → Int32) (mab : Nat → Int32) (mae : Nat → Int32) (msa : Nat → Int32) (mlc : Nat → Int32) (mli : Nat → Int32) (mna : Nat → Int32) (mva : Nat → Int32) (mma : Nat → Int32) (mch : Nat → Int32) (mre : Nat → Int32) (mlv : Nat → Int32) (mwr : Nat → Int64) (msh : Nat → Int32) (mth : Int32) (mnv : Int32) (mns : Int32) (mfa : Int32) (mmo : Int32) (x : Int32) (y : Int32) (w : Int32) (post : (Nat → Int32) → (Nat → Int64) → (Nat → Int32) → (Nat → Int32) → (Nat → Int32) → (Nat → Int32) → (Nat → Int32) → (Nat → Int32) → (Nat → Int32) → (Nat → Int32) → (Nat → Int32) → (Nat → Int32) → (Nat → Int32) → (Nat → Int32) → (Nat → Int32) → (Nat → Int32) → (Nat → Int32) → (Nat → Int32) → (Nat → Int32) → (Nat → Int32) → (Nat → Int64) → (Nat → Int32) → Int32 → Int32 → Int32 → Int32 → Int32 → Prop) : Prop :=
  ((x < 0 → post mki msz mle mel mme mal mic mil mio mab mae msa mlc mli mna mva mma mch mre mlv mwr msh mth mnv mns mfa mmo) ∧ (¬ x < 0 → ((y < 0 → post mki msz mle mel mme mal mic mil mio mab mae msa mlc mli mna mva mma mch mre mlv mwr msh mth mnv mns mfa mmo) ∧ (¬ y < 0 → (vp_in ((40 * x) + y) 960 ∧ ((w < (mch ((40 * x) + y : Int32).toNatClampNeg) → post mki msz mle mel mme mal mic mil mio mab mae msa mlc mli mna mva mma mch mre mlv mwr msh mth mnv mns mfa mmo) ∧ (¬ w < (mch ((40 * x) + y : Int32).toNatClampNeg) → (vp_in ((40 * x) + y) 960 ∧ post mki msz mle mel mme mal mic mil mio mab mae msa mlc mli mna mva mma (upd mch ((40 * x) + y : Int32).toNatClampNeg (w + 1)) mre mlv mwr msh mth mnv mns mfa mmo))))))))
set_option maxHeartbeats 4000000 in
set_option maxRecDepth 100000 in
theorem g_Mo_ask {p : Program} {l : Launch} {e : Env} {R : Room} {s : State} {m : MethodId} {args : Array Value} {below : List Frame} {meth : Method} {c : Code} {H : Heap} {locs : List Loc} {cells slots : Nat} {Q : State → Prop} {ls : Array Slot} {A : Nat → Prop} (S : CallFix p m c b_Mo_ask 4 s args W0 R_Mo) (hRf : 0 ≤ R.frames) (hRl : 0 ≤ R.locals) (hRc : cells ≤ R.cells ∧ slots ≤ R.slots) (D : va_G) (b : Nat → Nat) (cI cJ cZ : ClassId) (mki : Nat → Int32) (msz : Nat → Int64) (mle : Nat → Int32) (mel : Nat → Int32) (mme : Nat → Int32) (mal : Nat → Int32) (mic : Nat → Int32) (mil : Nat → Int32) (mio : Nat → Int32) (mab : Nat → Int32) (mae : Nat → Int32) (msa : Nat → Int32) (mlc : Nat → Int32) (mli : Nat → Int32) (mna : Nat → Int32) (mva : Nat → Int32) (mma : Nat → Int32) (mch : Nat → Int32) (mre : Nat → Int32) (mlv : Nat → Int32) (mwr : Nat → Int64) (msh : Nat → Int32) (mth : Int32) (mnv : Int32) (mns : Int32) (mfa : Int32) (mmo : Int32) (x : Int32) (y : Int32) (w : Int32) (hK : va_K D vwCl (tyA cI cJ cZ) s) (hP : va_P D vwCl (wM b cI cJ cZ mki msz mle mel mme mal mic mil mio mab mae msa mlc mli mna mva mma mch mre mlv mwr msh mth mnv mns mfa mmo) H) (hD : va_D A (wM b cI cJ cZ mki msz mle mel mme mal mic mil mio mab mae msa mlc mli mna mva mma mch mre mlv mwr msh mth mnv mns mfa mmo)) (hA : ∀ q, s.heap.size ≤ q → A q) (hS : va_S A s.heap H locs) (hl : lv_has ls 4 [(0, .ref (b 0)), (1, .int x), (2, .int y), (3, .int w)]) {post : (Nat → Int32) → (Nat → Int64) → (Nat → Int32) → (Nat → Int32) → (Nat → Int32) → (Nat → Int32) → (Nat → Int32) → (Nat → Int32) → (Nat → Int32) → (Nat → Int32) → (Nat → Int32) → (Nat → Int32) → (Nat → Int32) → (Nat → Int32) → (Nat → Int32) → (Nat → Int32) → (Nat → Int32) → (Nat → Int32) → (Nat → Int32) → (Nat → Int32) → (Nat → Int64) → (Nat → Int32) → Int32 → Int32 → Int32 → Int32 → Int32 → Prop} (vc : V_Mo_ask mki msz mle mel mme mal mic mil mio mab mae msa mlc mli mna mva mma mch mre mlv mwr msh mth mnv mns mfa mmo x y w post)
    (hret : ∀ (mki : Nat → Int32) (msz : Nat → Int64) (mle : Nat → Int32) (mel : Nat → Int32) (mme : Nat → Int32) (mal : Nat → Int32) (mic : Nat → Int32) (mil : Nat → Int32) (mio : Nat → Int32) (mab : Nat → Int32) (mae : Nat → Int32) (msa : Nat → Int32) (mlc : Nat → Int32) (mli : Nat → Int32) (mna : Nat → Int32) (mva : Nat → Int32) (mma : Nat → Int32) (mch : Nat → Int32) (mre : Nat → Int32) (mlv : Nat → Int32) (mwr : Nat → Int64) (msh : Nat → Int32) (mth : Int32) (mnv : Int32) (mns : Int32) (mfa : Int32) (mmo : Int32) (ls : Array Slot) (pc : Nat) (H : Heap) (locs : List Loc), decode b_Mo_ask pc = .ok (.return_, 1) → post mki msz mle mel mme mal mic mil mio mab mae msa mlc mli mna mva mma mch mre mlv mwr msh mth mnv mns mfa mmo → va_P D vwCl (wM b cI cJ cZ mki msz mle mel mme mal mic mil mio mab mae msa mlc mli mna mva mma mch mre mlv mwr msh mth mnv mns mfa mmo) H → va_D A (wM b cI cJ cZ mki msz mle mel mme mal mic mil mio mab mae msa mlc mli mna mva mma mch mre mlv mwr msh mth mnv mns mfa mmo) → va_S A s.heap H locs → W p l e R s m args below meth c H locs cells slots Q (F0 m pc ls [])) : W p l e R s m args below meth c H locs cells slots Q (F0 m 0 ls []) := by
  have hx := S.1
  have hb := S.2.1
  have hown := S.2.2.2.1
  have hts := S.2.2.2.2
  unfold V_Mo_ask at vc
  refine lv_iload_n hx hb d_Mo_ask_0 rfl (lv_at hl 1 rfl) ?_
  refine lv_if_lt (tgt := 37) hx hb d_Mo_ask_1 (by decide) (fun h => ?_) (fun h => ?_)
  · have vc := vc.1 h
    exact hret _ _ _ _ _ _ _ _ _ _ _ _ _ _ _ _ _ _ _ _ _ _ _ _ _ _ _ ls _ H locs d_Mo_ask_37 vc hP hD hS
  · have vc := vc.2 h
    refine lv_iload_n hx hb d_Mo_ask_4 rfl (lv_at hl 2 rfl) ?_
    refine lv_if_lt (tgt := 37) hx hb d_Mo_ask_5 (by decide) (fun h => ?_) (fun h => ?_)
    · have vc := vc.1 h
      exact hret _ _ _ _ _ _ _ _ _ _ _ _ _ _ _ _ _ _ _ _ _ _ _ _ _ _ _ ls _ H locs d_Mo_ask_37 vc hP hD hS
    · have vc := vc.2 h
      refine lv_aload_n hx hb d_Mo_ask_8 rfl (lv_at hl 0 rfl) ?_
      refine va_get (D := D) (ci := 6) (v := .ref (b 18)) (C := R_Mo) (T := F_Mo) (N := 27) hx hb hts in_Mo hown hK hP 0 rfl rfl 20 (by decide) (hts _ fl_Mo_63) (fun _ h => h) rfl d_Mo_ask_9 ?_
      refine lv_bipush (v := 40) hx hb d_Mo_ask_12 (by decide) ?_
      refine lv_iload_n hx hb d_Mo_ask_14 rfl (lv_at hl 1 rfl) ?_
      refine lv_imul hx hb d_Mo_ask_15 ?_
      refine lv_iload_n hx hb d_Mo_ask_16 rfl (lv_at hl 2 rfl) ?_
      refine lv_iadd hx hb d_Mo_ask_17 ?_
      obtain ⟨vcb, vc⟩ := vc
      refine va_iald hx hb hK hP 18 0 rfl rfl vcb d_Mo_ask_18 ?_
      refine lv_iload_n hx hb d_Mo_ask_19 rfl (lv_at hl 3 rfl) ?_
      refine lv_icmp_gt (tgt := 37) hx hb d_Mo_ask_20 (by decide) (fun h => ?_) (fun h => ?_)
      · have vc := vc.1 h
        exact hret _ _ _ _ _ _ _ _ _ _ _ _ _ _ _ _ _ _ _ _ _ _ _ _ _ _ _ ls _ H locs d_Mo_ask_37 vc hP hD hS
      · have vc := vc.2 h
        refine lv_aload_n hx hb d_Mo_ask_23 rfl (lv_at hl 0 rfl) ?_
        refine va_get (D := D) (ci := 6) (v := .ref (b 18)) (C := R_Mo) (T := F_Mo) (N := 27) hx hb hts in_Mo hown hK hP 0 rfl rfl 20 (by decide) (hts _ fl_Mo_63) (fun _ h => h) rfl d_Mo_ask_24 ?_
        refine lv_bipush (v := 40) hx hb d_Mo_ask_27 (by decide) ?_
        refine lv_iload_n hx hb d_Mo_ask_29 rfl (lv_at hl 1 rfl) ?_
        refine lv_imul hx hb d_Mo_ask_30 ?_
        refine lv_iload_n hx hb d_Mo_ask_31 rfl (lv_at hl 2 rfl) ?_
        refine lv_iadd hx hb d_Mo_ask_32 ?_
        refine lv_iload_n hx hb d_Mo_ask_33 rfl (lv_at hl 3 rfl) ?_
        refine lv_iconst (v := 1) hx hb d_Mo_ask_34 (by decide) ?_
        refine lv_iadd hx hb d_Mo_ask_35 ?_
        obtain ⟨vcb, vc⟩ := vc
        refine va_iast hx hb hK hP hD hS 18 0 rfl rfl vcb d_Mo_ask_36 (fun H locs hP hD hS => ?_)
        have hP : va_P D vwCl (wM b cI cJ cZ mki msz mle mel mme mal mic mil mio mab mae msa mlc mli mna mva mma (upd mch ((40 * x) + y : Int32).toNatClampNeg (w + 1)) mre mlv mwr msh mth mnv mns mfa mmo) H := hP
        have hD : va_D A (wM b cI cJ cZ mki msz mle mel mme mal mic mil mio mab mae msa mlc mli mna mva mma (upd mch ((40 * x) + y : Int32).toNatClampNeg (w + 1)) mre mlv mwr msh mth mnv mns mfa mmo) := hD
        exact hret _ _ _ _ _ _ _ _ _ _ _ _ _ _ _ _ _ _ _ _ _ _ _ _ _ _ _ ls _ H locs d_Mo_ask_37 vc hP hD hS
set_option maxHeartbeats 4000000 in
theorem v_Mo_ask (mki : Nat → Int32) (msz : Nat → Int64) (mle : Nat → Int32) (mel : Nat → Int32) (mme : Nat → Int32) (mal : Nat → Int32) (mic : Nat → Int32) (mil : Nat → Int32) (mio : Nat → Int32) (mab : Nat → Int32) (mae : Nat → Int32) (msa : Nat → Int32) (mlc : Nat → Int32) (mli : Nat → Int32) (mna : Nat → Int32) (mva : Nat → Int32) (mma : Nat → Int32) (mch : Nat → Int32) (mre : Nat → Int32) (mlv : Nat → Int32) (mwr : Nat → Int64) (msh : Nat → Int32) (mth : Int32) (mnv : Int32) (mns : Int32) (mfa : Int32) (mmo : Int32) (x : Int32) (y : Int32) (w : Int32) (hpre : (okx x 24 ∧ okx y 40)) : V_Mo_ask mki msz mle mel mme mal mic mil mio mab mae msa mlc mli mna mva mma mch mre mlv mwr msh mth mnv mns mfa mmo x y w (fun mki' msz' mle' mel' mme' mal' mic' mil' mio' mab' mae' msa' mlc' mli' mna' mva' mma' mch' mre' mlv' mwr' msh' mth' mnv' mns' mfa' mmo' => (ASK x y w mch mch') ∧ mki' = mki ∧ msz' = msz ∧ mle' = mle ∧ mel' = mel ∧ mme' = mme ∧ mal' = mal ∧ mic' = mic ∧ mil' = mil ∧ mio' = mio ∧ mab' = mab ∧ mae' = mae ∧ msa' = msa ∧ mlc' = mlc ∧ mli' = mli ∧ mna' = mna ∧ mva' = mva ∧ mma' = mma ∧ mre' = mre ∧ mlv' = mlv ∧ mwr' = mwr ∧ msh' = msh ∧ mth' = mth ∧ mnv' = mnv ∧ mns' = mns ∧ mfa' = mfa ∧ mmo' = mmo) := by
  have main : ∀ post : (Nat → Int32) → (Nat → Int64) → (Nat → Int32) → (Nat → Int32) → (Nat → Int32) → (Nat → Int32) → (Nat → Int32) → (Nat → Int32) → (Nat → Int32) → (Nat → Int32) → (Nat → Int32) → (Nat → Int32) → (Nat → Int32) → (Nat → Int32) → (Nat → Int32) → (Nat → Int32) → (Nat → Int32) → (Nat → Int32) → (Nat → Int32) → (Nat → Int32) → (Nat → Int64) → (Nat → Int32) → Int32 → Int32 → Int32 → Int32 → Int32 → Prop, (∀ mki' msz' mle' mel' mme' mal' mic' mil' mio' mab' mae' msa' mlc' mli' mna' mva' mma' mch' mre' mlv' mwr' msh' mth' mnv' mns' mfa' mmo', (fun mki' msz' mle' mel' mme' mal' mic' mil' mio' mab' mae' msa' mlc' mli' mna' mva' mma' mch' mre' mlv' mwr' msh' mth' mnv' mns' mfa' mmo' => (ASK x y w mch mch') ∧ mki' = mki ∧ msz' = msz ∧ mle' = mle ∧ mel' = mel ∧ mme' = mme ∧ mal' = mal ∧ mic' = mic ∧ mil' = mil ∧ mio' = mio ∧ mab' = mab ∧ mae' = mae ∧ msa' = msa ∧ mlc' = mlc ∧ mli' = mli ∧ mna' = mna ∧ mva' = mva ∧ mma' = mma ∧ mre' = mre ∧ mlv' = mlv ∧ mwr' = mwr ∧ msh' = msh ∧ mth' = mth ∧ mnv' = mnv ∧ mns' = mns ∧ mfa' = mfa ∧ mmo' = mmo) mki' msz' mle' mel' mme' mal' mic' mil' mio' mab' mae' msa' mlc' mli' mna' mva' mma' mch' mre' mlv' mwr' msh' mth' mnv' mns' mfa' mmo' → post mki' msz' mle' mel' mme' mal' mic' mil' mio' mab' mae' msa' mlc' mli' mna' mva' mma' mch' mre' mlv' mwr' msh' mth' mnv' mns' mfa' mmo') → V_Mo_ask mki msz mle mel mme mal mic mil mio mab mae msa mlc mli mna mva mma mch mre mlv mwr msh mth mnv mns mfa mmo x y w post := by
    intro post hpost
    unfold V_Mo_ask
    have hin : ¬ x < 0 → ¬ y < 0 → vp_in (40 * x + y) 960 := fun h1 h2 => by
      obtain ⟨x0, hx, rfl⟩ := okx_nn hpre.1 h1
      obtain ⟨y0, hy, rfl⟩ := okx_nn hpre.2 h2
      rw [jx40]; exact vp_in_nI (by omega) (by decide)
    exact ⟨fun h => (hpost _ _ _ _ _ _ _ _ _ _ _ _ _ _ _ _ _ _ _ _ _ _ _ _ _ _ _ ⟨Or.inl ⟨Or.inl h, rfl⟩, rfl, rfl, rfl, rfl, rfl, rfl, rfl, rfl, rfl, rfl, rfl, rfl, rfl, rfl, rfl, rfl, rfl, rfl, rfl, rfl, rfl, rfl, rfl, rfl, rfl, rfl⟩), fun h => ⟨fun h2 => (hpost _ _ _ _ _ _ _ _ _ _ _ _ _ _ _ _ _ _ _ _ _ _ _ _ _ _ _ ⟨Or.inl ⟨Or.inr (Or.inl h2), rfl⟩, rfl, rfl, rfl, rfl, rfl, rfl, rfl, rfl, rfl, rfl, rfl, rfl, rfl, rfl, rfl, rfl, rfl, rfl, rfl, rfl, rfl, rfl, rfl, rfl, rfl, rfl⟩), fun h2 => ⟨hin h h2, fun h3 => (hpost _ _ _ _ _ _ _ _ _ _ _ _ _ _ _ _ _ _ _ _ _ _ _ _ _ _ _ ⟨Or.inl ⟨Or.inr (Or.inr h3), rfl⟩, rfl, rfl, rfl, rfl, rfl, rfl, rfl, rfl, rfl, rfl, rfl, rfl, rfl, rfl, rfl, rfl, rfl, rfl, rfl, rfl, rfl, rfl, rfl, rfl, rfl, rfl⟩), fun h3 => ⟨hin h h2, (hpost _ _ _ _ _ _ _ _ _ _ _ _ _ _ _ _ _ _ _ _ _ _ _ _ _ _ _ ⟨Or.inr ⟨h, h2, h3, rfl⟩, rfl, rfl, rfl, rfl, rfl, rfl, rfl, rfl, rfl, rfl, rfl, rfl, rfl, rfl, rfl, rfl, rfl, rfl, rfl, rfl, rfl, rfl, rfl, rfl, rfl, rfl⟩)⟩⟩⟩⟩
  exact main _ (fun _ _ _ _ _ _ _ _ _ _ _ _ _ _ _ _ _ _ _ _ _ _ _ _ _ _ _ h => h)
theorem c_Mo_ask (l : Launch) (D : va_G) (b : Nat → Nat) (cI cJ cZ : ClassId) (mki : Nat → Int32) (msz : Nat → Int64) (mle : Nat → Int32) (mel : Nat → Int32) (mme : Nat → Int32) (mal : Nat → Int32) (mic : Nat → Int32) (mil : Nat → Int32) (mio : Nat → Int32) (mab : Nat → Int32) (mae : Nat → Int32) (msa : Nat → Int32) (mlc : Nat → Int32) (mli : Nat → Int32) (mna : Nat → Int32) (mva : Nat → Int32) (mma : Nat → Int32) (mch : Nat → Int32) (mre : Nat → Int32) (mlv : Nat → Int32) (mwr : Nat → Int64) (msh : Nat → Int32) (mth : Int32) (mnv : Int32) (mns : Int32) (mfa : Int32) (mmo : Int32) (x : Int32) (y : Int32) (w : Int32) (hpre : (okx x 24 ∧ okx y 40)) : Wm (S := (Nat → Int32)) l y_Mo_ask b_Mo_ask 4 none 0 0 [.ref (b 0), .int x, .int y, .int w] D (tyA cI cJ cZ) (wM b cI cJ cZ mki msz mle mel mme mal mic mil mio mab mae msa mlc mli mna mva mma mch mre mlv mwr msh mth mnv mns mfa mmo) (fun uu => ASK x y w mch uu) (fun uu => none) (fun uu => (wM b cI cJ cZ mki msz mle mel mme mal mic mil mio mab mae msa mlc mli mna mva mma uu mre mlv mwr msh mth mnv mns mfa mmo)) :=
  wm_v (by decide) (Nat.le_of_ble_eq_true rfl) (fun p e s m below meth c ls Q A S hK hP hD hA hS hl hret => g_Mo_ask S (Nat.le_refl _) (Nat.le_refl _) ⟨Nat.le_refl _, Nat.le_refl _⟩ D b cI cJ cZ mki msz mle mel mme mal mic mil mio mab mae msa mlc mli mna mva mma mch mre mlv mwr msh mth mnv mns mfa mmo x y w hK hP hD hA hS hl (v_Mo_ask mki msz mle mel mme mal mic mil mio mab mae msa mlc mli mna mva mma mch mre mlv mwr msh mth mnv mns mfa mmo x y w hpre) (fun mki' msz' mle' mel' mme' mal' mic' mil' mio' mab' mae' msa' mlc' mli' mna' mva' mma' mch' mre' mlv' mwr' msh' mth' mnv' mns' mfa' mmo' ls1 pc H1 locs1 hd hv hP1 hD1 hS1 => by obtain ⟨hp, rfl, rfl, rfl, rfl, rfl, rfl, rfl, rfl, rfl, rfl, rfl, rfl, rfl, rfl, rfl, rfl, rfl, rfl, rfl, rfl, rfl, rfl, rfl, rfl, rfl, rfl⟩ := hv; exact hret mch' ls1 pc H1 locs1 hd hp hP1 hD1 hS1))
theorem hd_Mo_ask : y_Mo_ask.cls ≠ "java/lang/invoke/MethodHandle" ∧ y_Mo_ask.cls ≠ "java/lang/invoke/VarHandle" ∧ (parseMethodDescriptor y_Mo_ask.desc).map (fun d => d.parameters.length) = some 3 := ⟨by decide, by decide, by decide +kernel⟩
def V_Mo_askElements (mki : Nat → Int32) (msz : Nat → Int64) (mle : Nat → Int32) (mel : Nat → Int32) (mme : Nat → Int32) (mal : Nat → Int32) (mic : Nat → Int32) (mil : Nat → Int32) (mio : Nat → Int32) (mab : Nat → Int32) (mae : Nat → Int32) (msa : Nat → Int32) (mlc : Nat → Int32) (mli : Nat → Int32) (mna : Nat → Int32) (mva : Nat → Int32) (mma : Nat → Int32) (mch : Nat → Int32) (mre : Nat → Int32) (mlv : Nat → Int32) (mwr : Nat → Int64) (msh : Nat → Int32) (mth : Int32) (mnv : Int32) (mns : Int32) (mfa : Int32) (mmo : Int32) (x : Int32) (y : Int32) (w : Int32) (f : Int32) (post : (Nat → Int32) → (Nat → Int64) → (Nat → Int32) → (Nat → Int32) → (Nat → Int32) → (Nat → Int32) → (Nat → Int32) → (Nat → Int32) → (Nat → Int32) → (Nat → Int32) → (Nat → Int32) → (Nat → Int32) → (Nat → Int32) → (Nat → Int32) → (Nat → Int32) → (Nat → Int32) → (Nat → Int32) → (Nat → Int32) → (Nat → Int32) → (Nat → Int32) → (Nat → Int64) → (Nat → Int32) → Int32 → Int32 → Int32 → Int32 → Int32 → Prop) : Prop :=
  (∃ (I7 : Int32 → (Nat → Int32) → Prop) (mI7 : Int32 → (Nat → Int32) → Nat), I7 0 mch ∧ (∀ (x5 : Int32) (f6 : Nat → Int32), I7 x5 f6 → (vp_in y 40 ∧ (((mle y.toNatClampNeg) ≤ x5 → post mki msz mle mel mme mal mic mil mio mab mae msa mlc mli mna mva mma f6 mre mlv mwr msh mth mnv mns mfa mmo) ∧ (¬ (mle y.toNatClampNeg) ≤ x5 → (vp_in y 40 ∧ ((¬ (mki y.toNatClampNeg) = 4 → post mki msz mle mel mme mal mic mil mio mab mae msa mlc mli mna mva mma f6 mre mlv mwr msh mth mnv mns mfa mmo) ∧ ((mki y.toNatClampNeg) = 4 → (∃ J8 : Int32 → Prop, ((¬ ((w >>> (x5 &&& 31)) &&& 1) = 1 → J8 (-1)) ∧ (((w >>> (x5 &&& 31)) &&& 1) = 1 → J8 x)) ∧ (∀ (x9 : Int32), J8 x9 → (vp_in ((8 * y) + x5) 320 ∧ ((okx x9 24 ∧ okx (mel ((8 * y) + x5 : Int32).toNatClampNeg) 40) ∧ (∀ (f10 : Nat → Int32), (ASK x9 (mel ((8 * y) + x5 : Int32).toNatClampNeg) f f6 f10) → (I7 (x5 + 1) f10 ∧ mI7 (x5 + 1) f10 < mI7 x5 f6))))))))))))))
set_option maxHeartbeats 4000000 in
set_option maxRecDepth 100000 in
theorem g_Mo_askElements {p : Program} {l : Launch} {e : Env} {R : Room} {s : State} {m : MethodId} {args : Array Value} {below : List Frame} {meth : Method} {c : Code} {H : Heap} {locs : List Loc} {cells slots : Nat} {Q : State → Prop} {ls : Array Slot} {A : Nat → Prop} (S : CallFix p m c b_Mo_askElements 6 s args W0 R_Mo) (hRf : 1 ≤ R.frames) (hRl : 23 ≤ R.locals) (hRc : cells ≤ R.cells ∧ slots ≤ R.slots) (D : va_G) (b : Nat → Nat) (cI cJ cZ : ClassId) (mki : Nat → Int32) (msz : Nat → Int64) (mle : Nat → Int32) (mel : Nat → Int32) (mme : Nat → Int32) (mal : Nat → Int32) (mic : Nat → Int32) (mil : Nat → Int32) (mio : Nat → Int32) (mab : Nat → Int32) (mae : Nat → Int32) (msa : Nat → Int32) (mlc : Nat → Int32) (mli : Nat → Int32) (mna : Nat → Int32) (mva : Nat → Int32) (mma : Nat → Int32) (mch : Nat → Int32) (mre : Nat → Int32) (mlv : Nat → Int32) (mwr : Nat → Int64) (msh : Nat → Int32) (mth : Int32) (mnv : Int32) (mns : Int32) (mfa : Int32) (mmo : Int32) (x : Int32) (y : Int32) (w : Int32) (f : Int32) (hK : va_K D vwCl (tyA cI cJ cZ) s) (hP : va_P D vwCl (wM b cI cJ cZ mki msz mle mel mme mal mic mil mio mab mae msa mlc mli mna mva mma mch mre mlv mwr msh mth mnv mns mfa mmo) H) (hD : va_D A (wM b cI cJ cZ mki msz mle mel mme mal mic mil mio mab mae msa mlc mli mna mva mma mch mre mlv mwr msh mth mnv mns mfa mmo)) (hA : ∀ q, s.heap.size ≤ q → A q) (hS : va_S A s.heap H locs) (hl : lv_has ls 6 [(0, .ref (b 0)), (1, .int x), (2, .int y), (3, .int w), (4, .int f)]) {post : (Nat → Int32) → (Nat → Int64) → (Nat → Int32) → (Nat → Int32) → (Nat → Int32) → (Nat → Int32) → (Nat → Int32) → (Nat → Int32) → (Nat → Int32) → (Nat → Int32) → (Nat → Int32) → (Nat → Int32) → (Nat → Int32) → (Nat → Int32) → (Nat → Int32) → (Nat → Int32) → (Nat → Int32) → (Nat → Int32) → (Nat → Int32) → (Nat → Int32) → (Nat → Int64) → (Nat → Int32) → Int32 → Int32 → Int32 → Int32 → Int32 → Prop} (vc : V_Mo_askElements mki msz mle mel mme mal mic mil mio mab mae msa mlc mli mna mva mma mch mre mlv mwr msh mth mnv mns mfa mmo x y w f post)
    (hret : ∀ (mki : Nat → Int32) (msz : Nat → Int64) (mle : Nat → Int32) (mel : Nat → Int32) (mme : Nat → Int32) (mal : Nat → Int32) (mic : Nat → Int32) (mil : Nat → Int32) (mio : Nat → Int32) (mab : Nat → Int32) (mae : Nat → Int32) (msa : Nat → Int32) (mlc : Nat → Int32) (mli : Nat → Int32) (mna : Nat → Int32) (mva : Nat → Int32) (mma : Nat → Int32) (mch : Nat → Int32) (mre : Nat → Int32) (mlv : Nat → Int32) (mwr : Nat → Int64) (msh : Nat → Int32) (mth : Int32) (mnv : Int32) (mns : Int32) (mfa : Int32) (mmo : Int32) (ls : Array Slot) (pc : Nat) (H : Heap) (locs : List Loc), decode b_Mo_askElements pc = .ok (.return_, 1) → post mki msz mle mel mme mal mic mil mio mab mae msa mlc mli mna mva mma mch mre mlv mwr msh mth mnv mns mfa mmo → va_P D vwCl (wM b cI cJ cZ mki msz mle mel mme mal mic mil mio mab mae msa mlc mli mna mva mma mch mre mlv mwr msh mth mnv mns mfa mmo) H → va_D A (wM b cI cJ cZ mki msz mle mel mme mal mic mil mio mab mae msa mlc mli mna mva mma mch mre mlv mwr msh mth mnv mns mfa mmo) → va_S A s.heap H locs → W p l e R s m args below meth c H locs cells slots Q (F0 m pc ls [])) : W p l e R s m args below meth c H locs cells slots Q (F0 m 0 ls []) := by
  have hx := S.1
  have hb := S.2.1
  have hown := S.2.2.2.1
  have hts := S.2.2.2.2
  unfold V_Mo_askElements at vc
  refine lv_iconst (v := 0) hx hb d_Mo_askElements_0 (by decide) ?_
  refine lv_istore hx hb d_Mo_askElements_1 hl (by decide) (lv' := [(5, .int 0), (0, .ref (b 0)), (1, .int x), (2, .int y), (3, .int w), (4, .int f)]) rfl (fun ls hl => ?_)
  obtain ⟨I7, mI7, vc0, vcs⟩ := vc
  have lI7 : ∀ n : Nat, ∀ (x5 : Int32) (f6 : Nat → Int32) (ls : Array Slot) (H : Heap) (locs : List Loc), I7 x5 f6 → mI7 x5 f6 < n → lv_has ls 6 [(0, .ref (b 0)), (1, .int x), (2, .int y), (3, .int w), (4, .int f), (5, .int x5)] → va_P D vwCl (wM b cI cJ cZ mki msz mle mel mme mal mic mil mio mab mae msa mlc mli mna mva mma f6 mre mlv mwr msh mth mnv mns mfa mmo) H → va_D A (wM b cI cJ cZ mki msz mle mel mme mal mic mil mio mab mae msa mlc mli mna mva mma f6 mre mlv mwr msh mth mnv mns mfa mmo) → va_S A s.heap H locs → W p l e R s m args below meth c H locs cells slots Q (F0 m 3 ls []) := by
    intro n
    induction n with
    | zero => intro x5 f6 ls H locs _ h; exact absurd h (Nat.not_lt_zero _)
    | succ n ihI7 =>
      intro x5 f6 ls H locs vc hmI7 hl hP hD hS
      have vc := vcs x5 f6 vc
      refine lv_iload hx hb d_Mo_askElements_3 (lv_at hl 5 rfl) ?_
      refine lv_aload_n hx hb d_Mo_askElements_5 rfl (lv_at hl 0 rfl) ?_
      refine va_get (D := D) (ci := 6) (v := .ref (b 3)) (C := R_Mo) (T := F_Mo) (N := 27) hx hb hts in_Mo hown hK hP 0 rfl rfl 4 (by decide) (hts _ fl_Mo_17) (fun _ h => h) rfl d_Mo_askElements_6 ?_
      refine lv_iload_n hx hb d_Mo_askElements_9 rfl (lv_at hl 2 rfl) ?_
      obtain ⟨vcb, vc⟩ := vc
      refine va_iald hx hb hK hP 3 0 rfl rfl vcb d_Mo_askElements_10 ?_
      refine lv_icmp_ge (tgt := 63) hx hb d_Mo_askElements_11 (by decide) (fun h => ?_) (fun h => ?_)
      · have vc := vc.1 h
        exact hret _ _ _ _ _ _ _ _ _ _ _ _ _ _ _ _ _ _ _ _ _ _ _ _ _ _ _ ls _ H locs d_Mo_askElements_63 vc hP hD hS
      · have vc := vc.2 h
        refine lv_aload_n hx hb d_Mo_askElements_14 rfl (lv_at hl 0 rfl) ?_
        refine va_get (D := D) (ci := 6) (v := .ref (b 1)) (C := R_Mo) (T := F_Mo) (N := 27) hx hb hts in_Mo hown hK hP 0 rfl rfl 2 (by decide) (hts _ fl_Mo_7) (fun _ h => h) rfl d_Mo_askElements_15 ?_
        refine lv_iload_n hx hb d_Mo_askElements_18 rfl (lv_at hl 2 rfl) ?_
        obtain ⟨vcb, vc⟩ := vc
        refine va_iald hx hb hK hP 1 0 rfl rfl vcb d_Mo_askElements_19 ?_
        refine lv_iconst (v := 4) hx hb d_Mo_askElements_20 (by decide) ?_
        refine lv_icmp_ne (tgt := 63) hx hb d_Mo_askElements_21 (by decide) (fun h => ?_) (fun h => ?_)
        · have vc := vc.1 h
          exact hret _ _ _ _ _ _ _ _ _ _ _ _ _ _ _ _ _ _ _ _ _ _ _ _ _ _ _ ls _ H locs d_Mo_askElements_63 vc hP hD hS
        · have vc := vc.2 h
          refine lv_aload_n hx hb d_Mo_askElements_24 rfl (lv_at hl 0 rfl) ?_
          refine lv_iload_n hx hb d_Mo_askElements_25 rfl (lv_at hl 3 rfl) ?_
          refine lv_iload hx hb d_Mo_askElements_26 (lv_at hl 5 rfl) ?_
          refine lv_ishr hx hb d_Mo_askElements_28 ?_
          refine lv_iconst (v := 1) hx hb d_Mo_askElements_29 (by decide) ?_
          refine lv_iand hx hb d_Mo_askElements_30 ?_
          refine lv_iconst (v := 1) hx hb d_Mo_askElements_31 (by decide) ?_
          obtain ⟨J8, vc, vc2⟩ := vc
          have jJ8 : ∀ (x9 : Int32) (ls : Array Slot) (H : Heap) (locs : List Loc), J8 x9 → lv_has ls 6 [(0, .ref (b 0)), (1, .int x), (2, .int y), (3, .int w), (4, .int f), (5, .int x5)] → va_P D vwCl (wM b cI cJ cZ mki msz mle mel mme mal mic mil mio mab mae msa mlc mli mna mva mma f6 mre mlv mwr msh mth mnv mns mfa mmo) H → va_D A (wM b cI cJ cZ mki msz mle mel mme mal mic mil mio mab mae msa mlc mli mna mva mma f6 mre mlv mwr msh mth mnv mns mfa mmo) → va_S A s.heap H locs → W p l e R s m args below meth c H locs cells slots Q (F0 m 40 ls [.int x9, .ref (b 0)]) := by
            intro x9 ls H locs vc hl hP hD hS
            have vc := vc2 x9 vc
            refine lv_aload_n hx hb d_Mo_askElements_40 rfl (lv_at hl 0 rfl) ?_
            refine va_get (D := D) (ci := 6) (v := .ref (b 4)) (C := R_Mo) (T := F_Mo) (N := 27) hx hb hts in_Mo hown hK hP 0 rfl rfl 5 (by decide) (hts _ fl_Mo_20) (fun _ h => h) rfl d_Mo_askElements_41 ?_
            refine lv_bipush (v := 8) hx hb d_Mo_askElements_44 (by decide) ?_
            refine lv_iload_n hx hb d_Mo_askElements_46 rfl (lv_at hl 2 rfl) ?_
            refine lv_imul hx hb d_Mo_askElements_47 ?_
            refine lv_iload hx hb d_Mo_askElements_48 (lv_at hl 5 rfl) ?_
            refine lv_iadd hx hb d_Mo_askElements_50 ?_
            obtain ⟨vcb, vc⟩ := vc
            refine va_iald hx hb hK hP 4 0 rfl rfl vcb d_Mo_askElements_51 ?_
            refine lv_iload hx hb d_Mo_askElements_52 (lv_at hl 4 rfl) ?_
            obtain ⟨hpre, vc⟩ := vc
            refine wc_V (As := [.int x9, .int (mel ((8 * y) + x5 : Int32).toNatClampNeg), .int f]) (rest := []) (wr := ([] : va_W)) S (c_Mo_ask l D b cI cJ cZ mki msz mle mel mme mal mic mil mio mab mae msa mlc mli mna mva mma f6 mre mlv mwr msh mth mnv mns mfa mmo x9 (mel ((8 * y) + x5 : Int32).toNatClampNeg) f hpre) k_Mo_ask i_Mo_ask e_Mo_ask o_Mo ml_Mo_234 hd_Mo_ask (Nat.le_trans (by decide) hRf) (Nat.le_trans (by decide) hRl) hRc (va_recv hK hP (q0 := 0) (ci := 6) rfl rfl) hK hP hD hS hA [0, 1, 2, 3, 4, 5, 6, 7, 8, 9, 10, 11, 12, 13, 14, 15, 16, 17, 18, 19, 20, 21, 22] [] rfl rfl rfl (by decide) (by decide) (by decide) hl.1 rfl (Nat.le_of_ble_eq_true rfl) d_Mo_askElements_54 (fun f10 H locs hu hP hD hS => ?_)
            have vc := vc f10 hu
            clear hu
            have hP : va_P D vwCl (wM b cI cJ cZ mki msz mle mel mme mal mic mil mio mab mae msa mlc mli mna mva mma f10 mre mlv mwr msh mth mnv mns mfa mmo) H := hP
            have hD : va_D A (wM b cI cJ cZ mki msz mle mel mme mal mic mil mio mab mae msa mlc mli mna mva mma f10 mre mlv mwr msh mth mnv mns mfa mmo) := hD
            refine lv_iinc (k := 5) (v := x5 + 1) hx hb d_Mo_askElements_57 hl rfl rfl (by decide) (lv' := [(5, .int (x5 + 1)), (0, .ref (b 0)), (1, .int x), (2, .int y), (3, .int w), (4, .int f)]) rfl (fun ls hl => ?_)
            refine lv_goto (tgt := 3) hx hb d_Mo_askElements_60 (by decide) ?_
            exact ihI7 (x5 + 1) f10 ls H locs vc.1 (Nat.lt_of_lt_of_le vc.2 (Nat.le_of_lt_succ hmI7)) (lv_sub hl [1, 2, 3, 4, 5, 0] rfl) hP hD hS
          clear vc2
          refine lv_icmp_ne (tgt := 39) hx hb d_Mo_askElements_32 (by decide) (fun h => ?_) (fun h => ?_)
          · have vc := vc.1 h
            refine lv_iconst (v := (-1)) hx hb d_Mo_askElements_39 (by decide) ?_
            exact jJ8 (-1) ls H locs vc (lv_sub hl [0, 1, 2, 3, 4, 5] rfl) hP hD hS
          · have vc := vc.2 h
            refine lv_iload_n hx hb d_Mo_askElements_35 rfl (lv_at hl 1 rfl) ?_
            refine lv_goto (tgt := 40) hx hb d_Mo_askElements_36 (by decide) ?_
            exact jJ8 x ls H locs vc (lv_sub hl [0, 1, 2, 3, 4, 5] rfl) hP hD hS
  exact lI7 _ 0 mch ls H locs vc0 (Nat.lt_succ_self _) (lv_sub hl [1, 2, 3, 4, 5, 0] rfl) hP hD hS
set_option maxHeartbeats 4000000 in
theorem v_Mo_askElements (mki : Nat → Int32) (msz : Nat → Int64) (mle : Nat → Int32) (mel : Nat → Int32) (mme : Nat → Int32) (mal : Nat → Int32) (mic : Nat → Int32) (mil : Nat → Int32) (mio : Nat → Int32) (mab : Nat → Int32) (mae : Nat → Int32) (msa : Nat → Int32) (mlc : Nat → Int32) (mli : Nat → Int32) (mna : Nat → Int32) (mva : Nat → Int32) (mma : Nat → Int32) (mch : Nat → Int32) (mre : Nat → Int32) (mlv : Nat → Int32) (mwr : Nat → Int64) (msh : Nat → Int32) (mth : Int32) (mnv : Int32) (mns : Int32) (mfa : Int32) (mmo : Int32) (x : Int32) (y : Int32) (w : Int32) (f : Int32) (hpre : (∃ v0 c0 : Nat, v0 < 40 ∧ y = nI v0 ∧ okx x 24 ∧ f = nI c0 ∧ c0 < 2 ^ 30 ∧ MVOK mki msz mle mel mme 40)) : V_Mo_askElements mki msz mle mel mme mal mic mil mio mab mae msa mlc mli mna mva mma mch mre mlv mwr msh mth mnv mns mfa mmo x y w f (fun mki' msz' mle' mel' mme' mal' mic' mil' mio' mab' mae' msa' mlc' mli' mna' mva' mma' mch' mre' mlv' mwr' msh' mth' mnv' mns' mfa' mmo' => ((∀ (f0 : Nat → Int32) (D0 : Nat → Nat → Prop) (c0 : Nat), f = nI c0 → c0 < 2 ^ 30 → (∀ q, q < 960 → ∃ e, e < 2 ^ 30 ∧ f0 q = nI e) → AkI D0 c0 f0 mch → AkI (fun x1 w1 => D0 x1 w1 ∨ (x = nI x1 ∧ mki y.toNatClampNeg = 4 ∧ ∃ i, i < (mle y.toNatClampNeg).toNatClampNeg ∧ bt w i = true ∧ mel (8 * y.toNatClampNeg + i) = nI w1)) c0 f0 mch')) ∧ mki' = mki ∧ msz' = msz ∧ mle' = mle ∧ mel' = mel ∧ mme' = mme ∧ mal' = mal ∧ mic' = mic ∧ mil' = mil ∧ mio' = mio ∧ mab' = mab ∧ mae' = mae ∧ msa' = msa ∧ mlc' = mlc ∧ mli' = mli ∧ mna' = mna ∧ mva' = mva ∧ mma' = mma ∧ mre' = mre ∧ mlv' = mlv ∧ mwr' = mwr ∧ msh' = msh ∧ mth' = mth ∧ mnv' = mnv ∧ mns' = mns ∧ mfa' = mfa ∧ mmo' = mmo) := by
  have main : ∀ post : (Nat → Int32) → (Nat → Int64) → (Nat → Int32) → (Nat → Int32) → (Nat → Int32) → (Nat → Int32) → (Nat → Int32) → (Nat → Int32) → (Nat → Int32) → (Nat → Int32) → (Nat → Int32) → (Nat → Int32) → (Nat → Int32) → (Nat → Int32) → (Nat → Int32) → (Nat → Int32) → (Nat → Int32) → (Nat → Int32) → (Nat → Int32) → (Nat → Int32) → (Nat → Int64) → (Nat → Int32) → Int32 → Int32 → Int32 → Int32 → Int32 → Prop, (∀ mki' msz' mle' mel' mme' mal' mic' mil' mio' mab' mae' msa' mlc' mli' mna' mva' mma' mch' mre' mlv' mwr' msh' mth' mnv' mns' mfa' mmo', (fun mki' msz' mle' mel' mme' mal' mic' mil' mio' mab' mae' msa' mlc' mli' mna' mva' mma' mch' mre' mlv' mwr' msh' mth' mnv' mns' mfa' mmo' => ((∀ (f0 : Nat → Int32) (D0 : Nat → Nat → Prop) (c0 : Nat), f = nI c0 → c0 < 2 ^ 30 → (∀ q, q < 960 → ∃ e, e < 2 ^ 30 ∧ f0 q = nI e) → AkI D0 c0 f0 mch → AkI (fun x1 w1 => D0 x1 w1 ∨ (x = nI x1 ∧ mki y.toNatClampNeg = 4 ∧ ∃ i, i < (mle y.toNatClampNeg).toNatClampNeg ∧ bt w i = true ∧ mel (8 * y.toNatClampNeg + i) = nI w1)) c0 f0 mch')) ∧ mki' = mki ∧ msz' = msz ∧ mle' = mle ∧ mel' = mel ∧ mme' = mme ∧ mal' = mal ∧ mic' = mic ∧ mil' = mil ∧ mio' = mio ∧ mab' = mab ∧ mae' = mae ∧ msa' = msa ∧ mlc' = mlc ∧ mli' = mli ∧ mna' = mna ∧ mva' = mva ∧ mma' = mma ∧ mre' = mre ∧ mlv' = mlv ∧ mwr' = mwr ∧ msh' = msh ∧ mth' = mth ∧ mnv' = mnv ∧ mns' = mns ∧ mfa' = mfa ∧ mmo' = mmo) mki' msz' mle' mel' mme' mal' mic' mil' mio' mab' mae' msa' mlc' mli' mna' mva' mma' mch' mre' mlv' mwr' msh' mth' mnv' mns' mfa' mmo' → post mki' msz' mle' mel' mme' mal' mic' mil' mio' mab' mae' msa' mlc' mli' mna' mva' mma' mch' mre' mlv' mwr' msh' mth' mnv' mns' mfa' mmo') → V_Mo_askElements mki msz mle mel mme mal mic mil mio mab mae msa mlc mli mna mva mma mch mre mlv mwr msh mth mnv mns mfa mmo x y w f post := by
    intro post hpost
    unfold V_Mo_askElements
    obtain ⟨v0, c0, hv40, rfl, hox, rfl, hc0, hV⟩ := hpre
    have hxv : vp_in (nI v0) 40 := vp_in_nI hv40 (by decide)
    have cv : (nI v0).toNatClampNeg = v0 := nI_clamp (by omega)
    obtain ⟨_, ⟨L, hL, eL⟩, hpart, _, _⟩ := hV.2.2 v0 hv40
    have cL : (nI L).toNatClampNeg = L := nI_clamp (by omega)
    simp only [cv, eL, cL] at hpost ⊢
    refine ⟨fun xi f => ∃ k, k ≤ L ∧ xi = nI k ∧ ∀ (f0 : Nat → Int32) (D0 : Nat → Nat → Prop), (∀ q, q < 960 → ∃ e, e < 2 ^ 30 ∧ f0 q = nI e) → AkI D0 c0 f0 mch → AkI (fun x' w' => D0 x' w' ∨ (x = nI x' ∧ mki v0 = 4 ∧ ∃ i, i < k ∧ bt w i = true ∧ mel (8 * v0 + i) = nI w')) c0 f0 f, fun xi _ => L - xi.toInt.toNat, ⟨0, Nat.zero_le _, rfl, fun f0 D0 _ h => h.same (fun x' w' _ _ => ⟨Or.inl, fun q => q.elim id (fun ⟨_, _, i, q, _⟩ => absurd q (Nat.not_lt_zero _))⟩)⟩, ?_⟩
    rintro xi f ⟨k, hk, rfl, hI⟩
    have fin : mki v0 ≠ 4 ∨ k = L → ∀ (f0 : Nat → Int32) (D0 : Nat → Nat → Prop) (c1 : Nat), nI c0 = nI c1 → c1 < 2 ^ 30 → (∀ q, q < 960 → ∃ e, e < 2 ^ 30 ∧ f0 q = nI e) → AkI D0 c1 f0 mch → AkI (fun x' w' => D0 x' w' ∨ (x = nI x' ∧ mki v0 = 4 ∧ ∃ i, i < L ∧ bt w i = true ∧ mel (8 * v0 + i) = nI w')) c1 f0 f := fun hd f0 D0 c1 e hc1 hf h => by
      rw [nI_eq (by omega) (by omega)] at e
      subst e
      refine (hI f0 D0 hf h).same (fun x' w' _ _ => or_congr_right ⟨fun ⟨q1, q2, i, q3⟩ => ⟨q1, q2, i, by omega, q3.2⟩, fun ⟨q1, q2, i, q3⟩ => ⟨q1, q2, i, ?_, q3.2⟩⟩)
      rcases hd with w | w
      · exact absurd q2 w
      · omega
    refine ⟨hxv, fun h => (hpost _ _ _ _ _ _ _ _ _ _ _ _ _ _ _ _ _ _ _ _ _ _ _ _ _ _ _ ⟨fin (Or.inr (fill_end (N := L) h (by omega) hk)), rfl, rfl, rfl, rfl, rfl, rfl, rfl, rfl, rfl, rfl, rfl, rfl, rfl, rfl, rfl, rfl, rfl, rfl, rfl, rfl, rfl, rfl, rfl, rfl, rfl, rfl⟩), fun h => ⟨hxv, fun h4 => (hpost _ _ _ _ _ _ _ _ _ _ _ _ _ _ _ _ _ _ _ _ _ _ _ _ _ _ _ ⟨fin (Or.inl h4), rfl, rfl, rfl, rfl, rfl, rfl, rfl, rfl, rfl, rfl, rfl, rfl, rfl, rfl, rfl, rfl, rfl, rfl, rfl, rfl, rfl, rfl, rfl, rfl, rfl, rfl⟩), fun h4 => ?_⟩⟩
    have hk2 := fill_step (N := L) h (by omega) hk
    have mu := fill_mu (N := L) hk2 (by omega)
    have c8 : (nI (8 * v0 + k)).toNatClampNeg = 8 * v0 + k := nI_clamp (by omega)
    obtain ⟨p, hp, ep⟩ := hpart k (by rw [eL, cL]; exact hk2)
    rw [b_and1 _ (by omega), bI1, jx8v, c8, ep]
    refine jn_f (c := bt w k = true) ?_
    have ho : okx (if bt w k = true then x else -1) 24 := by split; exact hox; exact Or.inl rfl
    refine ⟨vp_in_nI (by omega) (by decide), ⟨ho, Or.inr ⟨p, by omega, rfl⟩⟩, fun f1 hk1 => ⟨⟨k + 1, hk2, nI_1 k, fun f0 D0 hf h => ?_⟩, mu⟩⟩
    refine AkI.step (hI f0 D0 hf h) hf hc0 hk1 ho (Or.inr ⟨p, by omega, rfl⟩) (fun x' w' hx' hw' => ?_)
    constructor
    · rintro (q | ⟨q1, q2, i, q3, q4, q5⟩)
      · exact Or.inl (Or.inl q)
      · by_cases e : i = k
        · subst e; rw [ep] at q5; exact Or.inr ⟨by rw [if_pos q4]; exact q1, q5⟩
        · exact Or.inl (Or.inr ⟨q1, q2, i, by omega, q4, q5⟩)
    · rintro ((q | ⟨q1, q2, i, q3, q4⟩) | ⟨q1, q2⟩)
      · exact Or.inl q
      · exact Or.inr ⟨q1, q2, i, by omega, q4⟩
      · by_cases e : bt w k = true
        · rw [if_pos e] at q1; exact Or.inr ⟨q1, h4, k, by omega, e, by rw [ep]; exact q2⟩
        · rw [if_neg e] at q1
          exact absurd (q1.symm ▸ neg1_lt : nI x' < 0) (nI_pos (by omega))
  exact main _ (fun _ _ _ _ _ _ _ _ _ _ _ _ _ _ _ _ _ _ _ _ _ _ _ _ _ _ _ h => h)
theorem c_Mo_askElements (l : Launch) (D : va_G) (b : Nat → Nat) (cI cJ cZ : ClassId) (mki : Nat → Int32) (msz : Nat → Int64) (mle : Nat → Int32) (mel : Nat → Int32) (mme : Nat → Int32) (mal : Nat → Int32) (mic : Nat → Int32) (mil : Nat → Int32) (mio : Nat → Int32) (mab : Nat → Int32) (mae : Nat → Int32) (msa : Nat → Int32) (mlc : Nat → Int32) (mli : Nat → Int32) (mna : Nat → Int32) (mva : Nat → Int32) (mma : Nat → Int32) (mch : Nat → Int32) (mre : Nat → Int32) (mlv : Nat → Int32) (mwr : Nat → Int64) (msh : Nat → Int32) (mth : Int32) (mnv : Int32) (mns : Int32) (mfa : Int32) (mmo : Int32) (x : Int32) (y : Int32) (w : Int32) (f : Int32) (hpre : (∃ v0 c0 : Nat, v0 < 40 ∧ y = nI v0 ∧ okx x 24 ∧ f = nI c0 ∧ c0 < 2 ^ 30 ∧ MVOK mki msz mle mel mme 40)) : Wm (S := (Nat → Int32)) l y_Mo_askElements b_Mo_askElements 6 none 1 23 [.ref (b 0), .int x, .int y, .int w, .int f] D (tyA cI cJ cZ) (wM b cI cJ cZ mki msz mle mel mme mal mic mil mio mab mae msa mlc mli mna mva mma mch mre mlv mwr msh mth mnv mns mfa mmo) (fun uu => (∀ (f0 : Nat → Int32) (D0 : Nat → Nat → Prop) (c0 : Nat), f = nI c0 → c0 < 2 ^ 30 → (∀ q, q < 960 → ∃ e, e < 2 ^ 30 ∧ f0 q = nI e) → AkI D0 c0 f0 mch → AkI (fun x1 w1 => D0 x1 w1 ∨ (x = nI x1 ∧ mki y.toNatClampNeg = 4 ∧ ∃ i, i < (mle y.toNatClampNeg).toNatClampNeg ∧ bt w i = true ∧ mel (8 * y.toNatClampNeg + i) = nI w1)) c0 f0 uu)) (fun uu => none) (fun uu => (wM b cI cJ cZ mki msz mle mel mme mal mic mil mio mab mae msa mlc mli mna mva mma uu mre mlv mwr msh mth mnv mns mfa mmo)) :=
  wm_v (by decide) (Nat.le_of_ble_eq_true rfl) (fun p e s m below meth c ls Q A S hK hP hD hA hS hl hret => g_Mo_askElements S (Nat.le_refl _) (Nat.le_refl _) ⟨Nat.le_refl _, Nat.le_refl _⟩ D b cI cJ cZ mki msz mle mel mme mal mic mil mio mab mae msa mlc mli mna mva mma mch mre mlv mwr msh mth mnv mns mfa mmo x y w f hK hP hD hA hS hl (v_Mo_askElements mki msz mle mel mme mal mic mil mio mab mae msa mlc mli mna mva mma mch mre mlv mwr msh mth mnv mns mfa mmo x y w f hpre) (fun mki' msz' mle' mel' mme' mal' mic' mil' mio' mab' mae' msa' mlc' mli' mna' mva' mma' mch' mre' mlv' mwr' msh' mth' mnv' mns' mfa' mmo' ls1 pc H1 locs1 hd hv hP1 hD1 hS1 => by obtain ⟨hp, rfl, rfl, rfl, rfl, rfl, rfl, rfl, rfl, rfl, rfl, rfl, rfl, rfl, rfl, rfl, rfl, rfl, rfl, rfl, rfl, rfl, rfl, rfl, rfl, rfl, rfl⟩ := hv; exact hret mch' ls1 pc H1 locs1 hd hp hP1 hD1 hS1))
theorem hd_Mo_askElements : y_Mo_askElements.cls ≠ "java/lang/invoke/MethodHandle" ∧ y_Mo_askElements.cls ≠ "java/lang/invoke/VarHandle" ∧ (parseMethodDescriptor y_Mo_askElements.desc).map (fun d => d.parameters.length) = some 4 := ⟨by decide, by decide, by decide +kernel⟩
def V_Mo_askMembers (mki : Nat → Int32) (msz : Nat → Int64) (mle : Nat → Int32) (mel : Nat → Int32) (mme : Nat → Int32) (mal : Nat → Int32) (mic : Nat → Int32) (mil : Nat → Int32) (mio : Nat → Int32) (mab : Nat → Int32) (mae : Nat → Int32) (msa : Nat → Int32) (mlc : Nat → Int32) (mli : Nat → Int32) (mna : Nat → Int32) (mva : Nat → Int32) (mma : Nat → Int32) (mch : Nat → Int32) (mre : Nat → Int32) (mlv : Nat → Int32) (mwr : Nat → Int64) (msh : Nat → Int32) (mth : Int32) (mnv : Int32) (mns : Int32) (mfa : Int32) (mmo : Int32) (x : Int32) (y : Int32) (w : Int32) (f : Int32) (post : (Nat → Int32) → (Nat → Int64) → (Nat → Int32) → (Nat → Int32) → (Nat → Int32) → (Nat → Int32) → (Nat → Int32) → (Nat → Int32) → (Nat → Int32) → (Nat → Int32) → (Nat → Int32) → (Nat → Int32) → (Nat → Int32) → (Nat → Int32) → (Nat → Int32) → (Nat → Int32) → (Nat → Int32) → (Nat → Int32) → (Nat → Int32) → (Nat → Int32) → (Nat → Int64) → (Nat → Int32) → Int32 → Int32 → Int32 → Int32 → Int32 → Prop) : Prop :=
  (∃ (I7 : Int32 → (Nat → Int32) → Prop) (mI7 : Int32 → (Nat → Int32) → Nat), I7 0 mch ∧ (∀ (x5 : Int32) (f6 : Nat → Int32), I7 x5 f6 → ((12 ≤ x5 → post mki msz mle mel mme mal mic mil mio mab mae msa mlc mli mna mva mma f6 mre mlv mwr msh mth mnv mns mfa mmo) ∧ (¬ 12 ≤ x5 → (∃ J8 : Int32 → Prop, ((¬ ((w >>> (x5 &&& 31)) &&& 1) = 1 → J8 (-1)) ∧ (((w >>> (x5 &&& 31)) &&& 1) = 1 → J8 x)) ∧ (∀ (x9 : Int32), J8 x9 → ((vp_in y 40 ∧ vp_in (12 * y + x5) 480) ∧ ((okx x9 24 ∧ okx (if mki y.toNatClampNeg = 5 then mme (12 * y + x5 : Int32).toNatClampNeg else -1) 40) ∧ (∀ (f10 : Nat → Int32), (ASK x9 (if mki y.toNatClampNeg = 5 then mme (12 * y + x5 : Int32).toNatClampNeg else -1) f f6 f10) → (I7 (x5 + 1) f10 ∧ mI7 (x5 + 1) f10 < mI7 x5 f6))))))))))
set_option maxHeartbeats 4000000 in
set_option maxRecDepth 100000 in
theorem g_Mo_askMembers {p : Program} {l : Launch} {e : Env} {R : Room} {s : State} {m : MethodId} {args : Array Value} {below : List Frame} {meth : Method} {c : Code} {H : Heap} {locs : List Loc} {cells slots : Nat} {Q : State → Prop} {ls : Array Slot} {A : Nat → Prop} (S : CallFix p m c b_Mo_askMembers 6 s args W0 R_Mo) (hRf : 1 ≤ R.frames) (hRl : 23 ≤ R.locals) (hRc : cells ≤ R.cells ∧ slots ≤ R.slots) (D : va_G) (b : Nat → Nat) (cI cJ cZ : ClassId) (mki : Nat → Int32) (msz : Nat → Int64) (mle : Nat → Int32) (mel : Nat → Int32) (mme : Nat → Int32) (mal : Nat → Int32) (mic : Nat → Int32) (mil : Nat → Int32) (mio : Nat → Int32) (mab : Nat → Int32) (mae : Nat → Int32) (msa : Nat → Int32) (mlc : Nat → Int32) (mli : Nat → Int32) (mna : Nat → Int32) (mva : Nat → Int32) (mma : Nat → Int32) (mch : Nat → Int32) (mre : Nat → Int32) (mlv : Nat → Int32) (mwr : Nat → Int64) (msh : Nat → Int32) (mth : Int32) (mnv : Int32) (mns : Int32) (mfa : Int32) (mmo : Int32) (x : Int32) (y : Int32) (w : Int32) (f : Int32) (hK : va_K D vwCl (tyA cI cJ cZ) s) (hP : va_P D vwCl (wM b cI cJ cZ mki msz mle mel mme mal mic mil mio mab mae msa mlc mli mna mva mma mch mre mlv mwr msh mth mnv mns mfa mmo) H) (hD : va_D A (wM b cI cJ cZ mki msz mle mel mme mal mic mil mio mab mae msa mlc mli mna mva mma mch mre mlv mwr msh mth mnv mns mfa mmo)) (hA : ∀ q, s.heap.size ≤ q → A q) (hS : va_S A s.heap H locs) (hl : lv_has ls 6 [(0, .ref (b 0)), (1, .int x), (2, .int y), (3, .int w), (4, .int f)]) {post : (Nat → Int32) → (Nat → Int64) → (Nat → Int32) → (Nat → Int32) → (Nat → Int32) → (Nat → Int32) → (Nat → Int32) → (Nat → Int32) → (Nat → Int32) → (Nat → Int32) → (Nat → Int32) → (Nat → Int32) → (Nat → Int32) → (Nat → Int32) → (Nat → Int32) → (Nat → Int32) → (Nat → Int32) → (Nat → Int32) → (Nat → Int32) → (Nat → Int32) → (Nat → Int64) → (Nat → Int32) → Int32 → Int32 → Int32 → Int32 → Int32 → Prop} (vc : V_Mo_askMembers mki msz mle mel mme mal mic mil mio mab mae msa mlc mli mna mva mma mch mre mlv mwr msh mth mnv mns mfa mmo x y w f post)
    (hret : ∀ (mki : Nat → Int32) (msz : Nat → Int64) (mle : Nat → Int32) (mel : Nat → Int32) (mme : Nat → Int32) (mal : Nat → Int32) (mic : Nat → Int32) (mil : Nat → Int32) (mio : Nat → Int32) (mab : Nat → Int32) (mae : Nat → Int32) (msa : Nat → Int32) (mlc : Nat → Int32) (mli : Nat → Int32) (mna : Nat → Int32) (mva : Nat → Int32) (mma : Nat → Int32) (mch : Nat → Int32) (mre : Nat → Int32) (mlv : Nat → Int32) (mwr : Nat → Int64) (msh : Nat → Int32) (mth : Int32) (mnv : Int32) (mns : Int32) (mfa : Int32) (mmo : Int32) (ls : Array Slot) (pc : Nat) (H : Heap) (locs : List Loc), decode b_Mo_askMembers pc = .ok (.return_, 1) → post mki msz mle mel mme mal mic mil mio mab mae msa mlc mli mna mva mma mch mre mlv mwr msh mth mnv mns mfa mmo → va_P D vwCl (wM b cI cJ cZ mki msz mle mel mme mal mic mil mio mab mae msa mlc mli mna mva mma mch mre mlv mwr msh mth mnv mns mfa mmo) H → va_D A (wM b cI cJ cZ mki msz mle mel mme mal mic mil mio mab mae msa mlc mli mna mva mma mch mre mlv mwr msh mth mnv mns mfa mmo) → va_S A s.heap H locs → W p l e R s m args below meth c H locs cells slots Q (F0 m pc ls [])) : W p l e R s m args below meth c H locs cells slots Q (F0 m 0 ls []) := by
  have hx := S.1
  have hb := S.2.1
  have hown := S.2.2.2.1
  have hts := S.2.2.2.2
  unfold V_Mo_askMembers at vc
  refine lv_iconst (v := 0) hx hb d_Mo_askMembers_0 (by decide) ?_
  refine lv_istore hx hb d_Mo_askMembers_1 hl (by decide) (lv' := [(5, .int 0), (0, .ref (b 0)), (1, .int x), (2, .int y), (3, .int w), (4, .int f)]) rfl (fun ls hl => ?_)
  obtain ⟨I7, mI7, vc0, vcs⟩ := vc
  have lI7 : ∀ n : Nat, ∀ (x5 : Int32) (f6 : Nat → Int32) (ls : Array Slot) (H : Heap) (locs : List Loc), I7 x5 f6 → mI7 x5 f6 < n → lv_has ls 6 [(0, .ref (b 0)), (1, .int x), (2, .int y), (3, .int w), (4, .int f), (5, .int x5)] → va_P D vwCl (wM b cI cJ cZ mki msz mle mel mme mal mic mil mio mab mae msa mlc mli mna mva mma f6 mre mlv mwr msh mth mnv mns mfa mmo) H → va_D A (wM b cI cJ cZ mki msz mle mel mme mal mic mil mio mab mae msa mlc mli mna mva mma f6 mre mlv mwr msh mth mnv mns mfa mmo) → va_S A s.heap H locs → W p l e R s m args below meth c H locs cells slots Q (F0 m 3 ls []) := by
    intro n
    induction n with
    | zero => intro x5 f6 ls H locs _ h; exact absurd h (Nat.not_lt_zero _)
    | succ n ihI7 =>
      intro x5 f6 ls H locs vc hmI7 hl hP hD hS
      have vc := vcs x5 f6 vc
      refine lv_iload hx hb d_Mo_askMembers_3 (lv_at hl 5 rfl) ?_
      refine lv_bipush (v := 12) hx hb d_Mo_askMembers_5 (by decide) ?_
      refine lv_icmp_ge (tgt := 44) hx hb d_Mo_askMembers_7 (by decide) (fun h => ?_) (fun h => ?_)
      · have vc := vc.1 h
        exact hret _ _ _ _ _ _ _ _ _ _ _ _ _ _ _ _ _ _ _ _ _ _ _ _ _ _ _ ls _ H locs d_Mo_askMembers_44 vc hP hD hS
      · have vc := vc.2 h
        refine lv_aload_n hx hb d_Mo_askMembers_10 rfl (lv_at hl 0 rfl) ?_
        refine lv_iload_n hx hb d_Mo_askMembers_11 rfl (lv_at hl 3 rfl) ?_
        refine lv_iload hx hb d_Mo_askMembers_12 (lv_at hl 5 rfl) ?_
        refine lv_ishr hx hb d_Mo_askMembers_14 ?_
        refine lv_iconst (v := 1) hx hb d_Mo_askMembers_15 (by decide) ?_
        refine lv_iand hx hb d_Mo_askMembers_16 ?_
        refine lv_iconst (v := 1) hx hb d_Mo_askMembers_17 (by decide) ?_
        obtain ⟨J8, vc, vc2⟩ := vc
        have jJ8 : ∀ (x9 : Int32) (ls : Array Slot) (H : Heap) (locs : List Loc), J8 x9 → lv_has ls 6 [(0, .ref (b 0)), (1, .int x), (2, .int y), (3, .int w), (4, .int f), (5, .int x5)] → va_P D vwCl (wM b cI cJ cZ mki msz mle mel mme mal mic mil mio mab mae msa mlc mli mna mva mma f6 mre mlv mwr msh mth mnv mns mfa mmo) H → va_D A (wM b cI cJ cZ mki msz mle mel mme mal mic mil mio mab mae msa mlc mli mna mva mma f6 mre mlv mwr msh mth mnv mns mfa mmo) → va_S A s.heap H locs → W p l e R s m args below meth c H locs cells slots Q (F0 m 26 ls [.int x9, .ref (b 0)]) := by
          intro x9 ls H locs vc hl hP hD hS
          have vc := vc2 x9 vc
          refine lv_aload_n hx hb d_Mo_askMembers_26 rfl (lv_at hl 0 rfl) ?_
          refine lv_iload_n hx hb d_Mo_askMembers_27 rfl (lv_at hl 2 rfl) ?_
          refine lv_iload hx hb d_Mo_askMembers_28 (lv_at hl 5 rfl) ?_
          obtain ⟨hpre, vc⟩ := vc
          refine pc_V (As := [.int y, .int x5]) (rest := [.int x9, .ref (b 0)]) S (c_Mo_memberOf l D b cI cJ cZ mki msz mle mel mme mal mic mil mio mab mae msa mlc mli mna mva mma f6 mre mlv mwr msh mth mnv mns mfa mmo y x5 hpre) wB_blind k_Mo_memberOf i_Mo_memberOf e_Mo_memberOf o_Mo ml_Mo_167 hd_Mo_memberOf (Nat.le_trans (by decide) hRf) (Nat.le_trans (by decide) hRl) hRc (va_recv hK hP (q0 := 0) (ci := 6) rfl rfl) (wB_at hP hK) hl.1 rfl (Nat.le_of_ble_eq_true rfl) d_Mo_askMembers_30 ?_
          refine lv_iload hx hb d_Mo_askMembers_33 (lv_at hl 4 rfl) ?_
          obtain ⟨hpre, vc⟩ := vc
          refine wc_V (As := [.int x9, .int (if mki y.toNatClampNeg = 5 then mme (12 * y + x5 : Int32).toNatClampNeg else -1), .int f]) (rest := []) (wr := ([] : va_W)) S (c_Mo_ask l D b cI cJ cZ mki msz mle mel mme mal mic mil mio mab mae msa mlc mli mna mva mma f6 mre mlv mwr msh mth mnv mns mfa mmo x9 (if mki y.toNatClampNeg = 5 then mme (12 * y + x5 : Int32).toNatClampNeg else -1) f hpre) k_Mo_ask i_Mo_ask e_Mo_ask o_Mo ml_Mo_234 hd_Mo_ask (Nat.le_trans (by decide) hRf) (Nat.le_trans (by decide) hRl) hRc (va_recv hK hP (q0 := 0) (ci := 6) rfl rfl) hK hP hD hS hA [0, 1, 2, 3, 4, 5, 6, 7, 8, 9, 10, 11, 12, 13, 14, 15, 16, 17, 18, 19, 20, 21, 22] [] rfl rfl rfl (by decide) (by decide) (by decide) hl.1 rfl (Nat.le_of_ble_eq_true rfl) d_Mo_askMembers_35 (fun f10 H locs hu hP hD hS => ?_)
          have vc := vc f10 hu
          clear hu
          have hP : va_P D vwCl (wM b cI cJ cZ mki msz mle mel mme mal mic mil mio mab mae msa mlc mli mna mva mma f10 mre mlv mwr msh mth mnv mns mfa mmo) H := hP
          have hD : va_D A (wM b cI cJ cZ mki msz mle mel mme mal mic mil mio mab mae msa mlc mli mna mva mma f10 mre mlv mwr msh mth mnv mns mfa mmo) := hD
          refine lv_iinc (k := 5) (v := x5 + 1) hx hb d_Mo_askMembers_38 hl rfl rfl (by decide) (lv' := [(5, .int (x5 + 1)), (0, .ref (b 0)), (1, .int x), (2, .int y), (3, .int w), (4, .int f)]) rfl (fun ls hl => ?_)
          refine lv_goto (tgt := 3) hx hb d_Mo_askMembers_41 (by decide) ?_
          exact ihI7 (x5 + 1) f10 ls H locs vc.1 (Nat.lt_of_lt_of_le vc.2 (Nat.le_of_lt_succ hmI7)) (lv_sub hl [1, 2, 3, 4, 5, 0] rfl) hP hD hS
        clear vc2
        refine lv_icmp_ne (tgt := 25) hx hb d_Mo_askMembers_18 (by decide) (fun h => ?_) (fun h => ?_)
        · have vc := vc.1 h
          refine lv_iconst (v := (-1)) hx hb d_Mo_askMembers_25 (by decide) ?_
          exact jJ8 (-1) ls H locs vc (lv_sub hl [0, 1, 2, 3, 4, 5] rfl) hP hD hS
        · have vc := vc.2 h
          refine lv_iload_n hx hb d_Mo_askMembers_21 rfl (lv_at hl 1 rfl) ?_
          refine lv_goto (tgt := 26) hx hb d_Mo_askMembers_22 (by decide) ?_
          exact jJ8 x ls H locs vc (lv_sub hl [0, 1, 2, 3, 4, 5] rfl) hP hD hS
  exact lI7 _ 0 mch ls H locs vc0 (Nat.lt_succ_self _) (lv_sub hl [1, 2, 3, 4, 5, 0] rfl) hP hD hS
set_option maxHeartbeats 4000000 in
theorem v_Mo_askMembers (mki : Nat → Int32) (msz : Nat → Int64) (mle : Nat → Int32) (mel : Nat → Int32) (mme : Nat → Int32) (mal : Nat → Int32) (mic : Nat → Int32) (mil : Nat → Int32) (mio : Nat → Int32) (mab : Nat → Int32) (mae : Nat → Int32) (msa : Nat → Int32) (mlc : Nat → Int32) (mli : Nat → Int32) (mna : Nat → Int32) (mva : Nat → Int32) (mma : Nat → Int32) (mch : Nat → Int32) (mre : Nat → Int32) (mlv : Nat → Int32) (mwr : Nat → Int64) (msh : Nat → Int32) (mth : Int32) (mnv : Int32) (mns : Int32) (mfa : Int32) (mmo : Int32) (x : Int32) (y : Int32) (w : Int32) (f : Int32) (hpre : (∃ v0 c0 : Nat, v0 < 40 ∧ y = nI v0 ∧ okx x 24 ∧ f = nI c0 ∧ c0 < 2 ^ 30 ∧ MVOK mki msz mle mel mme 40)) : V_Mo_askMembers mki msz mle mel mme mal mic mil mio mab mae msa mlc mli mna mva mma mch mre mlv mwr msh mth mnv mns mfa mmo x y w f (fun mki' msz' mle' mel' mme' mal' mic' mil' mio' mab' mae' msa' mlc' mli' mna' mva' mma' mch' mre' mlv' mwr' msh' mth' mnv' mns' mfa' mmo' => ((∀ (f0 : Nat → Int32) (D0 : Nat → Nat → Prop) (c0 : Nat), f = nI c0 → c0 < 2 ^ 30 → (∀ q, q < 960 → ∃ e, e < 2 ^ 30 ∧ f0 q = nI e) → AkI D0 c0 f0 mch → AkI (fun x1 w1 => D0 x1 w1 ∨ (x = nI x1 ∧ mki y.toNatClampNeg = 5 ∧ ∃ i, i < 12 ∧ bt w i = true ∧ mme (12 * y.toNatClampNeg + i) = nI w1)) c0 f0 mch')) ∧ mki' = mki ∧ msz' = msz ∧ mle' = mle ∧ mel' = mel ∧ mme' = mme ∧ mal' = mal ∧ mic' = mic ∧ mil' = mil ∧ mio' = mio ∧ mab' = mab ∧ mae' = mae ∧ msa' = msa ∧ mlc' = mlc ∧ mli' = mli ∧ mna' = mna ∧ mva' = mva ∧ mma' = mma ∧ mre' = mre ∧ mlv' = mlv ∧ mwr' = mwr ∧ msh' = msh ∧ mth' = mth ∧ mnv' = mnv ∧ mns' = mns ∧ mfa' = mfa ∧ mmo' = mmo) := by
  have main : ∀ post : (Nat → Int32) → (Nat → Int64) → (Nat → Int32) → (Nat → Int32) → (Nat → Int32) → (Nat → Int32) → (Nat → Int32) → (Nat → Int32) → (Nat → Int32) → (Nat → Int32) → (Nat → Int32) → (Nat → Int32) → (Nat → Int32) → (Nat → Int32) → (Nat → Int32) → (Nat → Int32) → (Nat → Int32) → (Nat → Int32) → (Nat → Int32) → (Nat → Int32) → (Nat → Int64) → (Nat → Int32) → Int32 → Int32 → Int32 → Int32 → Int32 → Prop, (∀ mki' msz' mle' mel' mme' mal' mic' mil' mio' mab' mae' msa' mlc' mli' mna' mva' mma' mch' mre' mlv' mwr' msh' mth' mnv' mns' mfa' mmo', (fun mki' msz' mle' mel' mme' mal' mic' mil' mio' mab' mae' msa' mlc' mli' mna' mva' mma' mch' mre' mlv' mwr' msh' mth' mnv' mns' mfa' mmo' => ((∀ (f0 : Nat → Int32) (D0 : Nat → Nat → Prop) (c0 : Nat), f = nI c0 → c0 < 2 ^ 30 → (∀ q, q < 960 → ∃ e, e < 2 ^ 30 ∧ f0 q = nI e) → AkI D0 c0 f0 mch → AkI (fun x1 w1 => D0 x1 w1 ∨ (x = nI x1 ∧ mki y.toNatClampNeg = 5 ∧ ∃ i, i < 12 ∧ bt w i = true ∧ mme (12 * y.toNatClampNeg + i) = nI w1)) c0 f0 mch')) ∧ mki' = mki ∧ msz' = msz ∧ mle' = mle ∧ mel' = mel ∧ mme' = mme ∧ mal' = mal ∧ mic' = mic ∧ mil' = mil ∧ mio' = mio ∧ mab' = mab ∧ mae' = mae ∧ msa' = msa ∧ mlc' = mlc ∧ mli' = mli ∧ mna' = mna ∧ mva' = mva ∧ mma' = mma ∧ mre' = mre ∧ mlv' = mlv ∧ mwr' = mwr ∧ msh' = msh ∧ mth' = mth ∧ mnv' = mnv ∧ mns' = mns ∧ mfa' = mfa ∧ mmo' = mmo) mki' msz' mle' mel' mme' mal' mic' mil' mio' mab' mae' msa' mlc' mli' mna' mva' mma' mch' mre' mlv' mwr' msh' mth' mnv' mns' mfa' mmo' → post mki' msz' mle' mel' mme' mal' mic' mil' mio' mab' mae' msa' mlc' mli' mna' mva' mma' mch' mre' mlv' mwr' msh' mth' mnv' mns' mfa' mmo') → V_Mo_askMembers mki msz mle mel mme mal mic mil mio mab mae msa mlc mli mna mva mma mch mre mlv mwr msh mth mnv mns mfa mmo x y w f post := by
    intro post hpost
    unfold V_Mo_askMembers
    obtain ⟨v0, c0, hv40, rfl, hox, rfl, hc0, hV⟩ := hpre
    have hxv : vp_in (nI v0) 40 := vp_in_nI hv40 (by decide)
    have cv : (nI v0).toNatClampNeg = v0 := nI_clamp (by omega)
    obtain ⟨_, _, _, hmem, _⟩ := hV.2.2 v0 hv40
    simp only [cv] at hpost ⊢
    refine ⟨fun xi f => ∃ k, k ≤ 12 ∧ xi = nI k ∧ ∀ (f0 : Nat → Int32) (D0 : Nat → Nat → Prop), (∀ q, q < 960 → ∃ e, e < 2 ^ 30 ∧ f0 q = nI e) → AkI D0 c0 f0 mch → AkI (fun x' w' => D0 x' w' ∨ (x = nI x' ∧ mki v0 = 5 ∧ ∃ i, i < k ∧ bt w i = true ∧ mme (12 * v0 + i) = nI w')) c0 f0 f, fun xi _ => 12 - xi.toInt.toNat, ⟨0, Nat.zero_le _, rfl, fun f0 D0 _ h => h.same (fun x' w' _ _ => ⟨Or.inl, fun q => q.elim id (fun ⟨_, _, i, q, _⟩ => absurd q (Nat.not_lt_zero _))⟩)⟩, ?_⟩
    rintro xi f ⟨k, hk, rfl, hI⟩
    refine ⟨fun h => ?_, fun h => ?_⟩
    · obtain rfl := fill_end (N := 12) h (by decide) hk
      refine (hpost _ _ _ _ _ _ _ _ _ _ _ _ _ _ _ _ _ _ _ _ _ _ _ _ _ _ _ ⟨fun f0 D0 c1 e hc1 hf h => ?_, rfl, rfl, rfl, rfl, rfl, rfl, rfl, rfl, rfl, rfl, rfl, rfl, rfl, rfl, rfl, rfl, rfl, rfl, rfl, rfl, rfl, rfl, rfl, rfl, rfl, rfl⟩)
      rw [nI_eq (by omega) (by omega)] at e
      subst e
      exact hI f0 D0 hf h
    have hk2 := fill_step (N := 12) h (by decide) hk
    have mu := fill_mu (N := 12) hk2 (by decide)
    have c12 : (nI (12 * v0 + k)).toNatClampNeg = 12 * v0 + k := nI_clamp (by omega)
    rw [b_and1 _ (by omega), bI1, jx12v, c12]
    refine jn_f (c := bt w k = true) ?_
    have ho : okx (if bt w k = true then x else -1) 24 := by split; exact hox; exact Or.inl rfl
    have ho2 : okx (if mki v0 = 5 then mme (12 * v0 + k) else -1) 40 := by split; exact (hmem k hk2).mono (by omega); exact Or.inl rfl
    refine ⟨⟨hxv, vp_in_nI (by omega) (by decide)⟩, ⟨ho, ho2⟩, fun f1 hk1 => ⟨⟨k + 1, hk2, nI_1 k, fun f0 D0 hf h => ?_⟩, mu⟩⟩
    refine AkI.step (hI f0 D0 hf h) hf hc0 hk1 ho ho2 (fun x' w' hx' hw' => ?_)
    constructor
    · rintro (q | ⟨q1, q2, i, q3, q4, q5⟩)
      · exact Or.inl (Or.inl q)
      · by_cases e : i = k
        · subst e; exact Or.inr ⟨by rw [if_pos q4]; exact q1, by rw [if_pos q2]; exact q5⟩
        · exact Or.inl (Or.inr ⟨q1, q2, i, by omega, q4, q5⟩)
    · rintro ((q | ⟨q1, q2, i, q3, q4⟩) | ⟨q1, q2⟩)
      · exact Or.inl q
      · exact Or.inr ⟨q1, q2, i, by omega, q4⟩
      · by_cases e : bt w k = true
        · rw [if_pos e] at q1
          by_cases e5 : mki v0 = 5
          · rw [if_pos e5] at q2; exact Or.inr ⟨q1, e5, k, by omega, e, q2⟩
          · rw [if_neg e5] at q2; exact absurd (q2.symm ▸ neg1_lt : nI w' < 0) (nI_pos (by omega))
        · rw [if_neg e] at q1; exact absurd (q1.symm ▸ neg1_lt : nI x' < 0) (nI_pos (by omega))
  exact main _ (fun _ _ _ _ _ _ _ _ _ _ _ _ _ _ _ _ _ _ _ _ _ _ _ _ _ _ _ h => h)
theorem c_Mo_askMembers (l : Launch) (D : va_G) (b : Nat → Nat) (cI cJ cZ : ClassId) (mki : Nat → Int32) (msz : Nat → Int64) (mle : Nat → Int32) (mel : Nat → Int32) (mme : Nat → Int32) (mal : Nat → Int32) (mic : Nat → Int32) (mil : Nat → Int32) (mio : Nat → Int32) (mab : Nat → Int32) (mae : Nat → Int32) (msa : Nat → Int32) (mlc : Nat → Int32) (mli : Nat → Int32) (mna : Nat → Int32) (mva : Nat → Int32) (mma : Nat → Int32) (mch : Nat → Int32) (mre : Nat → Int32) (mlv : Nat → Int32) (mwr : Nat → Int64) (msh : Nat → Int32) (mth : Int32) (mnv : Int32) (mns : Int32) (mfa : Int32) (mmo : Int32) (x : Int32) (y : Int32) (w : Int32) (f : Int32) (hpre : (∃ v0 c0 : Nat, v0 < 40 ∧ y = nI v0 ∧ okx x 24 ∧ f = nI c0 ∧ c0 < 2 ^ 30 ∧ MVOK mki msz mle mel mme 40)) : Wm (S := (Nat → Int32)) l y_Mo_askMembers b_Mo_askMembers 6 none 1 23 [.ref (b 0), .int x, .int y, .int w, .int f] D (tyA cI cJ cZ) (wM b cI cJ cZ mki msz mle mel mme mal mic mil mio mab mae msa mlc mli mna mva mma mch mre mlv mwr msh mth mnv mns mfa mmo) (fun uu => (∀ (f0 : Nat → Int32) (D0 : Nat → Nat → Prop) (c0 : Nat), f = nI c0 → c0 < 2 ^ 30 → (∀ q, q < 960 → ∃ e, e < 2 ^ 30 ∧ f0 q = nI e) → AkI D0 c0 f0 mch → AkI (fun x1 w1 => D0 x1 w1 ∨ (x = nI x1 ∧ mki y.toNatClampNeg = 5 ∧ ∃ i, i < 12 ∧ bt w i = true ∧ mme (12 * y.toNatClampNeg + i) = nI w1)) c0 f0 uu)) (fun uu => none) (fun uu => (wM b cI cJ cZ mki msz mle mel mme mal mic mil mio mab mae msa mlc mli mna mva mma uu mre mlv mwr msh mth mnv mns mfa mmo)) :=
  wm_v (by decide) (Nat.le_of_ble_eq_true rfl) (fun p e s m below meth c ls Q A S hK hP hD hA hS hl hret => g_Mo_askMembers S (Nat.le_refl _) (Nat.le_refl _) ⟨Nat.le_refl _, Nat.le_refl _⟩ D b cI cJ cZ mki msz mle mel mme mal mic mil mio mab mae msa mlc mli mna mva mma mch mre mlv mwr msh mth mnv mns mfa mmo x y w f hK hP hD hA hS hl (v_Mo_askMembers mki msz mle mel mme mal mic mil mio mab mae msa mlc mli mna mva mma mch mre mlv mwr msh mth mnv mns mfa mmo x y w f hpre) (fun mki' msz' mle' mel' mme' mal' mic' mil' mio' mab' mae' msa' mlc' mli' mna' mva' mma' mch' mre' mlv' mwr' msh' mth' mnv' mns' mfa' mmo' ls1 pc H1 locs1 hd hv hP1 hD1 hS1 => by obtain ⟨hp, rfl, rfl, rfl, rfl, rfl, rfl, rfl, rfl, rfl, rfl, rfl, rfl, rfl, rfl, rfl, rfl, rfl, rfl, rfl, rfl, rfl, rfl, rfl, rfl, rfl, rfl⟩ := hv; exact hret mch' ls1 pc H1 locs1 hd hp hP1 hD1 hS1))
theorem hd_Mo_askMembers : y_Mo_askMembers.cls ≠ "java/lang/invoke/MethodHandle" ∧ y_Mo_askMembers.cls ≠ "java/lang/invoke/VarHandle" ∧ (parseMethodDescriptor y_Mo_askMembers.desc).map (fun d => d.parameters.length) = some 4 := ⟨by decide, by decide, by decide +kernel⟩
