theorem br_d {c A B : Prop} (a : ¬ c → A) (b : c → B) : (¬ c → A) ∧ (c → B) := ⟨a, b⟩
theorem pre_and {a b : Prop} (h : a) (k : b) : a ∧ b := ⟨h, k⟩
theorem add_sub1 (x : Int32) : x + 1 - 1 = x := Int32.add_sub_cancel ..
theorem lt_of_ne40 {x : Int32} (h0 : ¬ x < 0) (h : x ≤ 40) (hn : ¬ x = 40) : vp_in x 40 := by
  obtain ⟨n, hn2, rfl⟩ := of_i h0
  have h1 : n ≤ 40 := (nI_leI (b := 40) hn2 (by decide)).mp h
  have h2 : n ≠ 40 := fun e => hn (by rw [e]; rfl)
  exact vp_in_nI (by omega) (by decide)
def V_Mo_thrown (mki : Nat → Int32) (msz : Nat → Int64) (mle : Nat → Int32) (mel : Nat → Int32) (mme : Nat → Int32) (mal : Nat → Int32) (mic : Nat → Int32) (mil : Nat → Int32) (mio : Nat → Int32) (mab : Nat → Int32) (mae : Nat → Int32) (msa : Nat → Int32) (mlc : Nat → Int32) (mli : Nat → Int32) (mna : Nat → Int32) (mva : Nat → Int32) (mma : Nat → Int32) (mch : Nat → Int32) (mre : Nat → Int32) (mlv : Nat → Int32) (mwr : Nat → Int64) (msh : Nat → Int32) (mth : Int32) (mnv : Int32) (mns : Int32) (mfa : Int32) (mmo : Int32) (post : Int32 → Prop) : Prop :=
  post mth
set_option maxHeartbeats 4000000 in
set_option maxRecDepth 100000 in
theorem g_Mo_thrown {p : Program} {l : Launch} {e : Env} {R : Room} {s : State} {m : MethodId} {args : Array Value} {below : List Frame} {meth : Method} {c : Code} {H : Heap} {locs : List Loc} {cells slots : Nat} {Q : State → Prop} {ls : Array Slot} (S : CallFix p m c b_Mo_thrown 1 s args W0 R_Mo) (hRf : 0 ≤ R.frames) (hRl : 0 ≤ R.locals) (hRc : cells ≤ R.cells ∧ slots ≤ R.slots) (D : va_G) (b : Nat → Nat) (cI cJ cZ : ClassId) (mki : Nat → Int32) (msz : Nat → Int64) (mle : Nat → Int32) (mel : Nat → Int32) (mme : Nat → Int32) (mal : Nat → Int32) (mic : Nat → Int32) (mil : Nat → Int32) (mio : Nat → Int32) (mab : Nat → Int32) (mae : Nat → Int32) (msa : Nat → Int32) (mlc : Nat → Int32) (mli : Nat → Int32) (mna : Nat → Int32) (mva : Nat → Int32) (mma : Nat → Int32) (mch : Nat → Int32) (mre : Nat → Int32) (mlv : Nat → Int32) (mwr : Nat → Int64) (msh : Nat → Int32) (mth : Int32) (mnv : Int32) (mns : Int32) (mfa : Int32) (mmo : Int32) (hK : va_K D vwCl (tyA cI cJ cZ) s) (hP : va_P D vwCl (wM b cI cJ cZ mki msz mle mel mme mal mic mil mio mab mae msa mlc mli mna mva mma mch mre mlv mwr msh mth mnv mns mfa mmo) H) (hl : lv_has ls 1 [(0, .ref (b 0))]) {post : Int32 → Prop} (vc : V_Mo_thrown mki msz mle mel mme mal mic mil mio mab mae msa mlc mli mna mva mma mch mre mlv mwr msh mth mnv mns mfa mmo post)
    (hret : ∀ (v : Int32) (ls : Array Slot) (pc : Nat), decode b_Mo_thrown pc = .ok (.ireturn, 1) → post v → W p l e R s m args below meth c H locs cells slots Q (F0 m pc ls [.int v])) : W p l e R s m args below meth c H locs cells slots Q (F0 m 0 ls []) := by
  have hx := S.1
  have hb := S.2.1
  have hown := S.2.2.2.1
  have hts := S.2.2.2.2
  unfold V_Mo_thrown at vc
  refine lv_aload_n hx hb d_Mo_thrown_0 rfl (lv_at hl 0 rfl) ?_
  refine va_get (D := D) (ci := 6) (v := .int mth) (C := R_Mo) (T := F_Mo) (N := 27) hx hb hts in_Mo hown hK hP 0 rfl rfl 0 (by decide) (hts _ fl_Mo_78) (fun _ h => h) rfl d_Mo_thrown_1 ?_
  exact hret _ ls _ d_Mo_thrown_4 vc
theorem h_Mo_thrown (l : Launch) (D : va_G) (b : Nat → Nat) (cI cJ cZ : ClassId) (mki : Nat → Int32) (msz : Nat → Int64) (mle : Nat → Int32) (mel : Nat → Int32) (mme : Nat → Int32) (mal : Nat → Int32) (mic : Nat → Int32) (mil : Nat → Int32) (mio : Nat → Int32) (mab : Nat → Int32) (mae : Nat → Int32) (msa : Nat → Int32) (mlc : Nat → Int32) (mli : Nat → Int32) (mna : Nat → Int32) (mva : Nat → Int32) (mma : Nat → Int32) (mch : Nat → Int32) (mre : Nat → Int32) (mlv : Nat → Int32) (mwr : Nat → Int64) (msh : Nat → Int32) (mth : Int32) (mnv : Int32) (mns : Int32) (mfa : Int32) (mmo : Int32) (r : Int32) (vc : V_Mo_thrown mki msz mle mel mme mal mic mil mio mab mae msa mlc mli mna mva mma mch mre mlv mwr msh mth mnv mns mfa mmo (fun v => v = r)) : Pm l y_Mo_thrown b_Mo_thrown 1 (some .int) 0 0 [.ref (b 0)] (wB D (tyA cI cJ cZ) (wM b cI cJ cZ mki msz mle mel mme mal mic mil mio mab mae msa mlc mli mna mva mma mch mre mlv mwr msh mth mnv mns mfa mmo)) (.int r) :=
  pm_i (by decide) rfl (Nat.le_of_ble_eq_true rfl) (fun p e s m below meth c ls Q S hB hl hret => g_Mo_thrown S (Nat.le_refl _) (Nat.le_refl _) ⟨Nat.le_refl _, Nat.le_refl _⟩ D b cI cJ cZ mki msz mle mel mme mal mic mil mio mab mae msa mlc mli mna mva mma mch mre mlv mwr msh mth mnv mns mfa mmo hB.2 hB.1 hl vc hret)
theorem c_Mo_thrown (l : Launch) (D : va_G) (b : Nat → Nat) (cI cJ cZ : ClassId) (mki : Nat → Int32) (msz : Nat → Int64) (mle : Nat → Int32) (mel : Nat → Int32) (mme : Nat → Int32) (mal : Nat → Int32) (mic : Nat → Int32) (mil : Nat → Int32) (mio : Nat → Int32) (mab : Nat → Int32) (mae : Nat → Int32) (msa : Nat → Int32) (mlc : Nat → Int32) (mli : Nat → Int32) (mna : Nat → Int32) (mva : Nat → Int32) (mma : Nat → Int32) (mch : Nat → Int32) (mre : Nat → Int32) (mlv : Nat → Int32) (mwr : Nat → Int64) (msh : Nat → Int32) (mth : Int32) (mnv : Int32) (mns : Int32) (mfa : Int32) (mmo : Int32) : Pm l y_Mo_thrown b_Mo_thrown 1 (some .int) 0 0 [.ref (b 0)] (wB D (tyA cI cJ cZ) (wM b cI cJ cZ mki msz mle mel mme mal mic mil mio mab mae msa mlc mli mna mva mma mch mre mlv mwr msh mth mnv mns mfa mmo)) (.int mth) := h_Mo_thrown l D b cI cJ cZ mki msz mle mel mme mal mic mil mio mab mae msa mlc mli mna mva mma mch mre mlv mwr msh mth mnv mns mfa mmo _ (by
  unfold V_Mo_thrown
  rfl)
theorem hd_Mo_thrown : y_Mo_thrown.cls ≠ "java/lang/invoke/MethodHandle" ∧ y_Mo_thrown.cls ≠ "java/lang/invoke/VarHandle" ∧ (parseMethodDescriptor y_Mo_thrown.desc).map (fun d => d.parameters.length) = some 0 := ⟨by decide, by decide, by decide +kernel⟩
def V_Mo_add (mki : Nat → Int32) (msz : Nat → Int64) (mle : Nat → Int32) (mel : Nat → Int32) (mme : Nat → Int32) (mal : Nat → Int32) (mic : Nat → Int32) (mil : Nat → Int32) (mio : Nat → Int32) (mab : Nat → Int32) (mae : Nat → Int32) (msa : Nat → Int32) (mlc : Nat → Int32) (mli : Nat → Int32) (mna : Nat → Int32) (mva : Nat → Int32) (mma : Nat → Int32) (mch : Nat → Int32) (mre : Nat → Int32) (mlv : Nat → Int32) (mwr : Nat → Int64) (msh : Nat → Int32) (mth : Int32) (mnv : Int32) (mns : Int32) (mfa : Int32) (mmo : Int32) (k : Int32) (x : Int64) (post : Int32 → (Nat → Int32) → (Nat → Int64) → (Nat → Int32) → (Nat → Int32) → (Nat → Int32) → (Nat → Int32) → (Nat → Int32) → (Nat → Int32) → (Nat → Int32) → (Nat → Int32) → (Nat → Int32) → (Nat → Int32) → (Nat → Int32) → (Nat → Int32) → (Nat → Int32) → (Nat → Int32) → (Nat → Int32) → (Nat → Int32) → (Nat → Int32) → (Nat → Int32) → (Nat → Int64) → (Nat → Int32) → Int32 → Int32 → Int32 → Int32 → Int32 → Prop) : Prop :=
  ((¬ mnv = 40 → (vp_in mnv 40 ∧ (vp_in mnv 40 ∧ post ((mnv + 1) - 1) (upd mki mnv.toNatClampNeg k) (vp_updL msz mnv.toNatClampNeg x) mle mel mme mal mic mil mio mab mae msa mlc mli mna mva mma mch mre mlv mwr msh mth (mnv + 1) mns mfa mmo))) ∧ (mnv = 40 → post (-1) mki msz mle mel mme mal mic mil mio mab mae msa mlc mli mna mva mma mch mre mlv mwr msh mth mnv mns mfa mmo))
set_option maxHeartbeats 4000000 in
set_option maxRecDepth 100000 in
theorem g_Mo_add {p : Program} {l : Launch} {e : Env} {R : Room} {s : State} {m : MethodId} {args : Array Value} {below : List Frame} {meth : Method} {c : Code} {H : Heap} {locs : List Loc} {cells slots : Nat} {Q : State → Prop} {ls : Array Slot} {A : Nat → Prop} (S : CallFix p m c b_Mo_add 4 s args W0 R_Mo) (hRf : 0 ≤ R.frames) (hRl : 0 ≤ R.locals) (hRc : cells ≤ R.cells ∧ slots ≤ R.slots) (D : va_G) (b : Nat → Nat) (cI cJ cZ : ClassId) (mki : Nat → Int32) (msz : Nat → Int64) (mle : Nat → Int32) (mel : Nat → Int32) (mme : Nat → Int32) (mal : Nat → Int32) (mic : Nat → Int32) (mil : Nat → Int32) (mio : Nat → Int32) (mab : Nat → Int32) (mae : Nat → Int32) (msa : Nat → Int32) (mlc : Nat → Int32) (mli : Nat → Int32) (mna : Nat → Int32) (mva : Nat → Int32) (mma : Nat → Int32) (mch : Nat → Int32) (mre : Nat → Int32) (mlv : Nat → Int32) (mwr : Nat → Int64) (msh : Nat → Int32) (mth : Int32) (mnv : Int32) (mns : Int32) (mfa : Int32) (mmo : Int32) (k : Int32) (x : Int64) (hK : va_K D vwCl (tyA cI cJ cZ) s) (hP : va_P D vwCl (wM b cI cJ cZ mki msz mle mel mme mal mic mil mio mab mae msa mlc mli mna mva mma mch mre mlv mwr msh mth mnv mns mfa mmo) H) (hD : va_D A (wM b cI cJ cZ mki msz mle mel mme mal mic mil mio mab mae msa mlc mli mna mva mma mch mre mlv mwr msh mth mnv mns mfa mmo)) (hA : ∀ q, s.heap.size ≤ q → A q) (hS : va_S A s.heap H locs) (hl : lv_has ls 4 [(0, .ref (b 0)), (1, .int k), (2, .long x)]) {post : Int32 → (Nat → Int32) → (Nat → Int64) → (Nat → Int32) → (Nat → Int32) → (Nat → Int32) → (Nat → Int32) → (Nat → Int32) → (Nat → Int32) → (Nat → Int32) → (Nat → Int32) → (Nat → Int32) → (Nat → Int32) → (Nat → Int32) → (Nat → Int32) → (Nat → Int32) → (Nat → Int32) → (Nat → Int32) → (Nat → Int32) → (Nat → Int32) → (Nat → Int32) → (Nat → Int64) → (Nat → Int32) → Int32 → Int32 → Int32 → Int32 → Int32 → Prop} (vc : V_Mo_add mki msz mle mel mme mal mic mil mio mab mae msa mlc mli mna mva mma mch mre mlv mwr msh mth mnv mns mfa mmo k x post)
    (hret : ∀ (v : Int32) (mki : Nat → Int32) (msz : Nat → Int64) (mle : Nat → Int32) (mel : Nat → Int32) (mme : Nat → Int32) (mal : Nat → Int32) (mic : Nat → Int32) (mil : Nat → Int32) (mio : Nat → Int32) (mab : Nat → Int32) (mae : Nat → Int32) (msa : Nat → Int32) (mlc : Nat → Int32) (mli : Nat → Int32) (mna : Nat → Int32) (mva : Nat → Int32) (mma : Nat → Int32) (mch : Nat → Int32) (mre : Nat → Int32) (mlv : Nat → Int32) (mwr : Nat → Int64) (msh : Nat → Int32) (mth : Int32) (mnv : Int32) (mns : Int32) (mfa : Int32) (mmo : Int32) (ls : Array Slot) (pc : Nat) (H : Heap) (locs : List Loc), decode b_Mo_add pc = .ok (.ireturn, 1) → post v mki msz mle mel mme mal mic mil mio mab mae msa mlc mli mna mva mma mch mre mlv mwr msh mth mnv mns mfa mmo → va_P D vwCl (wM b cI cJ cZ mki msz mle mel mme mal mic mil mio mab mae msa mlc mli mna mva mma mch mre mlv mwr msh mth mnv mns mfa mmo) H → va_D A (wM b cI cJ cZ mki msz mle mel mme mal mic mil mio mab mae msa mlc mli mna mva mma mch mre mlv mwr msh mth mnv mns mfa mmo) → va_S A s.heap H locs → W p l e R s m args below meth c H locs cells slots Q (F0 m pc ls [.int v])) : W p l e R s m args below meth c H locs cells slots Q (F0 m 0 ls []) := by
  have hx := S.1
  have hb := S.2.1
  have hown := S.2.2.2.1
  have hts := S.2.2.2.2
  unfold V_Mo_add at vc
  refine lv_aload_n hx hb d_Mo_add_0 rfl (lv_at hl 0 rfl) ?_
  refine va_get (D := D) (ci := 6) (v := .int mnv) (C := R_Mo) (T := F_Mo) (N := 27) hx hb hts in_Mo hown hK hP 0 rfl rfl 1 (by decide) (hts _ fl_Mo_82) (fun _ h => h) rfl d_Mo_add_1 ?_
  refine lv_bipush (v := 40) hx hb d_Mo_add_4 (by decide) ?_
  refine lv_icmp_ne (tgt := 11) hx hb d_Mo_add_6 (by decide) (fun h => ?_) (fun h => ?_)
  · have vc := vc.1 h
    refine lv_aload_n hx hb d_Mo_add_11 rfl (lv_at hl 0 rfl) ?_
    refine va_get (D := D) (ci := 6) (v := .ref (b 1)) (C := R_Mo) (T := F_Mo) (N := 27) hx hb hts in_Mo hown hK hP 0 rfl rfl 2 (by decide) (hts _ fl_Mo_7) (fun _ h => h) rfl d_Mo_add_12 ?_
    refine lv_aload_n hx hb d_Mo_add_15 rfl (lv_at hl 0 rfl) ?_
    refine va_get (D := D) (ci := 6) (v := .int mnv) (C := R_Mo) (T := F_Mo) (N := 27) hx hb hts in_Mo hown hK hP 0 rfl rfl 1 (by decide) (hts _ fl_Mo_82) (fun _ h => h) rfl d_Mo_add_16 ?_
    refine lv_iload_n hx hb d_Mo_add_19 rfl (lv_at hl 1 rfl) ?_
    obtain ⟨vcb, vc⟩ := vc
    refine va_iast hx hb hK hP hD hS 1 0 rfl rfl vcb d_Mo_add_20 (fun H locs hP hD hS => ?_)
    have hP : va_P D vwCl (wM b cI cJ cZ (upd mki mnv.toNatClampNeg k) msz mle mel mme mal mic mil mio mab mae msa mlc mli mna mva mma mch mre mlv mwr msh mth mnv mns mfa mmo) H := hP
    have hD : va_D A (wM b cI cJ cZ (upd mki mnv.toNatClampNeg k) msz mle mel mme mal mic mil mio mab mae msa mlc mli mna mva mma mch mre mlv mwr msh mth mnv mns mfa mmo) := hD
    refine lv_aload_n hx hb d_Mo_add_21 rfl (lv_at hl 0 rfl) ?_
    refine va_get (D := D) (ci := 6) (v := .ref (b 2)) (C := R_Mo) (T := F_Mo) (N := 27) hx hb hts in_Mo hown hK hP 0 rfl rfl 3 (by decide) (hts _ fl_Mo_13) (fun _ h => h) rfl d_Mo_add_22 ?_
    refine lv_aload_n hx hb d_Mo_add_25 rfl (lv_at hl 0 rfl) ?_
    refine va_get (D := D) (ci := 6) (v := .int mnv) (C := R_Mo) (T := F_Mo) (N := 27) hx hb hts in_Mo hown hK hP 0 rfl rfl 1 (by decide) (hts _ fl_Mo_82) (fun _ h => h) rfl d_Mo_add_26 ?_
    refine lv_lload_n hx hb d_Mo_add_29 rfl (lv_at hl 2 rfl) ?_
    obtain ⟨vcb, vc⟩ := vc
    refine va_last hx hb hK hP hD hS 2 1 rfl rfl vcb d_Mo_add_30 (fun H locs hP hD hS => ?_)
    have hP : va_P D vwCl (wM b cI cJ cZ (upd mki mnv.toNatClampNeg k) (vp_updL msz mnv.toNatClampNeg x) mle mel mme mal mic mil mio mab mae msa mlc mli mna mva mma mch mre mlv mwr msh mth mnv mns mfa mmo) H := hP
    have hD : va_D A (wM b cI cJ cZ (upd mki mnv.toNatClampNeg k) (vp_updL msz mnv.toNatClampNeg x) mle mel mme mal mic mil mio mab mae msa mlc mli mna mva mma mch mre mlv mwr msh mth mnv mns mfa mmo) := hD
    refine lv_aload_n hx hb d_Mo_add_31 rfl (lv_at hl 0 rfl) ?_
    refine lv_dup hx hb d_Mo_add_32 rfl ?_
    refine va_get (D := D) (ci := 6) (v := .int mnv) (C := R_Mo) (T := F_Mo) (N := 27) hx hb hts in_Mo hown hK hP 0 rfl rfl 1 (by decide) (hts _ fl_Mo_82) (fun _ h => h) rfl d_Mo_add_33 ?_
    refine lv_iconst (v := 1) hx hb d_Mo_add_36 (by decide) ?_
    refine lv_iadd hx hb d_Mo_add_37 ?_
    refine va_put (D := D) (ci := 6) (v := .int (mnv + 1)) (ty := .int) (C := R_Mo) (T := F_Mo) (N := 27) hx hb hts in_Mo t_Mo t_Mo_ok n_Mo hown hK hP hD hS 0 rfl rfl 1 (by decide) (hts _ fl_Mo_82) (fun _ h => h) rfl (by decide +kernel) rfl rfl (Nat.le_of_ble_eq_true rfl) d_Mo_add_38 (fun H locs hP hD hS => ?_)
    have hP : va_P D vwCl (wM b cI cJ cZ (upd mki mnv.toNatClampNeg k) (vp_updL msz mnv.toNatClampNeg x) mle mel mme mal mic mil mio mab mae msa mlc mli mna mva mma mch mre mlv mwr msh mth (mnv + 1) mns mfa mmo) H := hP
    have hD : va_D A (wM b cI cJ cZ (upd mki mnv.toNatClampNeg k) (vp_updL msz mnv.toNatClampNeg x) mle mel mme mal mic mil mio mab mae msa mlc mli mna mva mma mch mre mlv mwr msh mth (mnv + 1) mns mfa mmo) := hD
    refine lv_aload_n hx hb d_Mo_add_41 rfl (lv_at hl 0 rfl) ?_
    refine va_get (D := D) (ci := 6) (v := .int (mnv + 1)) (C := R_Mo) (T := F_Mo) (N := 27) hx hb hts in_Mo hown hK hP 0 rfl rfl 1 (by decide) (hts _ fl_Mo_82) (fun _ h => h) rfl d_Mo_add_42 ?_
    refine lv_iconst (v := 1) hx hb d_Mo_add_45 (by decide) ?_
    refine lv_isub hx hb d_Mo_add_46 ?_
    exact hret _ _ _ _ _ _ _ _ _ _ _ _ _ _ _ _ _ _ _ _ _ _ _ _ _ _ _ _ ls _ H locs d_Mo_add_47 vc hP hD hS
  · have vc := vc.2 h
    refine lv_iconst (v := (-1)) hx hb d_Mo_add_9 (by decide) ?_
    exact hret _ _ _ _ _ _ _ _ _ _ _ _ _ _ _ _ _ _ _ _ _ _ _ _ _ _ _ _ ls _ H locs d_Mo_add_10 vc hP hD hS
theorem h_Mo_add (l : Launch) (D : va_G) (b : Nat → Nat) (cI cJ cZ : ClassId) (mki : Nat → Int32) (msz : Nat → Int64) (mle : Nat → Int32) (mel : Nat → Int32) (mme : Nat → Int32) (mal : Nat → Int32) (mic : Nat → Int32) (mil : Nat → Int32) (mio : Nat → Int32) (mab : Nat → Int32) (mae : Nat → Int32) (msa : Nat → Int32) (mlc : Nat → Int32) (mli : Nat → Int32) (mna : Nat → Int32) (mva : Nat → Int32) (mma : Nat → Int32) (mch : Nat → Int32) (mre : Nat → Int32) (mlv : Nat → Int32) (mwr : Nat → Int64) (msh : Nat → Int32) (mth : Int32) (mnv : Int32) (mns : Int32) (mfa : Int32) (mmo : Int32) (k : Int32) (x : Int64) (r : Int32) (mki' : Nat → Int32) (msz' : Nat → Int64) (mle' : Nat → Int32) (mel' : Nat → Int32) (mme' : Nat → Int32) (mal' : Nat → Int32) (mic' : Nat → Int32) (mil' : Nat → Int32) (mio' : Nat → Int32) (mab' : Nat → Int32) (mae' : Nat → Int32) (msa' : Nat → Int32) (mlc' : Nat → Int32) (mli' : Nat → Int32) (mna' : Nat → Int32) (mva' : Nat → Int32) (mma' : Nat → Int32) (mch' : Nat → Int32) (mre' : Nat → Int32) (mlv' : Nat → Int32) (mwr' : Nat → Int64) (msh' : Nat → Int32) (mth' : Int32) (mnv' : Int32) (mns' : Int32) (mfa' : Int32) (mmo' : Int32) (vc : V_Mo_add mki msz mle mel mme mal mic mil mio mab mae msa mlc mli mna mva mma mch mre mlv mwr msh mth mnv mns mfa mmo k x (fun v mki msz mle mel mme mal mic mil mio mab mae msa mlc mli mna mva mma mch mre mlv mwr msh mth mnv mns mfa mmo => v = r ∧ mki = mki' ∧ msz = msz' ∧ mle = mle' ∧ mel = mel' ∧ mme = mme' ∧ mal = mal' ∧ mic = mic' ∧ mil = mil' ∧ mio = mio' ∧ mab = mab' ∧ mae = mae' ∧ msa = msa' ∧ mlc = mlc' ∧ mli = mli' ∧ mna = mna' ∧ mva = mva' ∧ mma = mma' ∧ mch = mch' ∧ mre = mre' ∧ mlv = mlv' ∧ mwr = mwr' ∧ msh = msh' ∧ mth = mth' ∧ mnv = mnv' ∧ mns = mns' ∧ mfa = mfa' ∧ mmo = mmo')) : Wm (S := Unit) l y_Mo_add b_Mo_add 4 (some .int) 0 0 [.ref (b 0), .int k, .long x] D (tyA cI cJ cZ) (wM b cI cJ cZ mki msz mle mel mme mal mic mil mio mab mae msa mlc mli mna mva mma mch mre mlv mwr msh mth mnv mns mfa mmo) (fun _ => True) (fun _ => some (.int r)) (fun _ => (wM b cI cJ cZ mki' msz' mle' mel' mme' mal' mic' mil' mio' mab' mae' msa' mlc' mli' mna' mva' mma' mch' mre' mlv' mwr' msh' mth' mnv' mns' mfa' mmo')) :=
  wm_i (by decide) (fun _ _ => rfl) (Nat.le_of_ble_eq_true rfl) (fun p e s m below meth c ls Q A S hK hP hD hA hS hl hret => g_Mo_add S (Nat.le_refl _) (Nat.le_refl _) ⟨Nat.le_refl _, Nat.le_refl _⟩ D b cI cJ cZ mki msz mle mel mme mal mic mil mio mab mae msa mlc mli mna mva mma mch mre mlv mwr msh mth mnv mns mfa mmo k x hK hP hD hA hS hl vc (fun v mki msz mle mel mme mal mic mil mio mab mae msa mlc mli mna mva mma mch mre mlv mwr msh mth mnv mns mfa mmo ls pc H locs hd hv hP hD hS => by obtain ⟨rfl, rfl, rfl, rfl, rfl, rfl, rfl, rfl, rfl, rfl, rfl, rfl, rfl, rfl, rfl, rfl, rfl, rfl, rfl, rfl, rfl, rfl, rfl, rfl, rfl, rfl, rfl, rfl⟩ := hv; exact hret () _ ls pc H locs hd trivial rfl hP hD hS))
theorem c_Mo_add_1 (l : Launch) (D : va_G) (b : Nat → Nat) (cI cJ cZ : ClassId) (mki : Nat → Int32) (msz : Nat → Int64) (mle : Nat → Int32) (mel : Nat → Int32) (mme : Nat → Int32) (mal : Nat → Int32) (mic : Nat → Int32) (mil : Nat → Int32) (mio : Nat → Int32) (mab : Nat → Int32) (mae : Nat → Int32) (msa : Nat → Int32) (mlc : Nat → Int32) (mli : Nat → Int32) (mna : Nat → Int32) (mva : Nat → Int32) (mma : Nat → Int32) (mch : Nat → Int32) (mre : Nat → Int32) (mlv : Nat → Int32) (mwr : Nat → Int64) (msh : Nat → Int32) (mth : Int32) (mnv : Int32) (mns : Int32) (mfa : Int32) (mmo : Int32) (k : Int32) (x : Int64) (hpre : (¬ mnv < 0 ∧ mnv ≤ 40)) (hv1 : mnv = 40) : Wm (S := Unit) l y_Mo_add b_Mo_add 4 (some .int) 0 0 [.ref (b 0), .int k, .long x] D (tyA cI cJ cZ) (wM b cI cJ cZ mki msz mle mel mme mal mic mil mio mab mae msa mlc mli mna mva mma mch mre mlv mwr msh mth mnv mns mfa mmo) (fun _ => True) (fun _ => some (.int (-1))) (fun _ => (wM b cI cJ cZ mki msz mle mel mme mal mic mil mio mab mae msa mlc mli mna mva mma mch mre mlv mwr msh mth mnv mns mfa mmo)) := h_Mo_add l D b cI cJ cZ mki msz mle mel mme mal mic mil mio mab mae msa mlc mli mna mva mma mch mre mlv mwr msh mth mnv mns mfa mmo k x (-1) mki msz mle mel mme mal mic mil mio mab mae msa mlc mli mna mva mma mch mre mlv mwr msh mth mnv mns mfa mmo (by
  unfold V_Mo_add
  refine ⟨fun h => absurd hv1 h, fun h => ?_⟩
  simp)
theorem c_Mo_add_2 (l : Launch) (D : va_G) (b : Nat → Nat) (cI cJ cZ : ClassId) (mki : Nat → Int32) (msz : Nat → Int64) (mle : Nat → Int32) (mel : Nat → Int32) (mme : Nat → Int32) (mal : Nat → Int32) (mic : Nat → Int32) (mil : Nat → Int32) (mio : Nat → Int32) (mab : Nat → Int32) (mae : Nat → Int32) (msa : Nat → Int32) (mlc : Nat → Int32) (mli : Nat → Int32) (mna : Nat → Int32) (mva : Nat → Int32) (mma : Nat → Int32) (mch : Nat → Int32) (mre : Nat → Int32) (mlv : Nat → Int32) (mwr : Nat → Int64) (msh : Nat → Int32) (mth : Int32) (mnv : Int32) (mns : Int32) (mfa : Int32) (mmo : Int32) (k : Int32) (x : Int64) (hpre : (¬ mnv < 0 ∧ mnv ≤ 40)) (hv1 : ¬ (mnv = 40)) : Wm (S := Unit) l y_Mo_add b_Mo_add 4 (some .int) 0 0 [.ref (b 0), .int k, .long x] D (tyA cI cJ cZ) (wM b cI cJ cZ mki msz mle mel mme mal mic mil mio mab mae msa mlc mli mna mva mma mch mre mlv mwr msh mth mnv mns mfa mmo) (fun _ => True) (fun _ => some (.int (mnv + 1 - 1))) (fun _ => (wM b cI cJ cZ (upd mki mnv.toNatClampNeg k) (vp_updL msz mnv.toNatClampNeg x) mle mel mme mal mic mil mio mab mae msa mlc mli mna mva mma mch mre mlv mwr msh mth (mnv + 1) mns mfa mmo)) := h_Mo_add l D b cI cJ cZ mki msz mle mel mme mal mic mil mio mab mae msa mlc mli mna mva mma mch mre mlv mwr msh mth mnv mns mfa mmo k x (mnv + 1 - 1) (upd mki mnv.toNatClampNeg k) (vp_updL msz mnv.toNatClampNeg x) mle mel mme mal mic mil mio mab mae msa mlc mli mna mva mma mch mre mlv mwr msh mth (mnv + 1) mns mfa mmo (by
  unfold V_Mo_add
  have hb := lt_of_ne40 hpre.1 hpre.2 hv1
  refine ⟨fun h => ⟨hb, hb, ?_⟩, fun h => absurd h hv1⟩
  simp)
theorem hd_Mo_add : y_Mo_add.cls ≠ "java/lang/invoke/MethodHandle" ∧ y_Mo_add.cls ≠ "java/lang/invoke/VarHandle" ∧ (parseMethodDescriptor y_Mo_add.desc).map (fun d => d.parameters.length) = some 2 := ⟨by decide, by decide, by decide +kernel⟩
def V_Mo_made (mki : Nat → Int32) (msz : Nat → Int64) (mle : Nat → Int32) (mel : Nat → Int32) (mme : Nat → Int32) (mal : Nat → Int32) (mic : Nat → Int32) (mil : Nat → Int32) (mio : Nat → Int32) (mab : Nat → Int32) (mae : Nat → Int32) (msa : Nat → Int32) (mlc : Nat → Int32) (mli : Nat → Int32) (mna : Nat → Int32) (mva : Nat → Int32) (mma : Nat → Int32) (mch : Nat → Int32) (mre : Nat → Int32) (mlv : Nat → Int32) (mwr : Nat → Int64) (msh : Nat → Int32) (mth : Int32) (mnv : Int32) (mns : Int32) (mfa : Int32) (mmo : Int32) (k : Int32) (x : Int64) (post : Int32 → (Nat → Int32) → (Nat → Int64) → (Nat → Int32) → (Nat → Int32) → (Nat → Int32) → (Nat → Int32) → (Nat → Int32) → (Nat → Int32) → (Nat → Int32) → (Nat → Int32) → (Nat → Int32) → (Nat → Int32) → (Nat → Int32) → (Nat → Int32) → (Nat → Int32) → (Nat → Int32) → (Nat → Int32) → (Nat → Int32) → (Nat → Int32) → (Nat → Int32) → (Nat → Int64) → (Nat → Int32) → Int32 → Int32 → Int32 → Int32 → Int32 → Prop) : Prop :=
  ((¬ mnv < 0 ∧ mnv ≤ 40) ∧ ((mnv = 40 → ((0 ≤ ((-1) : Int32) → ((0 ≤ ((-1) : Int32) → post (-1) mki msz mle mel mme mal mic mil mio mab mae msa mlc mli mna mva mma mch mre mlv mwr msh 0 mnv mns mfa mmo) ∧ (¬ 0 ≤ ((-1) : Int32) → post 0 mki msz mle mel mme mal mic mil mio mab mae msa mlc mli mna mva mma mch mre mlv mwr msh 0 mnv mns mfa mmo))) ∧ (¬ 0 ≤ ((-1) : Int32) → ((0 ≤ ((-1) : Int32) → post (-1) mki msz mle mel mme mal mic mil mio mab mae msa mlc mli mna mva mma mch mre mlv mwr msh 2 mnv mns mfa mmo) ∧ (¬ 0 ≤ ((-1) : Int32) → post 0 mki msz mle mel mme mal mic mil mio mab mae msa mlc mli mna mva mma mch mre mlv mwr msh 2 mnv mns mfa mmo))))) ∧ (¬ (mnv = 40) → ((0 ≤ (mnv + 1 - 1) → ((0 ≤ (mnv + 1 - 1) → post (mnv + 1 - 1) (upd mki mnv.toNatClampNeg k) (vp_updL msz mnv.toNatClampNeg x) mle mel mme mal mic mil mio mab mae msa mlc mli mna mva mma mch mre mlv mwr msh 0 (mnv + 1) mns mfa mmo) ∧ (¬ 0 ≤ (mnv + 1 - 1) → post 0 (upd mki mnv.toNatClampNeg k) (vp_updL msz mnv.toNatClampNeg x) mle mel mme mal mic mil mio mab mae msa mlc mli mna mva mma mch mre mlv mwr msh 0 (mnv + 1) mns mfa mmo))) ∧ (¬ 0 ≤ (mnv + 1 - 1) → ((0 ≤ (mnv + 1 - 1) → post (mnv + 1 - 1) (upd mki mnv.toNatClampNeg k) (vp_updL msz mnv.toNatClampNeg x) mle mel mme mal mic mil mio mab mae msa mlc mli mna mva mma mch mre mlv mwr msh 2 (mnv + 1) mns mfa mmo) ∧ (¬ 0 ≤ (mnv + 1 - 1) → post 0 (upd mki mnv.toNatClampNeg k) (vp_updL msz mnv.toNatClampNeg x) mle mel mme mal mic mil mio mab mae msa mlc mli mna mva mma mch mre mlv mwr msh 2 (mnv + 1) mns mfa mmo)))))))
set_option maxHeartbeats 4000000 in
set_option maxRecDepth 100000 in
theorem g_Mo_made {p : Program} {l : Launch} {e : Env} {R : Room} {s : State} {m : MethodId} {args : Array Value} {below : List Frame} {meth : Method} {c : Code} {H : Heap} {locs : List Loc} {cells slots : Nat} {Q : State → Prop} {ls : Array Slot} {A : Nat → Prop} (S : CallFix p m c b_Mo_made 5 s args W0 R_Mo) (hRf : 1 ≤ R.frames) (hRl : 23 ≤ R.locals) (hRc : cells ≤ R.cells ∧ slots ≤ R.slots) (D : va_G) (b : Nat → Nat) (cI cJ cZ : ClassId) (mki : Nat → Int32) (msz : Nat → Int64) (mle : Nat → Int32) (mel : Nat → Int32) (mme : Nat → Int32) (mal : Nat → Int32) (mic : Nat → Int32) (mil : Nat → Int32) (mio : Nat → Int32) (mab : Nat → Int32) (mae : Nat → Int32) (msa : Nat → Int32) (mlc : Nat → Int32) (mli : Nat → Int32) (mna : Nat → Int32) (mva : Nat → Int32) (mma : Nat → Int32) (mch : Nat → Int32) (mre : Nat → Int32) (mlv : Nat → Int32) (mwr : Nat → Int64) (msh : Nat → Int32) (mth : Int32) (mnv : Int32) (mns : Int32) (mfa : Int32) (mmo : Int32) (k : Int32) (x : Int64) (hK : va_K D vwCl (tyA cI cJ cZ) s) (hP : va_P D vwCl (wM b cI cJ cZ mki msz mle mel mme mal mic mil mio mab mae msa mlc mli mna mva mma mch mre mlv mwr msh mth mnv mns mfa mmo) H) (hD : va_D A (wM b cI cJ cZ mki msz mle mel mme mal mic mil mio mab mae msa mlc mli mna mva mma mch mre mlv mwr msh mth mnv mns mfa mmo)) (hA : ∀ q, s.heap.size ≤ q → A q) (hS : va_S A s.heap H locs) (hl : lv_has ls 5 [(0, .ref (b 0)), (1, .int k), (2, .long x)]) {post : Int32 → (Nat → Int32) → (Nat → Int64) → (Nat → Int32) → (Nat → Int32) → (Nat → Int32) → (Nat → Int32) → (Nat → Int32) → (Nat → Int32) → (Nat → Int32) → (Nat → Int32) → (Nat → Int32) → (Nat → Int32) → (Nat → Int32) → (Nat → Int32) → (Nat → Int32) → (Nat → Int32) → (Nat → Int32) → (Nat → Int32) → (Nat → Int32) → (Nat → Int32) → (Nat → Int64) → (Nat → Int32) → Int32 → Int32 → Int32 → Int32 → Int32 → Prop} (vc : V_Mo_made mki msz mle mel mme mal mic mil mio mab mae msa mlc mli mna mva mma mch mre mlv mwr msh mth mnv mns mfa mmo k x post)
    (hret : ∀ (v : Int32) (mki : Nat → Int32) (msz : Nat → Int64) (mle : Nat → Int32) (mel : Nat → Int32) (mme : Nat → Int32) (mal : Nat → Int32) (mic : Nat → Int32) (mil : Nat → Int32) (mio : Nat → Int32) (mab : Nat → Int32) (mae : Nat → Int32) (msa : Nat → Int32) (mlc : Nat → Int32) (mli : Nat → Int32) (mna : Nat → Int32) (mva : Nat → Int32) (mma : Nat → Int32) (mch : Nat → Int32) (mre : Nat → Int32) (mlv : Nat → Int32) (mwr : Nat → Int64) (msh : Nat → Int32) (mth : Int32) (mnv : Int32) (mns : Int32) (mfa : Int32) (mmo : Int32) (ls : Array Slot) (pc : Nat) (H : Heap) (locs : List Loc), decode b_Mo_made pc = .ok (.ireturn, 1) → post v mki msz mle mel mme mal mic mil mio mab mae msa mlc mli mna mva mma mch mre mlv mwr msh mth mnv mns mfa mmo → va_P D vwCl (wM b cI cJ cZ mki msz mle mel mme mal mic mil mio mab mae msa mlc mli mna mva mma mch mre mlv mwr msh mth mnv mns mfa mmo) H → va_D A (wM b cI cJ cZ mki msz mle mel mme mal mic mil mio mab mae msa mlc mli mna mva mma mch mre mlv mwr msh mth mnv mns mfa mmo) → va_S A s.heap H locs → W p l e R s m args below meth c H locs cells slots Q (F0 m pc ls [.int v])) : W p l e R s m args below meth c H locs cells slots Q (F0 m 0 ls []) := by
  have hx := S.1
  have hb := S.2.1
  have hown := S.2.2.2.1
  have hts := S.2.2.2.2
  unfold V_Mo_made at vc
  refine lv_aload_n hx hb d_Mo_made_0 rfl (lv_at hl 0 rfl) ?_
  refine lv_iload_n hx hb d_Mo_made_1 rfl (lv_at hl 1 rfl) ?_
  refine lv_lload_n hx hb d_Mo_made_2 rfl (lv_at hl 2 rfl) ?_
  obtain ⟨hpre, vc⟩ := vc
  by_cases hv1 : mnv = 40
  · have vc := vc.1 hv1
    refine wc_V (As := [.int k, .long x]) (rest := []) (wr := ([] : va_W)) S (c_Mo_add_1 l D b cI cJ cZ mki msz mle mel mme mal mic mil mio mab mae msa mlc mli mna mva mma mch mre mlv mwr msh mth mnv mns mfa mmo k x hpre hv1) k_Mo_add i_Mo_add e_Mo_add o_Mo ml_Mo_85 hd_Mo_add (Nat.le_trans (by decide) hRf) (Nat.le_trans (by decide) hRl) hRc (va_recv hK hP (q0 := 0) (ci := 6) rfl rfl) hK hP hD hS hA [0, 1, 2, 3, 4, 5, 6, 7, 8, 9, 10, 11, 12, 13, 14, 15, 16, 17, 18, 19, 20, 21, 22] [] rfl rfl rfl (by decide) (by decide) (by decide) hl.1 rfl (Nat.le_of_ble_eq_true rfl) d_Mo_made_3 (fun _ H locs _ hP hD hS => ?_)
    have hP : va_P D vwCl (wM b cI cJ cZ mki msz mle mel mme mal mic mil mio mab mae msa mlc mli mna mva mma mch mre mlv mwr msh mth mnv mns mfa mmo) H := hP
    have hD : va_D A (wM b cI cJ cZ mki msz mle mel mme mal mic mil mio mab mae msa mlc mli mna mva mma mch mre mlv mwr msh mth mnv mns mfa mmo) := hD
    refine lv_istore hx hb d_Mo_made_6 hl (by decide) (lv' := [(4, .int (-1)), (0, .ref (b 0)), (1, .int k), (2, .long x)]) rfl (fun ls hl => ?_)
    refine lv_aload_n hx hb d_Mo_made_8 rfl (lv_at hl 1 rfl) ?_
    refine lv_iload hx hb d_Mo_made_9 (lv_at hl 0 rfl) ?_
    refine lv_if_ge (tgt := 18) hx hb d_Mo_made_11 (by decide) (fun h => ?_) (fun h => ?_)
    · have vc := vc.1 h
      refine lv_iconst (v := 0) hx hb d_Mo_made_18 (by decide) ?_
      refine va_put (D := D) (ci := 6) (v := .int 0) (ty := .int) (C := R_Mo) (T := F_Mo) (N := 27) hx hb hts in_Mo t_Mo t_Mo_ok n_Mo hown hK hP hD hS 0 rfl rfl 0 (by decide) (hts _ fl_Mo_78) (fun _ h => h) rfl (by decide +kernel) rfl rfl (Nat.le_of_ble_eq_true rfl) d_Mo_made_19 (fun H locs hP hD hS => ?_)
      have hP : va_P D vwCl (wM b cI cJ cZ mki msz mle mel mme mal mic mil mio mab mae msa mlc mli mna mva mma mch mre mlv mwr msh 0 mnv mns mfa mmo) H := hP
      have hD : va_D A (wM b cI cJ cZ mki msz mle mel mme mal mic mil mio mab mae msa mlc mli mna mva mma mch mre mlv mwr msh 0 mnv mns mfa mmo) := hD
      refine lv_iload hx hb d_Mo_made_22 (lv_at hl 0 rfl) ?_
      refine lv_if_ge (tgt := 31) hx hb d_Mo_made_24 (by decide) (fun h => ?_) (fun h => ?_)
      · have vc := vc.1 h
        refine lv_iload hx hb d_Mo_made_31 (lv_at hl 0 rfl) ?_
        exact hret _ _ _ _ _ _ _ _ _ _ _ _ _ _ _ _ _ _ _ _ _ _ _ _ _ _ _ _ ls _ H locs d_Mo_made_33 vc hP hD hS
      · have vc := vc.2 h
        refine lv_iconst (v := 0) hx hb d_Mo_made_27 (by decide) ?_
        refine lv_goto (tgt := 33) hx hb d_Mo_made_28 (by decide) ?_
        exact hret _ _ _ _ _ _ _ _ _ _ _ _ _ _ _ _ _ _ _ _ _ _ _ _ _ _ _ _ ls _ H locs d_Mo_made_33 vc hP hD hS
    · have vc := vc.2 h
      refine lv_iconst (v := 2) hx hb d_Mo_made_14 (by decide) ?_
      refine lv_goto (tgt := 19) hx hb d_Mo_made_15 (by decide) ?_
      refine va_put (D := D) (ci := 6) (v := .int 2) (ty := .int) (C := R_Mo) (T := F_Mo) (N := 27) hx hb hts in_Mo t_Mo t_Mo_ok n_Mo hown hK hP hD hS 0 rfl rfl 0 (by decide) (hts _ fl_Mo_78) (fun _ h => h) rfl (by decide +kernel) rfl rfl (Nat.le_of_ble_eq_true rfl) d_Mo_made_19 (fun H locs hP hD hS => ?_)
      have hP : va_P D vwCl (wM b cI cJ cZ mki msz mle mel mme mal mic mil mio mab mae msa mlc mli mna mva mma mch mre mlv mwr msh 2 mnv mns mfa mmo) H := hP
      have hD : va_D A (wM b cI cJ cZ mki msz mle mel mme mal mic mil mio mab mae msa mlc mli mna mva mma mch mre mlv mwr msh 2 mnv mns mfa mmo) := hD
      refine lv_iload hx hb d_Mo_made_22 (lv_at hl 0 rfl) ?_
      refine lv_if_ge (tgt := 31) hx hb d_Mo_made_24 (by decide) (fun h => ?_) (fun h => ?_)
      · have vc := vc.1 h
        refine lv_iload hx hb d_Mo_made_31 (lv_at hl 0 rfl) ?_
        exact hret _ _ _ _ _ _ _ _ _ _ _ _ _ _ _ _ _ _ _ _ _ _ _ _ _ _ _ _ ls _ H locs d_Mo_made_33 vc hP hD hS
      · have vc := vc.2 h
        refine lv_iconst (v := 0) hx hb d_Mo_made_27 (by decide) ?_
        refine lv_goto (tgt := 33) hx hb d_Mo_made_28 (by decide) ?_
        exact hret _ _ _ _ _ _ _ _ _ _ _ _ _ _ _ _ _ _ _ _ _ _ _ _ _ _ _ _ ls _ H locs d_Mo_made_33 vc hP hD hS
  · have vc := vc.2 hv1
    refine wc_V (As := [.int k, .long x]) (rest := []) (wr := ([] : va_W)) S (c_Mo_add_2 l D b cI cJ cZ mki msz mle mel mme mal mic mil mio mab mae msa mlc mli mna mva mma mch mre mlv mwr msh mth mnv mns mfa mmo k x hpre hv1) k_Mo_add i_Mo_add e_Mo_add o_Mo ml_Mo_85 hd_Mo_add (Nat.le_trans (by decide) hRf) (Nat.le_trans (by decide) hRl) hRc (va_recv hK hP (q0 := 0) (ci := 6) rfl rfl) hK hP hD hS hA [0, 1, 2, 3, 4, 5, 6, 7, 8, 9, 10, 11, 12, 13, 14, 15, 16, 17, 18, 19, 20, 21, 22] [] rfl rfl rfl (by decide) (by decide) (by decide) hl.1 rfl (Nat.le_of_ble_eq_true rfl) d_Mo_made_3 (fun _ H locs _ hP hD hS => ?_)
    have hP : va_P D vwCl (wM b cI cJ cZ (upd mki mnv.toNatClampNeg k) (vp_updL msz mnv.toNatClampNeg x) mle mel mme mal mic mil mio mab mae msa mlc mli mna mva mma mch mre mlv mwr msh mth (mnv + 1) mns mfa mmo) H := hP
    have hD : va_D A (wM b cI cJ cZ (upd mki mnv.toNatClampNeg k) (vp_updL msz mnv.toNatClampNeg x) mle mel mme mal mic mil mio mab mae msa mlc mli mna mva mma mch mre mlv mwr msh mth (mnv + 1) mns mfa mmo) := hD
    refine lv_istore hx hb d_Mo_made_6 hl (by decide) (lv' := [(4, .int (mnv + 1 - 1)), (0, .ref (b 0)), (1, .int k), (2, .long x)]) rfl (fun ls hl => ?_)
    refine lv_aload_n hx hb d_Mo_made_8 rfl (lv_at hl 1 rfl) ?_
    refine lv_iload hx hb d_Mo_made_9 (lv_at hl 0 rfl) ?_
    refine lv_if_ge (tgt := 18) hx hb d_Mo_made_11 (by decide) (fun h => ?_) (fun h => ?_)
    · have vc := vc.1 h
      refine lv_iconst (v := 0) hx hb d_Mo_made_18 (by decide) ?_
      refine va_put (D := D) (ci := 6) (v := .int 0) (ty := .int) (C := R_Mo) (T := F_Mo) (N := 27) hx hb hts in_Mo t_Mo t_Mo_ok n_Mo hown hK hP hD hS 0 rfl rfl 0 (by decide) (hts _ fl_Mo_78) (fun _ h => h) rfl (by decide +kernel) rfl rfl (Nat.le_of_ble_eq_true rfl) d_Mo_made_19 (fun H locs hP hD hS => ?_)
      have hP : va_P D vwCl (wM b cI cJ cZ (upd mki mnv.toNatClampNeg k) (vp_updL msz mnv.toNatClampNeg x) mle mel mme mal mic mil mio mab mae msa mlc mli mna mva mma mch mre mlv mwr msh 0 (mnv + 1) mns mfa mmo) H := hP
      have hD : va_D A (wM b cI cJ cZ (upd mki mnv.toNatClampNeg k) (vp_updL msz mnv.toNatClampNeg x) mle mel mme mal mic mil mio mab mae msa mlc mli mna mva mma mch mre mlv mwr msh 0 (mnv + 1) mns mfa mmo) := hD
      refine lv_iload hx hb d_Mo_made_22 (lv_at hl 0 rfl) ?_
      refine lv_if_ge (tgt := 31) hx hb d_Mo_made_24 (by decide) (fun h => ?_) (fun h => ?_)
      · have vc := vc.1 h
        refine lv_iload hx hb d_Mo_made_31 (lv_at hl 0 rfl) ?_
        exact hret _ _ _ _ _ _ _ _ _ _ _ _ _ _ _ _ _ _ _ _ _ _ _ _ _ _ _ _ ls _ H locs d_Mo_made_33 vc hP hD hS
      · have vc := vc.2 h
        refine lv_iconst (v := 0) hx hb d_Mo_made_27 (by decide) ?_
        refine lv_goto (tgt := 33) hx hb d_Mo_made_28 (by decide) ?_
        exact hret _ _ _ _ _ _ _ _ _ _ _ _ _ _ _ _ _ _ _ _ _ _ _ _ _ _ _ _ ls _ H locs d_Mo_made_33 vc hP hD hS
    · have vc := vc.2 h
      refine lv_iconst (v := 2) hx hb d_Mo_made_14 (by decide) ?_
      refine lv_goto (tgt := 19) hx hb d_Mo_made_15 (by decide) ?_
      refine va_put (D := D) (ci := 6) (v := .int 2) (ty := .int) (C := R_Mo) (T := F_Mo) (N := 27) hx hb hts in_Mo t_Mo t_Mo_ok n_Mo hown hK hP hD hS 0 rfl rfl 0 (by decide) (hts _ fl_Mo_78) (fun _ h => h) rfl (by decide +kernel) rfl rfl (Nat.le_of_ble_eq_true rfl) d_Mo_made_19 (fun H locs hP hD hS => ?_)
      have hP : va_P D vwCl (wM b cI cJ cZ (upd mki mnv.toNatClampNeg k) (vp_updL msz mnv.toNatClampNeg x) mle mel mme mal mic mil mio mab mae msa mlc mli mna mva mma mch mre mlv mwr msh 2 (mnv + 1) mns mfa mmo) H := hP
      have hD : va_D A (wM b cI cJ cZ (upd mki mnv.toNatClampNeg k) (vp_updL msz mnv.toNatClampNeg x) mle mel mme mal mic mil mio mab mae msa mlc mli mna mva mma mch mre mlv mwr msh 2 (mnv + 1) mns mfa mmo) := hD
      refine lv_iload hx hb d_Mo_made_22 (lv_at hl 0 rfl) ?_
      refine lv_if_ge (tgt := 31) hx hb d_Mo_made_24 (by decide) (fun h => ?_) (fun h => ?_)
      · have vc := vc.1 h
        refine lv_iload hx hb d_Mo_made_31 (lv_at hl 0 rfl) ?_
        exact hret _ _ _ _ _ _ _ _ _ _ _ _ _ _ _ _ _ _ _ _ _ _ _ _ _ _ _ _ ls _ H locs d_Mo_made_33 vc hP hD hS
      · have vc := vc.2 h
        refine lv_iconst (v := 0) hx hb d_Mo_made_27 (by decide) ?_
        refine lv_goto (tgt := 33) hx hb d_Mo_made_28 (by decide) ?_
        exact hret _ _ _ _ _ _ _ _ _ _ _ _ _ _ _ _ _ _ _ _ _ _ _ _ _ _ _ _ ls _ H locs d_Mo_made_33 vc hP hD hS
theorem h_Mo_made (l : Launch) (D : va_G) (b : Nat → Nat) (cI cJ cZ : ClassId) (mki : Nat → Int32) (msz : Nat → Int64) (mle : Nat → Int32) (mel : Nat → Int32) (mme : Nat → Int32) (mal : Nat → Int32) (mic : Nat → Int32) (mil : Nat → Int32) (mio : Nat → Int32) (mab : Nat → Int32) (mae : Nat → Int32) (msa : Nat → Int32) (mlc : Nat → Int32) (mli : Nat → Int32) (mna : Nat → Int32) (mva : Nat → Int32) (mma : Nat → Int32) (mch : Nat → Int32) (mre : Nat → Int32) (mlv : Nat → Int32) (mwr : Nat → Int64) (msh : Nat → Int32) (mth : Int32) (mnv : Int32) (mns : Int32) (mfa : Int32) (mmo : Int32) (k : Int32) (x : Int64) (r : Int32) (mki' : Nat → Int32) (msz' : Nat → Int64) (mle' : Nat → Int32) (mel' : Nat → Int32) (mme' : Nat → Int32) (mal' : Nat → Int32) (mic' : Nat → Int32) (mil' : Nat → Int32) (mio' : Nat → Int32) (mab' : Nat → Int32) (mae' : Nat → Int32) (msa' : Nat → Int32) (mlc' : Nat → Int32) (mli' : Nat → Int32) (mna' : Nat → Int32) (mva' : Nat → Int32) (mma' : Nat → Int32) (mch' : Nat → Int32) (mre' : Nat → Int32) (mlv' : Nat → Int32) (mwr' : Nat → Int64) (msh' : Nat → Int32) (mth' : Int32) (mnv' : Int32) (mns' : Int32) (mfa' : Int32) (mmo' : Int32) (vc : V_Mo_made mki msz mle mel mme mal mic mil mio mab mae msa mlc mli mna mva mma mch mre mlv mwr msh mth mnv mns mfa mmo k x (fun v mki msz mle mel mme mal mic mil mio mab mae msa mlc mli mna mva mma mch mre mlv mwr msh mth mnv mns mfa mmo => v = r ∧ mki = mki' ∧ msz = msz' ∧ mle = mle' ∧ mel = mel' ∧ mme = mme' ∧ mal = mal' ∧ mic = mic' ∧ mil = mil' ∧ mio = mio' ∧ mab = mab' ∧ mae = mae' ∧ msa = msa' ∧ mlc = mlc' ∧ mli = mli' ∧ mna = mna' ∧ mva = mva' ∧ mma = mma' ∧ mch = mch' ∧ mre = mre' ∧ mlv = mlv' ∧ mwr = mwr' ∧ msh = msh' ∧ mth = mth' ∧ mnv = mnv' ∧ mns = mns' ∧ mfa = mfa' ∧ mmo = mmo')) : Wm (S := Unit) l y_Mo_made b_Mo_made 5 (some .int) 1 23 [.ref (b 0), .int k, .long x] D (tyA cI cJ cZ) (wM b cI cJ cZ mki msz mle mel mme mal mic mil mio mab mae msa mlc mli mna mva mma mch mre mlv mwr msh mth mnv mns mfa mmo) (fun _ => True) (fun _ => some (.int r)) (fun _ => (wM b cI cJ cZ mki' msz' mle' mel' mme' mal' mic' mil' mio' mab' mae' msa' mlc' mli' mna' mva' mma' mch' mre' mlv' mwr' msh' mth' mnv' mns' mfa' mmo')) :=
  wm_i (by decide) (fun _ _ => rfl) (Nat.le_of_ble_eq_true rfl) (fun p e s m below meth c ls Q A S hK hP hD hA hS hl hret => g_Mo_made S (Nat.le_refl _) (Nat.le_refl _) ⟨Nat.le_refl _, Nat.le_refl _⟩ D b cI cJ cZ mki msz mle mel mme mal mic mil mio mab mae msa mlc mli mna mva mma mch mre mlv mwr msh mth mnv mns mfa mmo k x hK hP hD hA hS hl vc (fun v mki msz mle mel mme mal mic mil mio mab mae msa mlc mli mna mva mma mch mre mlv mwr msh mth mnv mns mfa mmo ls pc H locs hd hv hP hD hS => by obtain ⟨rfl, rfl, rfl, rfl, rfl, rfl, rfl, rfl, rfl, rfl, rfl, rfl, rfl, rfl, rfl, rfl, rfl, rfl, rfl, rfl, rfl, rfl, rfl, rfl, rfl, rfl, rfl, rfl⟩ := hv; exact hret () _ ls pc H locs hd trivial rfl hP hD hS))
theorem c_Mo_made_1 (l : Launch) (D : va_G) (b : Nat → Nat) (cI cJ cZ : ClassId) (mki : Nat → Int32) (msz : Nat → Int64) (mle : Nat → Int32) (mel : Nat → Int32) (mme : Nat → Int32) (mal : Nat → Int32) (mic : Nat → Int32) (mil : Nat → Int32) (mio : Nat → Int32) (mab : Nat → Int32) (mae : Nat → Int32) (msa : Nat → Int32) (mlc : Nat → Int32) (mli : Nat → Int32) (mna : Nat → Int32) (mva : Nat → Int32) (mma : Nat → Int32) (mch : Nat → Int32) (mre : Nat → Int32) (mlv : Nat → Int32) (mwr : Nat → Int64) (msh : Nat → Int32) (mth : Int32) (mnv : Int32) (mns : Int32) (mfa : Int32) (mmo : Int32) (k : Int32) (x : Int64) (hpre : (¬ mnv < 0 ∧ mnv ≤ 40)) (hv1 : mnv = 40) : Wm (S := Unit) l y_Mo_made b_Mo_made 5 (some .int) 1 23 [.ref (b 0), .int k, .long x] D (tyA cI cJ cZ) (wM b cI cJ cZ mki msz mle mel mme mal mic mil mio mab mae msa mlc mli mna mva mma mch mre mlv mwr msh mth mnv mns mfa mmo) (fun _ => True) (fun _ => some (.int 0)) (fun _ => (wM b cI cJ cZ mki msz mle mel mme mal mic mil mio mab mae msa mlc mli mna mva mma mch mre mlv mwr msh 2 mnv mns mfa mmo)) := h_Mo_made l D b cI cJ cZ mki msz mle mel mme mal mic mil mio mab mae msa mlc mli mna mva mma mch mre mlv mwr msh mth mnv mns mfa mmo k x 0 mki msz mle mel mme mal mic mil mio mab mae msa mlc mli mna mva mma mch mre mlv mwr msh 2 mnv mns mfa mmo (by
  unfold V_Mo_made
  repeat' (first | apply br_c | apply br_d | apply pre_and hpre | intro _)
  all_goals (first | (simp_all [add_sub1, bI]; done) | skip))
theorem c_Mo_made_2 (l : Launch) (D : va_G) (b : Nat → Nat) (cI cJ cZ : ClassId) (mki : Nat → Int32) (msz : Nat → Int64) (mle : Nat → Int32) (mel : Nat → Int32) (mme : Nat → Int32) (mal : Nat → Int32) (mic : Nat → Int32) (mil : Nat → Int32) (mio : Nat → Int32) (mab : Nat → Int32) (mae : Nat → Int32) (msa : Nat → Int32) (mlc : Nat → Int32) (mli : Nat → Int32) (mna : Nat → Int32) (mva : Nat → Int32) (mma : Nat → Int32) (mch : Nat → Int32) (mre : Nat → Int32) (mlv : Nat → Int32) (mwr : Nat → Int64) (msh : Nat → Int32) (mth : Int32) (mnv : Int32) (mns : Int32) (mfa : Int32) (mmo : Int32) (k : Int32) (x : Int64) (hpre : (¬ mnv < 0 ∧ mnv ≤ 40)) (hv1 : ¬ (mnv = 40)) : Wm (S := Unit) l y_Mo_made b_Mo_made 5 (some .int) 1 23 [.ref (b 0), .int k, .long x] D (tyA cI cJ cZ) (wM b cI cJ cZ mki msz mle mel mme mal mic mil mio mab mae msa mlc mli mna mva mma mch mre mlv mwr msh mth mnv mns mfa mmo) (fun _ => True) (fun _ => some (.int (mnv + 1 - 1))) (fun _ => (wM b cI cJ cZ (upd mki mnv.toNatClampNeg k) (vp_updL msz mnv.toNatClampNeg x) mle mel mme mal mic mil mio mab mae msa mlc mli mna mva mma mch mre mlv mwr msh 0 (mnv + 1) mns mfa mmo)) := h_Mo_made l D b cI cJ cZ mki msz mle mel mme mal mic mil mio mab mae msa mlc mli mna mva mma mch mre mlv mwr msh mth mnv mns mfa mmo k x (mnv + 1 - 1) (upd mki mnv.toNatClampNeg k) (vp_updL msz mnv.toNatClampNeg x) mle mel mme mal mic mil mio mab mae msa mlc mli mna mva mma mch mre mlv mwr msh 0 (mnv + 1) mns mfa mmo (by
  unfold V_Mo_made
  repeat' (first | apply br_c | apply br_d | apply pre_and hpre | intro _)
  all_goals (first | (simp_all [add_sub1, bI]; done) | skip))
theorem hd_Mo_made : y_Mo_made.cls ≠ "java/lang/invoke/MethodHandle" ∧ y_Mo_made.cls ≠ "java/lang/invoke/VarHandle" ∧ (parseMethodDescriptor y_Mo_made.desc).map (fun d => d.parameters.length) = some 2 := ⟨by decide, by decide, by decide +kernel⟩
def V_Mo_make (mki : Nat → Int32) (msz : Nat → Int64) (mle : Nat → Int32) (mel : Nat → Int32) (mme : Nat → Int32) (mal : Nat → Int32) (mic : Nat → Int32) (mil : Nat → Int32) (mio : Nat → Int32) (mab : Nat → Int32) (mae : Nat → Int32) (msa : Nat → Int32) (mlc : Nat → Int32) (mli : Nat → Int32) (mna : Nat → Int32) (mva : Nat → Int32) (mma : Nat → Int32) (mch : Nat → Int32) (mre : Nat → Int32) (mlv : Nat → Int32) (mwr : Nat → Int64) (msh : Nat → Int32) (mth : Int32) (mnv : Int32) (mns : Int32) (mfa : Int32) (mmo : Int32) (k : Int32) (post : Int32 → (Nat → Int32) → (Nat → Int64) → (Nat → Int32) → (Nat → Int32) → (Nat → Int32) → (Nat → Int32) → (Nat → Int32) → (Nat → Int32) → (Nat → Int32) → (Nat → Int32) → (Nat → Int32) → (Nat → Int32) → (Nat → Int32) → (Nat → Int32) → (Nat → Int32) → (Nat → Int32) → (Nat → Int32) → (Nat → Int32) → (Nat → Int32) → (Nat → Int32) → (Nat → Int64) → (Nat → Int32) → Int32 → Int32 → Int32 → Int32 → Int32 → Prop) : Prop :=
  ((k = 0 → (((0 : Int32) = 0 → ((¬ mnv < 0 ∧ mnv ≤ 40) ∧ ((mnv = 40 → post 0 mki msz mle mel mme mal mic mil mio mab mae msa mlc mli mna mva mma mch mre mlv mwr msh 2 mnv mns mfa mmo) ∧ (¬ (mnv = 40) → post (mnv + 1 - 1) (upd mki mnv.toNatClampNeg k) (vp_updL msz mnv.toNatClampNeg 0) mle mel mme mal mic mil mio mab mae msa mlc mli mna mva mma mch mre mlv mwr msh 0 (mnv + 1) mns mfa mmo)))) ∧ (¬ (0 : Int32) = 0 → post 0 mki msz mle mel mme mal mic mil mio mab mae msa mlc mli mna mva mma mch mre mlv mwr msh 0 mnv mns mfa mmo))) ∧ (¬ k = 0 → ((k = 4 → (((0 : Int32) = 0 → ((¬ mnv < 0 ∧ mnv ≤ 40) ∧ ((mnv = 40 → post 0 mki msz mle mel mme mal mic mil mio mab mae msa mlc mli mna mva mma mch mre mlv mwr msh 2 mnv mns mfa mmo) ∧ (¬ (mnv = 40) → post (mnv + 1 - 1) (upd mki mnv.toNatClampNeg k) (vp_updL msz mnv.toNatClampNeg 0) mle mel mme mal mic mil mio mab mae msa mlc mli mna mva mma mch mre mlv mwr msh 0 (mnv + 1) mns mfa mmo)))) ∧ (¬ (0 : Int32) = 0 → post 0 mki msz mle mel mme mal mic mil mio mab mae msa mlc mli mna mva mma mch mre mlv mwr msh 0 mnv mns mfa mmo))) ∧ (¬ k = 4 → ((k = 5 → (((0 : Int32) = 0 → ((¬ mnv < 0 ∧ mnv ≤ 40) ∧ ((mnv = 40 → post 0 mki msz mle mel mme mal mic mil mio mab mae msa mlc mli mna mva mma mch mre mlv mwr msh 2 mnv mns mfa mmo) ∧ (¬ (mnv = 40) → post (mnv + 1 - 1) (upd mki mnv.toNatClampNeg k) (vp_updL msz mnv.toNatClampNeg 0) mle mel mme mal mic mil mio mab mae msa mlc mli mna mva mma mch mre mlv mwr msh 0 (mnv + 1) mns mfa mmo)))) ∧ (¬ (0 : Int32) = 0 → post 0 mki msz mle mel mme mal mic mil mio mab mae msa mlc mli mna mva mma mch mre mlv mwr msh 0 mnv mns mfa mmo))) ∧ (¬ k = 5 → (((1 : Int32) = 0 → ((¬ mnv < 0 ∧ mnv ≤ 40) ∧ ((mnv = 40 → post 0 mki msz mle mel mme mal mic mil mio mab mae msa mlc mli mna mva mma mch mre mlv mwr msh 2 mnv mns mfa mmo) ∧ (¬ (mnv = 40) → post (mnv + 1 - 1) (upd mki mnv.toNatClampNeg k) (vp_updL msz mnv.toNatClampNeg 0) mle mel mme mal mic mil mio mab mae msa mlc mli mna mva mma mch mre mlv mwr msh 0 (mnv + 1) mns mfa mmo)))) ∧ (¬ (1 : Int32) = 0 → post 0 mki msz mle mel mme mal mic mil mio mab mae msa mlc mli mna mva mma mch mre mlv mwr msh 1 mnv mns mfa mmo))))))))
set_option maxHeartbeats 4000000 in
set_option maxRecDepth 100000 in
theorem g_Mo_make {p : Program} {l : Launch} {e : Env} {R : Room} {s : State} {m : MethodId} {args : Array Value} {below : List Frame} {meth : Method} {c : Code} {H : Heap} {locs : List Loc} {cells slots : Nat} {Q : State → Prop} {ls : Array Slot} {A : Nat → Prop} (S : CallFix p m c b_Mo_make 2 s args W0 R_Mo) (hRf : 2 ≤ R.frames) (hRl : 47 ≤ R.locals) (hRc : cells ≤ R.cells ∧ slots ≤ R.slots) (D : va_G) (b : Nat → Nat) (cI cJ cZ : ClassId) (mki : Nat → Int32) (msz : Nat → Int64) (mle : Nat → Int32) (mel : Nat → Int32) (mme : Nat → Int32) (mal : Nat → Int32) (mic : Nat → Int32) (mil : Nat → Int32) (mio : Nat → Int32) (mab : Nat → Int32) (mae : Nat → Int32) (msa : Nat → Int32) (mlc : Nat → Int32) (mli : Nat → Int32) (mna : Nat → Int32) (mva : Nat → Int32) (mma : Nat → Int32) (mch : Nat → Int32) (mre : Nat → Int32) (mlv : Nat → Int32) (mwr : Nat → Int64) (msh : Nat → Int32) (mth : Int32) (mnv : Int32) (mns : Int32) (mfa : Int32) (mmo : Int32) (k : Int32) (hK : va_K D vwCl (tyA cI cJ cZ) s) (hP : va_P D vwCl (wM b cI cJ cZ mki msz mle mel mme mal mic mil mio mab mae msa mlc mli mna mva mma mch mre mlv mwr msh mth mnv mns mfa mmo) H) (hD : va_D A (wM b cI cJ cZ mki msz mle mel mme mal mic mil mio mab mae msa mlc mli mna mva mma mch mre mlv mwr msh mth mnv mns mfa mmo)) (hA : ∀ q, s.heap.size ≤ q → A q) (hS : va_S A s.heap H locs) (hl : lv_has ls 2 [(0, .ref (b 0)), (1, .int k)]) {post : Int32 → (Nat → Int32) → (Nat → Int64) → (Nat → Int32) → (Nat → Int32) → (Nat → Int32) → (Nat → Int32) → (Nat → Int32) → (Nat → Int32) → (Nat → Int32) → (Nat → Int32) → (Nat → Int32) → (Nat → Int32) → (Nat → Int32) → (Nat → Int32) → (Nat → Int32) → (Nat → Int32) → (Nat → Int32) → (Nat → Int32) → (Nat → Int32) → (Nat → Int32) → (Nat → Int64) → (Nat → Int32) → Int32 → Int32 → Int32 → Int32 → Int32 → Prop} (vc : V_Mo_make mki msz mle mel mme mal mic mil mio mab mae msa mlc mli mna mva mma mch mre mlv mwr msh mth mnv mns mfa mmo k post)
    (hret : ∀ (v : Int32) (mki : Nat → Int32) (msz : Nat → Int64) (mle : Nat → Int32) (mel : Nat → Int32) (mme : Nat → Int32) (mal : Nat → Int32) (mic : Nat → Int32) (mil : Nat → Int32) (mio : Nat → Int32) (mab : Nat → Int32) (mae : Nat → Int32) (msa : Nat → Int32) (mlc : Nat → Int32) (mli : Nat → Int32) (mna : Nat → Int32) (mva : Nat → Int32) (mma : Nat → Int32) (mch : Nat → Int32) (mre : Nat → Int32) (mlv : Nat → Int32) (mwr : Nat → Int64) (msh : Nat → Int32) (mth : Int32) (mnv : Int32) (mns : Int32) (mfa : Int32) (mmo : Int32) (ls : Array Slot) (pc : Nat) (H : Heap) (locs : List Loc), decode b_Mo_make pc = .ok (.ireturn, 1) → post v mki msz mle mel mme mal mic mil mio mab mae msa mlc mli mna mva mma mch mre mlv mwr msh mth mnv mns mfa mmo → va_P D vwCl (wM b cI cJ cZ mki msz mle mel mme mal mic mil mio mab mae msa mlc mli mna mva mma mch mre mlv mwr msh mth mnv mns mfa mmo) H → va_D A (wM b cI cJ cZ mki msz mle mel mme mal mic mil mio mab mae msa mlc mli mna mva mma mch mre mlv mwr msh mth mnv mns mfa mmo) → va_S A s.heap H locs → W p l e R s m args below meth c H locs cells slots Q (F0 m pc ls [.int v])) : W p l e R s m args below meth c H locs cells slots Q (F0 m 0 ls []) := by
  have hx := S.1
  have hb := S.2.1
  have hown := S.2.2.2.1
  have hts := S.2.2.2.2
  unfold V_Mo_make at vc
  refine lv_aload_n hx hb d_Mo_make_0 rfl (lv_at hl 0 rfl) ?_
  refine lv_iload_n hx hb d_Mo_make_1 rfl (lv_at hl 1 rfl) ?_
  refine lv_if_eq (tgt := 19) hx hb d_Mo_make_2 (by decide) (fun h => ?_) (fun h => ?_)
  · have vc := vc.1 h
    refine lv_iconst (v := 0) hx hb d_Mo_make_19 (by decide) ?_
    refine va_put (D := D) (ci := 6) (v := .int 0) (ty := .int) (C := R_Mo) (T := F_Mo) (N := 27) hx hb hts in_Mo t_Mo t_Mo_ok n_Mo hown hK hP hD hS 0 rfl rfl 0 (by decide) (hts _ fl_Mo_78) (fun _ h => h) rfl (by decide +kernel) rfl rfl (Nat.le_of_ble_eq_true rfl) d_Mo_make_20 (fun H locs hP hD hS => ?_)
    have hP : va_P D vwCl (wM b cI cJ cZ mki msz mle mel mme mal mic mil mio mab mae msa mlc mli mna mva mma mch mre mlv mwr msh 0 mnv mns mfa mmo) H := hP
    have hD : va_D A (wM b cI cJ cZ mki msz mle mel mme mal mic mil mio mab mae msa mlc mli mna mva mma mch mre mlv mwr msh 0 mnv mns mfa mmo) := hD
    refine lv_aload_n hx hb d_Mo_make_23 rfl (lv_at hl 0 rfl) ?_
    refine va_get (D := D) (ci := 6) (v := .int 0) (C := R_Mo) (T := F_Mo) (N := 27) hx hb hts in_Mo hown hK hP 0 rfl rfl 0 (by decide) (hts _ fl_Mo_78) (fun _ h => h) rfl d_Mo_make_24 ?_
    refine lv_if_eq (tgt := 34) hx hb d_Mo_make_27 (by decide) (fun h => ?_) (fun h => ?_)
    · have vc := vc.1 h
      refine lv_aload_n hx hb d_Mo_make_34 rfl (lv_at hl 0 rfl) ?_
      refine lv_iload_n hx hb d_Mo_make_35 rfl (lv_at hl 1 rfl) ?_
      refine lv_lconst (v := 0) hx hb d_Mo_make_36 (by decide) ?_
      obtain ⟨hpre, vc⟩ := vc
      by_cases hv1 : mnv = 40
      · have vc := vc.1 hv1
        refine wc_V (As := [.int k, .long 0]) (rest := []) (wr := ([] : va_W)) S (c_Mo_made_1 l D b cI cJ cZ mki msz mle mel mme mal mic mil mio mab mae msa mlc mli mna mva mma mch mre mlv mwr msh 0 mnv mns mfa mmo k 0 hpre hv1) k_Mo_made i_Mo_made e_Mo_made o_Mo ml_Mo_89 hd_Mo_made (Nat.le_trans (by decide) hRf) (Nat.le_trans (by decide) hRl) hRc (va_recv hK hP (q0 := 0) (ci := 6) rfl rfl) hK hP hD hS hA [0, 1, 2, 3, 4, 5, 6, 7, 8, 9, 10, 11, 12, 13, 14, 15, 16, 17, 18, 19, 20, 21, 22] [] rfl rfl rfl (by decide) (by decide) (by decide) hl.1 rfl (Nat.le_of_ble_eq_true rfl) d_Mo_make_37 (fun _ H locs _ hP hD hS => ?_)
        have hP : va_P D vwCl (wM b cI cJ cZ mki msz mle mel mme mal mic mil mio mab mae msa mlc mli mna mva mma mch mre mlv mwr msh 2 mnv mns mfa mmo) H := hP
        have hD : va_D A (wM b cI cJ cZ mki msz mle mel mme mal mic mil mio mab mae msa mlc mli mna mva mma mch mre mlv mwr msh 2 mnv mns mfa mmo) := hD
        exact hret _ _ _ _ _ _ _ _ _ _ _ _ _ _ _ _ _ _ _ _ _ _ _ _ _ _ _ _ ls _ H locs d_Mo_make_40 vc hP hD hS
      · have vc := vc.2 hv1
        refine wc_V (As := [.int k, .long 0]) (rest := []) (wr := ([] : va_W)) S (c_Mo_made_2 l D b cI cJ cZ mki msz mle mel mme mal mic mil mio mab mae msa mlc mli mna mva mma mch mre mlv mwr msh 0 mnv mns mfa mmo k 0 hpre hv1) k_Mo_made i_Mo_made e_Mo_made o_Mo ml_Mo_89 hd_Mo_made (Nat.le_trans (by decide) hRf) (Nat.le_trans (by decide) hRl) hRc (va_recv hK hP (q0 := 0) (ci := 6) rfl rfl) hK hP hD hS hA [0, 1, 2, 3, 4, 5, 6, 7, 8, 9, 10, 11, 12, 13, 14, 15, 16, 17, 18, 19, 20, 21, 22] [] rfl rfl rfl (by decide) (by decide) (by decide) hl.1 rfl (Nat.le_of_ble_eq_true rfl) d_Mo_make_37 (fun _ H locs _ hP hD hS => ?_)
        have hP : va_P D vwCl (wM b cI cJ cZ (upd mki mnv.toNatClampNeg k) (vp_updL msz mnv.toNatClampNeg 0) mle mel mme mal mic mil mio mab mae msa mlc mli mna mva mma mch mre mlv mwr msh 0 (mnv + 1) mns mfa mmo) H := hP
        have hD : va_D A (wM b cI cJ cZ (upd mki mnv.toNatClampNeg k) (vp_updL msz mnv.toNatClampNeg 0) mle mel mme mal mic mil mio mab mae msa mlc mli mna mva mma mch mre mlv mwr msh 0 (mnv + 1) mns mfa mmo) := hD
        exact hret _ _ _ _ _ _ _ _ _ _ _ _ _ _ _ _ _ _ _ _ _ _ _ _ _ _ _ _ ls _ H locs d_Mo_make_40 vc hP hD hS
    · have vc := vc.2 h
      refine lv_iconst (v := 0) hx hb d_Mo_make_30 (by decide) ?_
      refine lv_goto (tgt := 40) hx hb d_Mo_make_31 (by decide) ?_
      exact hret _ _ _ _ _ _ _ _ _ _ _ _ _ _ _ _ _ _ _ _ _ _ _ _ _ _ _ _ ls _ H locs d_Mo_make_40 vc hP hD hS
  · have vc := vc.2 h
    refine lv_iload_n hx hb d_Mo_make_5 rfl (lv_at hl 1 rfl) ?_
    refine lv_iconst (v := 4) hx hb d_Mo_make_6 (by decide) ?_
    refine lv_icmp_eq (tgt := 19) hx hb d_Mo_make_7 (by decide) (fun h => ?_) (fun h => ?_)
    · have vc := vc.1 h
      refine lv_iconst (v := 0) hx hb d_Mo_make_19 (by decide) ?_
      refine va_put (D := D) (ci := 6) (v := .int 0) (ty := .int) (C := R_Mo) (T := F_Mo) (N := 27) hx hb hts in_Mo t_Mo t_Mo_ok n_Mo hown hK hP hD hS 0 rfl rfl 0 (by decide) (hts _ fl_Mo_78) (fun _ h => h) rfl (by decide +kernel) rfl rfl (Nat.le_of_ble_eq_true rfl) d_Mo_make_20 (fun H locs hP hD hS => ?_)
      have hP : va_P D vwCl (wM b cI cJ cZ mki msz mle mel mme mal mic mil mio mab mae msa mlc mli mna mva mma mch mre mlv mwr msh 0 mnv mns mfa mmo) H := hP
      have hD : va_D A (wM b cI cJ cZ mki msz mle mel mme mal mic mil mio mab mae msa mlc mli mna mva mma mch mre mlv mwr msh 0 mnv mns mfa mmo) := hD
      refine lv_aload_n hx hb d_Mo_make_23 rfl (lv_at hl 0 rfl) ?_
      refine va_get (D := D) (ci := 6) (v := .int 0) (C := R_Mo) (T := F_Mo) (N := 27) hx hb hts in_Mo hown hK hP 0 rfl rfl 0 (by decide) (hts _ fl_Mo_78) (fun _ h => h) rfl d_Mo_make_24 ?_
      refine lv_if_eq (tgt := 34) hx hb d_Mo_make_27 (by decide) (fun h => ?_) (fun h => ?_)
      · have vc := vc.1 h
        refine lv_aload_n hx hb d_Mo_make_34 rfl (lv_at hl 0 rfl) ?_
        refine lv_iload_n hx hb d_Mo_make_35 rfl (lv_at hl 1 rfl) ?_
        refine lv_lconst (v := 0) hx hb d_Mo_make_36 (by decide) ?_
        obtain ⟨hpre, vc⟩ := vc
        by_cases hv1 : mnv = 40
        · have vc := vc.1 hv1
          refine wc_V (As := [.int k, .long 0]) (rest := []) (wr := ([] : va_W)) S (c_Mo_made_1 l D b cI cJ cZ mki msz mle mel mme mal mic mil mio mab mae msa mlc mli mna mva mma mch mre mlv mwr msh 0 mnv mns mfa mmo k 0 hpre hv1) k_Mo_made i_Mo_made e_Mo_made o_Mo ml_Mo_89 hd_Mo_made (Nat.le_trans (by decide) hRf) (Nat.le_trans (by decide) hRl) hRc (va_recv hK hP (q0 := 0) (ci := 6) rfl rfl) hK hP hD hS hA [0, 1, 2, 3, 4, 5, 6, 7, 8, 9, 10, 11, 12, 13, 14, 15, 16, 17, 18, 19, 20, 21, 22] [] rfl rfl rfl (by decide) (by decide) (by decide) hl.1 rfl (Nat.le_of_ble_eq_true rfl) d_Mo_make_37 (fun _ H locs _ hP hD hS => ?_)
          have hP : va_P D vwCl (wM b cI cJ cZ mki msz mle mel mme mal mic mil mio mab mae msa mlc mli mna mva mma mch mre mlv mwr msh 2 mnv mns mfa mmo) H := hP
          have hD : va_D A (wM b cI cJ cZ mki msz mle mel mme mal mic mil mio mab mae msa mlc mli mna mva mma mch mre mlv mwr msh 2 mnv mns mfa mmo) := hD
          exact hret _ _ _ _ _ _ _ _ _ _ _ _ _ _ _ _ _ _ _ _ _ _ _ _ _ _ _ _ ls _ H locs d_Mo_make_40 vc hP hD hS
        · have vc := vc.2 hv1
          refine wc_V (As := [.int k, .long 0]) (rest := []) (wr := ([] : va_W)) S (c_Mo_made_2 l D b cI cJ cZ mki msz mle mel mme mal mic mil mio mab mae msa mlc mli mna mva mma mch mre mlv mwr msh 0 mnv mns mfa mmo k 0 hpre hv1) k_Mo_made i_Mo_made e_Mo_made o_Mo ml_Mo_89 hd_Mo_made (Nat.le_trans (by decide) hRf) (Nat.le_trans (by decide) hRl) hRc (va_recv hK hP (q0 := 0) (ci := 6) rfl rfl) hK hP hD hS hA [0, 1, 2, 3, 4, 5, 6, 7, 8, 9, 10, 11, 12, 13, 14, 15, 16, 17, 18, 19, 20, 21, 22] [] rfl rfl rfl (by decide) (by decide) (by decide) hl.1 rfl (Nat.le_of_ble_eq_true rfl) d_Mo_make_37 (fun _ H locs _ hP hD hS => ?_)
          have hP : va_P D vwCl (wM b cI cJ cZ (upd mki mnv.toNatClampNeg k) (vp_updL msz mnv.toNatClampNeg 0) mle mel mme mal mic mil mio mab mae msa mlc mli mna mva mma mch mre mlv mwr msh 0 (mnv + 1) mns mfa mmo) H := hP
          have hD : va_D A (wM b cI cJ cZ (upd mki mnv.toNatClampNeg k) (vp_updL msz mnv.toNatClampNeg 0) mle mel mme mal mic mil mio mab mae msa mlc mli mna mva mma mch mre mlv mwr msh 0 (mnv + 1) mns mfa mmo) := hD
          exact hret _ _ _ _ _ _ _ _ _ _ _ _ _ _ _ _ _ _ _ _ _ _ _ _ _ _ _ _ ls _ H locs d_Mo_make_40 vc hP hD hS
      · have vc := vc.2 h
        refine lv_iconst (v := 0) hx hb d_Mo_make_30 (by decide) ?_
        refine lv_goto (tgt := 40) hx hb d_Mo_make_31 (by decide) ?_
        exact hret _ _ _ _ _ _ _ _ _ _ _ _ _ _ _ _ _ _ _ _ _ _ _ _ _ _ _ _ ls _ H locs d_Mo_make_40 vc hP hD hS
    · have vc := vc.2 h
      refine lv_iload_n hx hb d_Mo_make_10 rfl (lv_at hl 1 rfl) ?_
      refine lv_iconst (v := 5) hx hb d_Mo_make_11 (by decide) ?_
      refine lv_icmp_eq (tgt := 19) hx hb d_Mo_make_12 (by decide) (fun h => ?_) (fun h => ?_)
      · have vc := vc.1 h
        refine lv_iconst (v := 0) hx hb d_Mo_make_19 (by decide) ?_
        refine va_put (D := D) (ci := 6) (v := .int 0) (ty := .int) (C := R_Mo) (T := F_Mo) (N := 27) hx hb hts in_Mo t_Mo t_Mo_ok n_Mo hown hK hP hD hS 0 rfl rfl 0 (by decide) (hts _ fl_Mo_78) (fun _ h => h) rfl (by decide +kernel) rfl rfl (Nat.le_of_ble_eq_true rfl) d_Mo_make_20 (fun H locs hP hD hS => ?_)
        have hP : va_P D vwCl (wM b cI cJ cZ mki msz mle mel mme mal mic mil mio mab mae msa mlc mli mna mva mma mch mre mlv mwr msh 0 mnv mns mfa mmo) H := hP
        have hD : va_D A (wM b cI cJ cZ mki msz mle mel mme mal mic mil mio mab mae msa mlc mli mna mva mma mch mre mlv mwr msh 0 mnv mns mfa mmo) := hD
        refine lv_aload_n hx hb d_Mo_make_23 rfl (lv_at hl 0 rfl) ?_
        refine va_get (D := D) (ci := 6) (v := .int 0) (C := R_Mo) (T := F_Mo) (N := 27) hx hb hts in_Mo hown hK hP 0 rfl rfl 0 (by decide) (hts _ fl_Mo_78) (fun _ h => h) rfl d_Mo_make_24 ?_
        refine lv_if_eq (tgt := 34) hx hb d_Mo_make_27 (by decide) (fun h => ?_) (fun h => ?_)
        · have vc := vc.1 h
          refine lv_aload_n hx hb d_Mo_make_34 rfl (lv_at hl 0 rfl) ?_
          refine lv_iload_n hx hb d_Mo_make_35 rfl (lv_at hl 1 rfl) ?_
          refine lv_lconst (v := 0) hx hb d_Mo_make_36 (by decide) ?_
          obtain ⟨hpre, vc⟩ := vc
          by_cases hv1 : mnv = 40
          · have vc := vc.1 hv1
            refine wc_V (As := [.int k, .long 0]) (rest := []) (wr := ([] : va_W)) S (c_Mo_made_1 l D b cI cJ cZ mki msz mle mel mme mal mic mil mio mab mae msa mlc mli mna mva mma mch mre mlv mwr msh 0 mnv mns mfa mmo k 0 hpre hv1) k_Mo_made i_Mo_made e_Mo_made o_Mo ml_Mo_89 hd_Mo_made (Nat.le_trans (by decide) hRf) (Nat.le_trans (by decide) hRl) hRc (va_recv hK hP (q0 := 0) (ci := 6) rfl rfl) hK hP hD hS hA [0, 1, 2, 3, 4, 5, 6, 7, 8, 9, 10, 11, 12, 13, 14, 15, 16, 17, 18, 19, 20, 21, 22] [] rfl rfl rfl (by decide) (by decide) (by decide) hl.1 rfl (Nat.le_of_ble_eq_true rfl) d_Mo_make_37 (fun _ H locs _ hP hD hS => ?_)
            have hP : va_P D vwCl (wM b cI cJ cZ mki msz mle mel mme mal mic mil mio mab mae msa mlc mli mna mva mma mch mre mlv mwr msh 2 mnv mns mfa mmo) H := hP
            have hD : va_D A (wM b cI cJ cZ mki msz mle mel mme mal mic mil mio mab mae msa mlc mli mna mva mma mch mre mlv mwr msh 2 mnv mns mfa mmo) := hD
            exact hret _ _ _ _ _ _ _ _ _ _ _ _ _ _ _ _ _ _ _ _ _ _ _ _ _ _ _ _ ls _ H locs d_Mo_make_40 vc hP hD hS
          · have vc := vc.2 hv1
            refine wc_V (As := [.int k, .long 0]) (rest := []) (wr := ([] : va_W)) S (c_Mo_made_2 l D b cI cJ cZ mki msz mle mel mme mal mic mil mio mab mae msa mlc mli mna mva mma mch mre mlv mwr msh 0 mnv mns mfa mmo k 0 hpre hv1) k_Mo_made i_Mo_made e_Mo_made o_Mo ml_Mo_89 hd_Mo_made (Nat.le_trans (by decide) hRf) (Nat.le_trans (by decide) hRl) hRc (va_recv hK hP (q0 := 0) (ci := 6) rfl rfl) hK hP hD hS hA [0, 1, 2, 3, 4, 5, 6, 7, 8, 9, 10, 11, 12, 13, 14, 15, 16, 17, 18, 19, 20, 21, 22] [] rfl rfl rfl (by decide) (by decide) (by decide) hl.1 rfl (Nat.le_of_ble_eq_true rfl) d_Mo_make_37 (fun _ H locs _ hP hD hS => ?_)
            have hP : va_P D vwCl (wM b cI cJ cZ (upd mki mnv.toNatClampNeg k) (vp_updL msz mnv.toNatClampNeg 0) mle mel mme mal mic mil mio mab mae msa mlc mli mna mva mma mch mre mlv mwr msh 0 (mnv + 1) mns mfa mmo) H := hP
            have hD : va_D A (wM b cI cJ cZ (upd mki mnv.toNatClampNeg k) (vp_updL msz mnv.toNatClampNeg 0) mle mel mme mal mic mil mio mab mae msa mlc mli mna mva mma mch mre mlv mwr msh 0 (mnv + 1) mns mfa mmo) := hD
            exact hret _ _ _ _ _ _ _ _ _ _ _ _ _ _ _ _ _ _ _ _ _ _ _ _ _ _ _ _ ls _ H locs d_Mo_make_40 vc hP hD hS
        · have vc := vc.2 h
          refine lv_iconst (v := 0) hx hb d_Mo_make_30 (by decide) ?_
          refine lv_goto (tgt := 40) hx hb d_Mo_make_31 (by decide) ?_
          exact hret _ _ _ _ _ _ _ _ _ _ _ _ _ _ _ _ _ _ _ _ _ _ _ _ _ _ _ _ ls _ H locs d_Mo_make_40 vc hP hD hS
      · have vc := vc.2 h
        refine lv_iconst (v := 1) hx hb d_Mo_make_15 (by decide) ?_
        refine lv_goto (tgt := 20) hx hb d_Mo_make_16 (by decide) ?_
        refine va_put (D := D) (ci := 6) (v := .int 1) (ty := .int) (C := R_Mo) (T := F_Mo) (N := 27) hx hb hts in_Mo t_Mo t_Mo_ok n_Mo hown hK hP hD hS 0 rfl rfl 0 (by decide) (hts _ fl_Mo_78) (fun _ h => h) rfl (by decide +kernel) rfl rfl (Nat.le_of_ble_eq_true rfl) d_Mo_make_20 (fun H locs hP hD hS => ?_)
        have hP : va_P D vwCl (wM b cI cJ cZ mki msz mle mel mme mal mic mil mio mab mae msa mlc mli mna mva mma mch mre mlv mwr msh 1 mnv mns mfa mmo) H := hP
        have hD : va_D A (wM b cI cJ cZ mki msz mle mel mme mal mic mil mio mab mae msa mlc mli mna mva mma mch mre mlv mwr msh 1 mnv mns mfa mmo) := hD
        refine lv_aload_n hx hb d_Mo_make_23 rfl (lv_at hl 0 rfl) ?_
        refine va_get (D := D) (ci := 6) (v := .int 1) (C := R_Mo) (T := F_Mo) (N := 27) hx hb hts in_Mo hown hK hP 0 rfl rfl 0 (by decide) (hts _ fl_Mo_78) (fun _ h => h) rfl d_Mo_make_24 ?_
        refine lv_if_eq (tgt := 34) hx hb d_Mo_make_27 (by decide) (fun h => ?_) (fun h => ?_)
        · have vc := vc.1 h
          refine lv_aload_n hx hb d_Mo_make_34 rfl (lv_at hl 0 rfl) ?_
          refine lv_iload_n hx hb d_Mo_make_35 rfl (lv_at hl 1 rfl) ?_
          refine lv_lconst (v := 0) hx hb d_Mo_make_36 (by decide) ?_
          obtain ⟨hpre, vc⟩ := vc
          by_cases hv1 : mnv = 40
          · have vc := vc.1 hv1
            refine wc_V (As := [.int k, .long 0]) (rest := []) (wr := ([] : va_W)) S (c_Mo_made_1 l D b cI cJ cZ mki msz mle mel mme mal mic mil mio mab mae msa mlc mli mna mva mma mch mre mlv mwr msh 1 mnv mns mfa mmo k 0 hpre hv1) k_Mo_made i_Mo_made e_Mo_made o_Mo ml_Mo_89 hd_Mo_made (Nat.le_trans (by decide) hRf) (Nat.le_trans (by decide) hRl) hRc (va_recv hK hP (q0 := 0) (ci := 6) rfl rfl) hK hP hD hS hA [0, 1, 2, 3, 4, 5, 6, 7, 8, 9, 10, 11, 12, 13, 14, 15, 16, 17, 18, 19, 20, 21, 22] [] rfl rfl rfl (by decide) (by decide) (by decide) hl.1 rfl (Nat.le_of_ble_eq_true rfl) d_Mo_make_37 (fun _ H locs _ hP hD hS => ?_)
            have hP : va_P D vwCl (wM b cI cJ cZ mki msz mle mel mme mal mic mil mio mab mae msa mlc mli mna mva mma mch mre mlv mwr msh 2 mnv mns mfa mmo) H := hP
            have hD : va_D A (wM b cI cJ cZ mki msz mle mel mme mal mic mil mio mab mae msa mlc mli mna mva mma mch mre mlv mwr msh 2 mnv mns mfa mmo) := hD
            exact hret _ _ _ _ _ _ _ _ _ _ _ _ _ _ _ _ _ _ _ _ _ _ _ _ _ _ _ _ ls _ H locs d_Mo_make_40 vc hP hD hS
          · have vc := vc.2 hv1
            refine wc_V (As := [.int k, .long 0]) (rest := []) (wr := ([] : va_W)) S (c_Mo_made_2 l D b cI cJ cZ mki msz mle mel mme mal mic mil mio mab mae msa mlc mli mna mva mma mch mre mlv mwr msh 1 mnv mns mfa mmo k 0 hpre hv1) k_Mo_made i_Mo_made e_Mo_made o_Mo ml_Mo_89 hd_Mo_made (Nat.le_trans (by decide) hRf) (Nat.le_trans (by decide) hRl) hRc (va_recv hK hP (q0 := 0) (ci := 6) rfl rfl) hK hP hD hS hA [0, 1, 2, 3, 4, 5, 6, 7, 8, 9, 10, 11, 12, 13, 14, 15, 16, 17, 18, 19, 20, 21, 22] [] rfl rfl rfl (by decide) (by decide) (by decide) hl.1 rfl (Nat.le_of_ble_eq_true rfl) d_Mo_make_37 (fun _ H locs _ hP hD hS => ?_)
            have hP : va_P D vwCl (wM b cI cJ cZ (upd mki mnv.toNatClampNeg k) (vp_updL msz mnv.toNatClampNeg 0) mle mel mme mal mic mil mio mab mae msa mlc mli mna mva mma mch mre mlv mwr msh 0 (mnv + 1) mns mfa mmo) H := hP
            have hD : va_D A (wM b cI cJ cZ (upd mki mnv.toNatClampNeg k) (vp_updL msz mnv.toNatClampNeg 0) mle mel mme mal mic mil mio mab mae msa mlc mli mna mva mma mch mre mlv mwr msh 0 (mnv + 1) mns mfa mmo) := hD
            exact hret _ _ _ _ _ _ _ _ _ _ _ _ _ _ _ _ _ _ _ _ _ _ _ _ _ _ _ _ ls _ H locs d_Mo_make_40 vc hP hD hS
        · have vc := vc.2 h
          refine lv_iconst (v := 0) hx hb d_Mo_make_30 (by decide) ?_
          refine lv_goto (tgt := 40) hx hb d_Mo_make_31 (by decide) ?_
          exact hret _ _ _ _ _ _ _ _ _ _ _ _ _ _ _ _ _ _ _ _ _ _ _ _ _ _ _ _ ls _ H locs d_Mo_make_40 vc hP hD hS
theorem h_Mo_make (l : Launch) (D : va_G) (b : Nat → Nat) (cI cJ cZ : ClassId) (mki : Nat → Int32) (msz : Nat → Int64) (mle : Nat → Int32) (mel : Nat → Int32) (mme : Nat → Int32) (mal : Nat → Int32) (mic : Nat → Int32) (mil : Nat → Int32) (mio : Nat → Int32) (mab : Nat → Int32) (mae : Nat → Int32) (msa : Nat → Int32) (mlc : Nat → Int32) (mli : Nat → Int32) (mna : Nat → Int32) (mva : Nat → Int32) (mma : Nat → Int32) (mch : Nat → Int32) (mre : Nat → Int32) (mlv : Nat → Int32) (mwr : Nat → Int64) (msh : Nat → Int32) (mth : Int32) (mnv : Int32) (mns : Int32) (mfa : Int32) (mmo : Int32) (k : Int32) (r : Int32) (mki' : Nat → Int32) (msz' : Nat → Int64) (mle' : Nat → Int32) (mel' : Nat → Int32) (mme' : Nat → Int32) (mal' : Nat → Int32) (mic' : Nat → Int32) (mil' : Nat → Int32) (mio' : Nat → Int32) (mab' : Nat → Int32) (mae' : Nat → Int32) (msa' : Nat → Int32) (mlc' : Nat → Int32) (mli' : Nat → Int32) (mna' : Nat → Int32) (mva' : Nat → Int32) (mma' : Nat → Int32) (mch' : Nat → Int32) (mre' : Nat → Int32) (mlv' : Nat → Int32) (mwr' : Nat → Int64) (msh' : Nat → Int32) (mth' : Int32) (mnv' : Int32) (mns' : Int32) (mfa' : Int32) (mmo' : Int32) (vc : V_Mo_make mki msz mle mel mme mal mic mil mio mab mae msa mlc mli mna mva mma mch mre mlv mwr msh mth mnv mns mfa mmo k (fun v mki msz mle mel mme mal mic mil mio mab mae msa mlc mli mna mva mma mch mre mlv mwr msh mth mnv mns mfa mmo => v = r ∧ mki = mki' ∧ msz = msz' ∧ mle = mle' ∧ mel = mel' ∧ mme = mme' ∧ mal = mal' ∧ mic = mic' ∧ mil = mil' ∧ mio = mio' ∧ mab = mab' ∧ mae = mae' ∧ msa = msa' ∧ mlc = mlc' ∧ mli = mli' ∧ mna = mna' ∧ mva = mva' ∧ mma = mma' ∧ mch = mch' ∧ mre = mre' ∧ mlv = mlv' ∧ mwr = mwr' ∧ msh = msh' ∧ mth = mth' ∧ mnv = mnv' ∧ mns = mns' ∧ mfa = mfa' ∧ mmo = mmo')) : Wm (S := Unit) l y_Mo_make b_Mo_make 2 (some .int) 2 47 [.ref (b 0), .int k] D (tyA cI cJ cZ) (wM b cI cJ cZ mki msz mle mel mme mal mic mil mio mab mae msa mlc mli mna mva mma mch mre mlv mwr msh mth mnv mns mfa mmo) (fun _ => True) (fun _ => some (.int r)) (fun _ => (wM b cI cJ cZ mki' msz' mle' mel' mme' mal' mic' mil' mio' mab' mae' msa' mlc' mli' mna' mva' mma' mch' mre' mlv' mwr' msh' mth' mnv' mns' mfa' mmo')) :=
  wm_i (by decide) (fun _ _ => rfl) (Nat.le_of_ble_eq_true rfl) (fun p e s m below meth c ls Q A S hK hP hD hA hS hl hret => g_Mo_make S (Nat.le_refl _) (Nat.le_refl _) ⟨Nat.le_refl _, Nat.le_refl _⟩ D b cI cJ cZ mki msz mle mel mme mal mic mil mio mab mae msa mlc mli mna mva mma mch mre mlv mwr msh mth mnv mns mfa mmo k hK hP hD hA hS hl vc (fun v mki msz mle mel mme mal mic mil mio mab mae msa mlc mli mna mva mma mch mre mlv mwr msh mth mnv mns mfa mmo ls pc H locs hd hv hP hD hS => by obtain ⟨rfl, rfl, rfl, rfl, rfl, rfl, rfl, rfl, rfl, rfl, rfl, rfl, rfl, rfl, rfl, rfl, rfl, rfl, rfl, rfl, rfl, rfl, rfl, rfl, rfl, rfl, rfl, rfl⟩ := hv; exact hret () _ ls pc H locs hd trivial rfl hP hD hS))
theorem c_Mo_make_1 (l : Launch) (D : va_G) (b : Nat → Nat) (cI cJ cZ : ClassId) (mki : Nat → Int32) (msz : Nat → Int64) (mle : Nat → Int32) (mel : Nat → Int32) (mme : Nat → Int32) (mal : Nat → Int32) (mic : Nat → Int32) (mil : Nat → Int32) (mio : Nat → Int32) (mab : Nat → Int32) (mae : Nat → Int32) (msa : Nat → Int32) (mlc : Nat → Int32) (mli : Nat → Int32) (mna : Nat → Int32) (mva : Nat → Int32) (mma : Nat → Int32) (mch : Nat → Int32) (mre : Nat → Int32) (mlv : Nat → Int32) (mwr : Nat → Int64) (msh : Nat → Int32) (mth : Int32) (mnv : Int32) (mns : Int32) (mfa : Int32) (mmo : Int32) (k : Int32) (hpre : (¬ mnv < 0 ∧ mnv ≤ 40)) (hv1 : ¬ (k = 0 ∨ k = 4 ∨ k = 5)) : Wm (S := Unit) l y_Mo_make b_Mo_make 2 (some .int) 2 47 [.ref (b 0), .int k] D (tyA cI cJ cZ) (wM b cI cJ cZ mki msz mle mel mme mal mic mil mio mab mae msa mlc mli mna mva mma mch mre mlv mwr msh mth mnv mns mfa mmo) (fun _ => True) (fun _ => some (.int 0)) (fun _ => (wM b cI cJ cZ mki msz mle mel mme mal mic mil mio mab mae msa mlc mli mna mva mma mch mre mlv mwr msh 1 mnv mns mfa mmo)) := h_Mo_make l D b cI cJ cZ mki msz mle mel mme mal mic mil mio mab mae msa mlc mli mna mva mma mch mre mlv mwr msh mth mnv mns mfa mmo k 0 mki msz mle mel mme mal mic mil mio mab mae msa mlc mli mna mva mma mch mre mlv mwr msh 1 mnv mns mfa mmo (by
  unfold V_Mo_make
  repeat' (first | apply br_c | apply br_d | apply pre_and hpre | intro _)
  all_goals (first | (simp_all [add_sub1, bI]; done) | skip))
theorem c_Mo_make_2 (l : Launch) (D : va_G) (b : Nat → Nat) (cI cJ cZ : ClassId) (mki : Nat → Int32) (msz : Nat → Int64) (mle : Nat → Int32) (mel : Nat → Int32) (mme : Nat → Int32) (mal : Nat → Int32) (mic : Nat → Int32) (mil : Nat → Int32) (mio : Nat → Int32) (mab : Nat → Int32) (mae : Nat → Int32) (msa : Nat → Int32) (mlc : Nat → Int32) (mli : Nat → Int32) (mna : Nat → Int32) (mva : Nat → Int32) (mma : Nat → Int32) (mch : Nat → Int32) (mre : Nat → Int32) (mlv : Nat → Int32) (mwr : Nat → Int64) (msh : Nat → Int32) (mth : Int32) (mnv : Int32) (mns : Int32) (mfa : Int32) (mmo : Int32) (k : Int32) (hpre : (¬ mnv < 0 ∧ mnv ≤ 40)) (hv1 : ¬ (¬ (k = 0 ∨ k = 4 ∨ k = 5))) (hv2 : mnv = 40) : Wm (S := Unit) l y_Mo_make b_Mo_make 2 (some .int) 2 47 [.ref (b 0), .int k] D (tyA cI cJ cZ) (wM b cI cJ cZ mki msz mle mel mme mal mic mil mio mab mae msa mlc mli mna mva mma mch mre mlv mwr msh mth mnv mns mfa mmo) (fun _ => True) (fun _ => some (.int 0)) (fun _ => (wM b cI cJ cZ mki msz mle mel mme mal mic mil mio mab mae msa mlc mli mna mva mma mch mre mlv mwr msh 2 mnv mns mfa mmo)) := h_Mo_make l D b cI cJ cZ mki msz mle mel mme mal mic mil mio mab mae msa mlc mli mna mva mma mch mre mlv mwr msh mth mnv mns mfa mmo k 0 mki msz mle mel mme mal mic mil mio mab mae msa mlc mli mna mva mma mch mre mlv mwr msh 2 mnv mns mfa mmo (by
  unfold V_Mo_make
  repeat' (first | apply br_c | apply br_d | apply pre_and hpre | intro _)
  all_goals (first | (simp_all [add_sub1, bI]; done) | skip))
theorem c_Mo_make_3 (l : Launch) (D : va_G) (b : Nat → Nat) (cI cJ cZ : ClassId) (mki : Nat → Int32) (msz : Nat → Int64) (mle : Nat → Int32) (mel : Nat → Int32) (mme : Nat → Int32) (mal : Nat → Int32) (mic : Nat → Int32) (mil : Nat → Int32) (mio : Nat → Int32) (mab : Nat → Int32) (mae : Nat → Int32) (msa : Nat → Int32) (mlc : Nat → Int32) (mli : Nat → Int32) (mna : Nat → Int32) (mva : Nat → Int32) (mma : Nat → Int32) (mch : Nat → Int32) (mre : Nat → Int32) (mlv : Nat → Int32) (mwr : Nat → Int64) (msh : Nat → Int32) (mth : Int32) (mnv : Int32) (mns : Int32) (mfa : Int32) (mmo : Int32) (k : Int32) (hpre : (¬ mnv < 0 ∧ mnv ≤ 40)) (hv1 : ¬ (¬ (k = 0 ∨ k = 4 ∨ k = 5))) (hv2 : ¬ (mnv = 40)) : Wm (S := Unit) l y_Mo_make b_Mo_make 2 (some .int) 2 47 [.ref (b 0), .int k] D (tyA cI cJ cZ) (wM b cI cJ cZ mki msz mle mel mme mal mic mil mio mab mae msa mlc mli mna mva mma mch mre mlv mwr msh mth mnv mns mfa mmo) (fun _ => True) (fun _ => some (.int (mnv + 1 - 1))) (fun _ => (wM b cI cJ cZ (upd mki mnv.toNatClampNeg k) (vp_updL msz mnv.toNatClampNeg 0) mle mel mme mal mic mil mio mab mae msa mlc mli mna mva mma mch mre mlv mwr msh 0 (mnv + 1) mns mfa mmo)) := h_Mo_make l D b cI cJ cZ mki msz mle mel mme mal mic mil mio mab mae msa mlc mli mna mva mma mch mre mlv mwr msh mth mnv mns mfa mmo k (mnv + 1 - 1) (upd mki mnv.toNatClampNeg k) (vp_updL msz mnv.toNatClampNeg 0) mle mel mme mal mic mil mio mab mae msa mlc mli mna mva mma mch mre mlv mwr msh 0 (mnv + 1) mns mfa mmo (by
  unfold V_Mo_make
  repeat' (first | apply br_c | apply br_d | apply pre_and hpre | intro _)
  all_goals (first | (simp_all [add_sub1, bI]; done) | skip))
theorem hd_Mo_make : y_Mo_make.cls ≠ "java/lang/invoke/MethodHandle" ∧ y_Mo_make.cls ≠ "java/lang/invoke/VarHandle" ∧ (parseMethodDescriptor y_Mo_make.desc).map (fun d => d.parameters.length) = some 1 := ⟨by decide, by decide, by decide +kernel⟩
def V_Mo_truth (mki : Nat → Int32) (msz : Nat → Int64) (mle : Nat → Int32) (mel : Nat → Int32) (mme : Nat → Int32) (mal : Nat → Int32) (mic : Nat → Int32) (mil : Nat → Int32) (mio : Nat → Int32) (mab : Nat → Int32) (mae : Nat → Int32) (msa : Nat → Int32) (mlc : Nat → Int32) (mli : Nat → Int32) (mna : Nat → Int32) (mva : Nat → Int32) (mma : Nat → Int32) (mch : Nat → Int32) (mre : Nat → Int32) (mlv : Nat → Int32) (mwr : Nat → Int64) (msh : Nat → Int32) (mth : Int32) (mnv : Int32) (mns : Int32) (mfa : Int32) (mmo : Int32) (x : Int32) (post : Int32 → (Nat → Int32) → (Nat → Int64) → (Nat → Int32) → (Nat → Int32) → (Nat → Int32) → (Nat → Int32) → (Nat → Int32) → (Nat → Int32) → (Nat → Int32) → (Nat → Int32) → (Nat → Int32) → (Nat → Int32) → (Nat → Int32) → (Nat → Int32) → (Nat → Int32) → (Nat → Int32) → (Nat → Int32) → (Nat → Int32) → (Nat → Int32) → (Nat → Int32) → (Nat → Int64) → (Nat → Int32) → Int32 → Int32 → Int32 → Int32 → Int32 → Prop) : Prop :=
  ((x = 0 → ((¬ mnv < 0 ∧ mnv ≤ 40) ∧ ((mnv = 40 → ((0 ≤ ((-1) : Int32) → ((0 ≤ ((-1) : Int32) → post (-1) mki msz mle mel mme mal mic mil mio mab mae msa mlc mli mna mva mma mch mre mlv mwr msh 0 mnv mns mfa mmo) ∧ (¬ 0 ≤ ((-1) : Int32) → post 0 mki msz mle mel mme mal mic mil mio mab mae msa mlc mli mna mva mma mch mre mlv mwr msh 0 mnv mns mfa mmo))) ∧ (¬ 0 ≤ ((-1) : Int32) → ((0 ≤ ((-1) : Int32) → post (-1) mki msz mle mel mme mal mic mil mio mab mae msa mlc mli mna mva mma mch mre mlv mwr msh 1 mnv mns mfa mmo) ∧ (¬ 0 ≤ ((-1) : Int32) → post 0 mki msz mle mel mme mal mic mil mio mab mae msa mlc mli mna mva mma mch mre mlv mwr msh 1 mnv mns mfa mmo))))) ∧ (¬ (mnv = 40) → ((0 ≤ (mnv + 1 - 1) → ((0 ≤ (mnv + 1 - 1) → post (mnv + 1 - 1) (upd mki mnv.toNatClampNeg 1) (vp_updL msz mnv.toNatClampNeg 0) mle mel mme mal mic mil mio mab mae msa mlc mli mna mva mma mch mre mlv mwr msh 0 (mnv + 1) mns mfa mmo) ∧ (¬ 0 ≤ (mnv + 1 - 1) → post 0 (upd mki mnv.toNatClampNeg 1) (vp_updL msz mnv.toNatClampNeg 0) mle mel mme mal mic mil mio mab mae msa mlc mli mna mva mma mch mre mlv mwr msh 0 (mnv + 1) mns mfa mmo))) ∧ (¬ 0 ≤ (mnv + 1 - 1) → ((0 ≤ (mnv + 1 - 1) → post (mnv + 1 - 1) (upd mki mnv.toNatClampNeg 1) (vp_updL msz mnv.toNatClampNeg 0) mle mel mme mal mic mil mio mab mae msa mlc mli mna mva mma mch mre mlv mwr msh 1 (mnv + 1) mns mfa mmo) ∧ (¬ 0 ≤ (mnv + 1 - 1) → post 0 (upd mki mnv.toNatClampNeg 1) (vp_updL msz mnv.toNatClampNeg 0) mle mel mme mal mic mil mio mab mae msa mlc mli mna mva mma mch mre mlv mwr msh 1 (mnv + 1) mns mfa mmo)))))))) ∧ (¬ x = 0 → ((¬ mnv < 0 ∧ mnv ≤ 40) ∧ ((mnv = 40 → ((0 ≤ ((-1) : Int32) → ((0 ≤ ((-1) : Int32) → post (-1) mki msz mle mel mme mal mic mil mio mab mae msa mlc mli mna mva mma mch mre mlv mwr msh 0 mnv mns mfa mmo) ∧ (¬ 0 ≤ ((-1) : Int32) → post 0 mki msz mle mel mme mal mic mil mio mab mae msa mlc mli mna mva mma mch mre mlv mwr msh 0 mnv mns mfa mmo))) ∧ (¬ 0 ≤ ((-1) : Int32) → ((0 ≤ ((-1) : Int32) → post (-1) mki msz mle mel mme mal mic mil mio mab mae msa mlc mli mna mva mma mch mre mlv mwr msh 1 mnv mns mfa mmo) ∧ (¬ 0 ≤ ((-1) : Int32) → post 0 mki msz mle mel mme mal mic mil mio mab mae msa mlc mli mna mva mma mch mre mlv mwr msh 1 mnv mns mfa mmo))))) ∧ (¬ (mnv = 40) → ((0 ≤ (mnv + 1 - 1) → ((0 ≤ (mnv + 1 - 1) → post (mnv + 1 - 1) (upd mki mnv.toNatClampNeg 1) (vp_updL msz mnv.toNatClampNeg 1) mle mel mme mal mic mil mio mab mae msa mlc mli mna mva mma mch mre mlv mwr msh 0 (mnv + 1) mns mfa mmo) ∧ (¬ 0 ≤ (mnv + 1 - 1) → post 0 (upd mki mnv.toNatClampNeg 1) (vp_updL msz mnv.toNatClampNeg 1) mle mel mme mal mic mil mio mab mae msa mlc mli mna mva mma mch mre mlv mwr msh 0 (mnv + 1) mns mfa mmo))) ∧ (¬ 0 ≤ (mnv + 1 - 1) → ((0 ≤ (mnv + 1 - 1) → post (mnv + 1 - 1) (upd mki mnv.toNatClampNeg 1) (vp_updL msz mnv.toNatClampNeg 1) mle mel mme mal mic mil mio mab mae msa mlc mli mna mva mma mch mre mlv mwr msh 1 (mnv + 1) mns mfa mmo) ∧ (¬ 0 ≤ (mnv + 1 - 1) → post 0 (upd mki mnv.toNatClampNeg 1) (vp_updL msz mnv.toNatClampNeg 1) mle mel mme mal mic mil mio mab mae msa mlc mli mna mva mma mch mre mlv mwr msh 1 (mnv + 1) mns mfa mmo)))))))))
set_option maxHeartbeats 4000000 in
set_option maxRecDepth 100000 in
theorem g_Mo_truth {p : Program} {l : Launch} {e : Env} {R : Room} {s : State} {m : MethodId} {args : Array Value} {below : List Frame} {meth : Method} {c : Code} {H : Heap} {locs : List Loc} {cells slots : Nat} {Q : State → Prop} {ls : Array Slot} {A : Nat → Prop} (S : CallFix p m c b_Mo_truth 3 s args W0 R_Mo) (hRf : 1 ≤ R.frames) (hRl : 23 ≤ R.locals) (hRc : cells ≤ R.cells ∧ slots ≤ R.slots) (D : va_G) (b : Nat → Nat) (cI cJ cZ : ClassId) (mki : Nat → Int32) (msz : Nat → Int64) (mle : Nat → Int32) (mel : Nat → Int32) (mme : Nat → Int32) (mal : Nat → Int32) (mic : Nat → Int32) (mil : Nat → Int32) (mio : Nat → Int32) (mab : Nat → Int32) (mae : Nat → Int32) (msa : Nat → Int32) (mlc : Nat → Int32) (mli : Nat → Int32) (mna : Nat → Int32) (mva : Nat → Int32) (mma : Nat → Int32) (mch : Nat → Int32) (mre : Nat → Int32) (mlv : Nat → Int32) (mwr : Nat → Int64) (msh : Nat → Int32) (mth : Int32) (mnv : Int32) (mns : Int32) (mfa : Int32) (mmo : Int32) (x : Int32) (hK : va_K D vwCl (tyA cI cJ cZ) s) (hP : va_P D vwCl (wM b cI cJ cZ mki msz mle mel mme mal mic mil mio mab mae msa mlc mli mna mva mma mch mre mlv mwr msh mth mnv mns mfa mmo) H) (hD : va_D A (wM b cI cJ cZ mki msz mle mel mme mal mic mil mio mab mae msa mlc mli mna mva mma mch mre mlv mwr msh mth mnv mns mfa mmo)) (hA : ∀ q, s.heap.size ≤ q → A q) (hS : va_S A s.heap H locs) (hl : lv_has ls 3 [(0, .ref (b 0)), (1, .int x)]) {post : Int32 → (Nat → Int32) → (Nat → Int64) → (Nat → Int32) → (Nat → Int32) → (Nat → Int32) → (Nat → Int32) → (Nat → Int32) → (Nat → Int32) → (Nat → Int32) → (Nat → Int32) → (Nat → Int32) → (Nat → Int32) → (Nat → Int32) → (Nat → Int32) → (Nat → Int32) → (Nat → Int32) → (Nat → Int32) → (Nat → Int32) → (Nat → Int32) → (Nat → Int32) → (Nat → Int64) → (Nat → Int32) → Int32 → Int32 → Int32 → Int32 → Int32 → Prop} (vc : V_Mo_truth mki msz mle mel mme mal mic mil mio mab mae msa mlc mli mna mva mma mch mre mlv mwr msh mth mnv mns mfa mmo x post)
    (hret : ∀ (v : Int32) (mki : Nat → Int32) (msz : Nat → Int64) (mle : Nat → Int32) (mel : Nat → Int32) (mme : Nat → Int32) (mal : Nat → Int32) (mic : Nat → Int32) (mil : Nat → Int32) (mio : Nat → Int32) (mab : Nat → Int32) (mae : Nat → Int32) (msa : Nat → Int32) (mlc : Nat → Int32) (mli : Nat → Int32) (mna : Nat → Int32) (mva : Nat → Int32) (mma : Nat → Int32) (mch : Nat → Int32) (mre : Nat → Int32) (mlv : Nat → Int32) (mwr : Nat → Int64) (msh : Nat → Int32) (mth : Int32) (mnv : Int32) (mns : Int32) (mfa : Int32) (mmo : Int32) (ls : Array Slot) (pc : Nat) (H : Heap) (locs : List Loc), decode b_Mo_truth pc = .ok (.ireturn, 1) → post v mki msz mle mel mme mal mic mil mio mab mae msa mlc mli mna mva mma mch mre mlv mwr msh mth mnv mns mfa mmo → va_P D vwCl (wM b cI cJ cZ mki msz mle mel mme mal mic mil mio mab mae msa mlc mli mna mva mma mch mre mlv mwr msh mth mnv mns mfa mmo) H → va_D A (wM b cI cJ cZ mki msz mle mel mme mal mic mil mio mab mae msa mlc mli mna mva mma mch mre mlv mwr msh mth mnv mns mfa mmo) → va_S A s.heap H locs → W p l e R s m args below meth c H locs cells slots Q (F0 m pc ls [.int v])) : W p l e R s m args below meth c H locs cells slots Q (F0 m 0 ls []) := by
  have hx := S.1
  have hb := S.2.1
  have hown := S.2.2.2.1
  have hts := S.2.2.2.2
  unfold V_Mo_truth at vc
  refine lv_aload_n hx hb d_Mo_truth_0 rfl (lv_at hl 0 rfl) ?_
  refine lv_iconst (v := 1) hx hb d_Mo_truth_1 (by decide) ?_
  refine lv_iload_n hx hb d_Mo_truth_2 rfl (lv_at hl 1 rfl) ?_
  refine lv_if_eq (tgt := 10) hx hb d_Mo_truth_3 (by decide) (fun h => ?_) (fun h => ?_)
  · have vc := vc.1 h
    refine lv_lconst (v := 0) hx hb d_Mo_truth_10 (by decide) ?_
    obtain ⟨hpre, vc⟩ := vc
    by_cases hv1 : mnv = 40
    · have vc := vc.1 hv1
      refine wc_V (As := [.int 1, .long 0]) (rest := []) (wr := ([] : va_W)) S (c_Mo_add_1 l D b cI cJ cZ mki msz mle mel mme mal mic mil mio mab mae msa mlc mli mna mva mma mch mre mlv mwr msh mth mnv mns mfa mmo 1 0 hpre hv1) k_Mo_add i_Mo_add e_Mo_add o_Mo ml_Mo_85 hd_Mo_add (Nat.le_trans (by decide) hRf) (Nat.le_trans (by decide) hRl) hRc (va_recv hK hP (q0 := 0) (ci := 6) rfl rfl) hK hP hD hS hA [0, 1, 2, 3, 4, 5, 6, 7, 8, 9, 10, 11, 12, 13, 14, 15, 16, 17, 18, 19, 20, 21, 22] [] rfl rfl rfl (by decide) (by decide) (by decide) hl.1 rfl (Nat.le_of_ble_eq_true rfl) d_Mo_truth_11 (fun _ H locs _ hP hD hS => ?_)
      have hP : va_P D vwCl (wM b cI cJ cZ mki msz mle mel mme mal mic mil mio mab mae msa mlc mli mna mva mma mch mre mlv mwr msh mth mnv mns mfa mmo) H := hP
      have hD : va_D A (wM b cI cJ cZ mki msz mle mel mme mal mic mil mio mab mae msa mlc mli mna mva mma mch mre mlv mwr msh mth mnv mns mfa mmo) := hD
      refine lv_istore_n hx hb d_Mo_truth_14 rfl hl (by decide) (lv' := [(2, .int (-1)), (0, .ref (b 0)), (1, .int x)]) rfl (fun ls hl => ?_)
      refine lv_aload_n hx hb d_Mo_truth_15 rfl (lv_at hl 1 rfl) ?_
      refine lv_iload_n hx hb d_Mo_truth_16 rfl (lv_at hl 0 rfl) ?_
      refine lv_if_ge (tgt := 24) hx hb d_Mo_truth_17 (by decide) (fun h => ?_) (fun h => ?_)
      · have vc := vc.1 h
        refine lv_iconst (v := 0) hx hb d_Mo_truth_24 (by decide) ?_
        refine va_put (D := D) (ci := 6) (v := .int 0) (ty := .int) (C := R_Mo) (T := F_Mo) (N := 27) hx hb hts in_Mo t_Mo t_Mo_ok n_Mo hown hK hP hD hS 0 rfl rfl 0 (by decide) (hts _ fl_Mo_78) (fun _ h => h) rfl (by decide +kernel) rfl rfl (Nat.le_of_ble_eq_true rfl) d_Mo_truth_25 (fun H locs hP hD hS => ?_)
        have hP : va_P D vwCl (wM b cI cJ cZ mki msz mle mel mme mal mic mil mio mab mae msa mlc mli mna mva mma mch mre mlv mwr msh 0 mnv mns mfa mmo) H := hP
        have hD : va_D A (wM b cI cJ cZ mki msz mle mel mme mal mic mil mio mab mae msa mlc mli mna mva mma mch mre mlv mwr msh 0 mnv mns mfa mmo) := hD
        refine lv_iload_n hx hb d_Mo_truth_28 rfl (lv_at hl 0 rfl) ?_
        refine lv_if_ge (tgt := 36) hx hb d_Mo_truth_29 (by decide) (fun h => ?_) (fun h => ?_)
        · have vc := vc.1 h
          refine lv_iload_n hx hb d_Mo_truth_36 rfl (lv_at hl 0 rfl) ?_
          exact hret _ _ _ _ _ _ _ _ _ _ _ _ _ _ _ _ _ _ _ _ _ _ _ _ _ _ _ _ ls _ H locs d_Mo_truth_37 vc hP hD hS
        · have vc := vc.2 h
          refine lv_iconst (v := 0) hx hb d_Mo_truth_32 (by decide) ?_
          refine lv_goto (tgt := 37) hx hb d_Mo_truth_33 (by decide) ?_
          exact hret _ _ _ _ _ _ _ _ _ _ _ _ _ _ _ _ _ _ _ _ _ _ _ _ _ _ _ _ ls _ H locs d_Mo_truth_37 vc hP hD hS
      · have vc := vc.2 h
        refine lv_iconst (v := 1) hx hb d_Mo_truth_20 (by decide) ?_
        refine lv_goto (tgt := 25) hx hb d_Mo_truth_21 (by decide) ?_
        refine va_put (D := D) (ci := 6) (v := .int 1) (ty := .int) (C := R_Mo) (T := F_Mo) (N := 27) hx hb hts in_Mo t_Mo t_Mo_ok n_Mo hown hK hP hD hS 0 rfl rfl 0 (by decide) (hts _ fl_Mo_78) (fun _ h => h) rfl (by decide +kernel) rfl rfl (Nat.le_of_ble_eq_true rfl) d_Mo_truth_25 (fun H locs hP hD hS => ?_)
        have hP : va_P D vwCl (wM b cI cJ cZ mki msz mle mel mme mal mic mil mio mab mae msa mlc mli mna mva mma mch mre mlv mwr msh 1 mnv mns mfa mmo) H := hP
        have hD : va_D A (wM b cI cJ cZ mki msz mle mel mme mal mic mil mio mab mae msa mlc mli mna mva mma mch mre mlv mwr msh 1 mnv mns mfa mmo) := hD
        refine lv_iload_n hx hb d_Mo_truth_28 rfl (lv_at hl 0 rfl) ?_
        refine lv_if_ge (tgt := 36) hx hb d_Mo_truth_29 (by decide) (fun h => ?_) (fun h => ?_)
        · have vc := vc.1 h
          refine lv_iload_n hx hb d_Mo_truth_36 rfl (lv_at hl 0 rfl) ?_
          exact hret _ _ _ _ _ _ _ _ _ _ _ _ _ _ _ _ _ _ _ _ _ _ _ _ _ _ _ _ ls _ H locs d_Mo_truth_37 vc hP hD hS
        · have vc := vc.2 h
          refine lv_iconst (v := 0) hx hb d_Mo_truth_32 (by decide) ?_
          refine lv_goto (tgt := 37) hx hb d_Mo_truth_33 (by decide) ?_
          exact hret _ _ _ _ _ _ _ _ _ _ _ _ _ _ _ _ _ _ _ _ _ _ _ _ _ _ _ _ ls _ H locs d_Mo_truth_37 vc hP hD hS
    · have vc := vc.2 hv1
      refine wc_V (As := [.int 1, .long 0]) (rest := []) (wr := ([] : va_W)) S (c_Mo_add_2 l D b cI cJ cZ mki msz mle mel mme mal mic mil mio mab mae msa mlc mli mna mva mma mch mre mlv mwr msh mth mnv mns mfa mmo 1 0 hpre hv1) k_Mo_add i_Mo_add e_Mo_add o_Mo ml_Mo_85 hd_Mo_add (Nat.le_trans (by decide) hRf) (Nat.le_trans (by decide) hRl) hRc (va_recv hK hP (q0 := 0) (ci := 6) rfl rfl) hK hP hD hS hA [0, 1, 2, 3, 4, 5, 6, 7, 8, 9, 10, 11, 12, 13, 14, 15, 16, 17, 18, 19, 20, 21, 22] [] rfl rfl rfl (by decide) (by decide) (by decide) hl.1 rfl (Nat.le_of_ble_eq_true rfl) d_Mo_truth_11 (fun _ H locs _ hP hD hS => ?_)
      have hP : va_P D vwCl (wM b cI cJ cZ (upd mki mnv.toNatClampNeg 1) (vp_updL msz mnv.toNatClampNeg 0) mle mel mme mal mic mil mio mab mae msa mlc mli mna mva mma mch mre mlv mwr msh mth (mnv + 1) mns mfa mmo) H := hP
      have hD : va_D A (wM b cI cJ cZ (upd mki mnv.toNatClampNeg 1) (vp_updL msz mnv.toNatClampNeg 0) mle mel mme mal mic mil mio mab mae msa mlc mli mna mva mma mch mre mlv mwr msh mth (mnv + 1) mns mfa mmo) := hD
      refine lv_istore_n hx hb d_Mo_truth_14 rfl hl (by decide) (lv' := [(2, .int (mnv + 1 - 1)), (0, .ref (b 0)), (1, .int x)]) rfl (fun ls hl => ?_)
      refine lv_aload_n hx hb d_Mo_truth_15 rfl (lv_at hl 1 rfl) ?_
      refine lv_iload_n hx hb d_Mo_truth_16 rfl (lv_at hl 0 rfl) ?_
      refine lv_if_ge (tgt := 24) hx hb d_Mo_truth_17 (by decide) (fun h => ?_) (fun h => ?_)
      · have vc := vc.1 h
        refine lv_iconst (v := 0) hx hb d_Mo_truth_24 (by decide) ?_
        refine va_put (D := D) (ci := 6) (v := .int 0) (ty := .int) (C := R_Mo) (T := F_Mo) (N := 27) hx hb hts in_Mo t_Mo t_Mo_ok n_Mo hown hK hP hD hS 0 rfl rfl 0 (by decide) (hts _ fl_Mo_78) (fun _ h => h) rfl (by decide +kernel) rfl rfl (Nat.le_of_ble_eq_true rfl) d_Mo_truth_25 (fun H locs hP hD hS => ?_)
        have hP : va_P D vwCl (wM b cI cJ cZ (upd mki mnv.toNatClampNeg 1) (vp_updL msz mnv.toNatClampNeg 0) mle mel mme mal mic mil mio mab mae msa mlc mli mna mva mma mch mre mlv mwr msh 0 (mnv + 1) mns mfa mmo) H := hP
        have hD : va_D A (wM b cI cJ cZ (upd mki mnv.toNatClampNeg 1) (vp_updL msz mnv.toNatClampNeg 0) mle mel mme mal mic mil mio mab mae msa mlc mli mna mva mma mch mre mlv mwr msh 0 (mnv + 1) mns mfa mmo) := hD
        refine lv_iload_n hx hb d_Mo_truth_28 rfl (lv_at hl 0 rfl) ?_
        refine lv_if_ge (tgt := 36) hx hb d_Mo_truth_29 (by decide) (fun h => ?_) (fun h => ?_)
        · have vc := vc.1 h
          refine lv_iload_n hx hb d_Mo_truth_36 rfl (lv_at hl 0 rfl) ?_
          exact hret _ _ _ _ _ _ _ _ _ _ _ _ _ _ _ _ _ _ _ _ _ _ _ _ _ _ _ _ ls _ H locs d_Mo_truth_37 vc hP hD hS
        · have vc := vc.2 h
          refine lv_iconst (v := 0) hx hb d_Mo_truth_32 (by decide) ?_
          refine lv_goto (tgt := 37) hx hb d_Mo_truth_33 (by decide) ?_
          exact hret _ _ _ _ _ _ _ _ _ _ _ _ _ _ _ _ _ _ _ _ _ _ _ _ _ _ _ _ ls _ H locs d_Mo_truth_37 vc hP hD hS
      · have vc := vc.2 h
        refine lv_iconst (v := 1) hx hb d_Mo_truth_20 (by decide) ?_
        refine lv_goto (tgt := 25) hx hb d_Mo_truth_21 (by decide) ?_
        refine va_put (D := D) (ci := 6) (v := .int 1) (ty := .int) (C := R_Mo) (T := F_Mo) (N := 27) hx hb hts in_Mo t_Mo t_Mo_ok n_Mo hown hK hP hD hS 0 rfl rfl 0 (by decide) (hts _ fl_Mo_78) (fun _ h => h) rfl (by decide +kernel) rfl rfl (Nat.le_of_ble_eq_true rfl) d_Mo_truth_25 (fun H locs hP hD hS => ?_)
        have hP : va_P D vwCl (wM b cI cJ cZ (upd mki mnv.toNatClampNeg 1) (vp_updL msz mnv.toNatClampNeg 0) mle mel mme mal mic mil mio mab mae msa mlc mli mna mva mma mch mre mlv mwr msh 1 (mnv + 1) mns mfa mmo) H := hP
        have hD : va_D A (wM b cI cJ cZ (upd mki mnv.toNatClampNeg 1) (vp_updL msz mnv.toNatClampNeg 0) mle mel mme mal mic mil mio mab mae msa mlc mli mna mva mma mch mre mlv mwr msh 1 (mnv + 1) mns mfa mmo) := hD
        refine lv_iload_n hx hb d_Mo_truth_28 rfl (lv_at hl 0 rfl) ?_
        refine lv_if_ge (tgt := 36) hx hb d_Mo_truth_29 (by decide) (fun h => ?_) (fun h => ?_)
        · have vc := vc.1 h
          refine lv_iload_n hx hb d_Mo_truth_36 rfl (lv_at hl 0 rfl) ?_
          exact hret _ _ _ _ _ _ _ _ _ _ _ _ _ _ _ _ _ _ _ _ _ _ _ _ _ _ _ _ ls _ H locs d_Mo_truth_37 vc hP hD hS
        · have vc := vc.2 h
          refine lv_iconst (v := 0) hx hb d_Mo_truth_32 (by decide) ?_
          refine lv_goto (tgt := 37) hx hb d_Mo_truth_33 (by decide) ?_
          exact hret _ _ _ _ _ _ _ _ _ _ _ _ _ _ _ _ _ _ _ _ _ _ _ _ _ _ _ _ ls _ H locs d_Mo_truth_37 vc hP hD hS
  · have vc := vc.2 h
    refine lv_lconst (v := 1) hx hb d_Mo_truth_6 (by decide) ?_
    refine lv_goto (tgt := 11) hx hb d_Mo_truth_7 (by decide) ?_
    obtain ⟨hpre, vc⟩ := vc
    by_cases hv1 : mnv = 40
    · have vc := vc.1 hv1
      refine wc_V (As := [.int 1, .long 1]) (rest := []) (wr := ([] : va_W)) S (c_Mo_add_1 l D b cI cJ cZ mki msz mle mel mme mal mic mil mio mab mae msa mlc mli mna mva mma mch mre mlv mwr msh mth mnv mns mfa mmo 1 1 hpre hv1) k_Mo_add i_Mo_add e_Mo_add o_Mo ml_Mo_85 hd_Mo_add (Nat.le_trans (by decide) hRf) (Nat.le_trans (by decide) hRl) hRc (va_recv hK hP (q0 := 0) (ci := 6) rfl rfl) hK hP hD hS hA [0, 1, 2, 3, 4, 5, 6, 7, 8, 9, 10, 11, 12, 13, 14, 15, 16, 17, 18, 19, 20, 21, 22] [] rfl rfl rfl (by decide) (by decide) (by decide) hl.1 rfl (Nat.le_of_ble_eq_true rfl) d_Mo_truth_11 (fun _ H locs _ hP hD hS => ?_)
      have hP : va_P D vwCl (wM b cI cJ cZ mki msz mle mel mme mal mic mil mio mab mae msa mlc mli mna mva mma mch mre mlv mwr msh mth mnv mns mfa mmo) H := hP
      have hD : va_D A (wM b cI cJ cZ mki msz mle mel mme mal mic mil mio mab mae msa mlc mli mna mva mma mch mre mlv mwr msh mth mnv mns mfa mmo) := hD
      refine lv_istore_n hx hb d_Mo_truth_14 rfl hl (by decide) (lv' := [(2, .int (-1)), (0, .ref (b 0)), (1, .int x)]) rfl (fun ls hl => ?_)
      refine lv_aload_n hx hb d_Mo_truth_15 rfl (lv_at hl 1 rfl) ?_
      refine lv_iload_n hx hb d_Mo_truth_16 rfl (lv_at hl 0 rfl) ?_
      refine lv_if_ge (tgt := 24) hx hb d_Mo_truth_17 (by decide) (fun h => ?_) (fun h => ?_)
      · have vc := vc.1 h
        refine lv_iconst (v := 0) hx hb d_Mo_truth_24 (by decide) ?_
        refine va_put (D := D) (ci := 6) (v := .int 0) (ty := .int) (C := R_Mo) (T := F_Mo) (N := 27) hx hb hts in_Mo t_Mo t_Mo_ok n_Mo hown hK hP hD hS 0 rfl rfl 0 (by decide) (hts _ fl_Mo_78) (fun _ h => h) rfl (by decide +kernel) rfl rfl (Nat.le_of_ble_eq_true rfl) d_Mo_truth_25 (fun H locs hP hD hS => ?_)
        have hP : va_P D vwCl (wM b cI cJ cZ mki msz mle mel mme mal mic mil mio mab mae msa mlc mli mna mva mma mch mre mlv mwr msh 0 mnv mns mfa mmo) H := hP
        have hD : va_D A (wM b cI cJ cZ mki msz mle mel mme mal mic mil mio mab mae msa mlc mli mna mva mma mch mre mlv mwr msh 0 mnv mns mfa mmo) := hD
        refine lv_iload_n hx hb d_Mo_truth_28 rfl (lv_at hl 0 rfl) ?_
        refine lv_if_ge (tgt := 36) hx hb d_Mo_truth_29 (by decide) (fun h => ?_) (fun h => ?_)
        · have vc := vc.1 h
          refine lv_iload_n hx hb d_Mo_truth_36 rfl (lv_at hl 0 rfl) ?_
          exact hret _ _ _ _ _ _ _ _ _ _ _ _ _ _ _ _ _ _ _ _ _ _ _ _ _ _ _ _ ls _ H locs d_Mo_truth_37 vc hP hD hS
        · have vc := vc.2 h
          refine lv_iconst (v := 0) hx hb d_Mo_truth_32 (by decide) ?_
          refine lv_goto (tgt := 37) hx hb d_Mo_truth_33 (by decide) ?_
          exact hret _ _ _ _ _ _ _ _ _ _ _ _ _ _ _ _ _ _ _ _ _ _ _ _ _ _ _ _ ls _ H locs d_Mo_truth_37 vc hP hD hS
      · have vc := vc.2 h
        refine lv_iconst (v := 1) hx hb d_Mo_truth_20 (by decide) ?_
        refine lv_goto (tgt := 25) hx hb d_Mo_truth_21 (by decide) ?_
        refine va_put (D := D) (ci := 6) (v := .int 1) (ty := .int) (C := R_Mo) (T := F_Mo) (N := 27) hx hb hts in_Mo t_Mo t_Mo_ok n_Mo hown hK hP hD hS 0 rfl rfl 0 (by decide) (hts _ fl_Mo_78) (fun _ h => h) rfl (by decide +kernel) rfl rfl (Nat.le_of_ble_eq_true rfl) d_Mo_truth_25 (fun H locs hP hD hS => ?_)
        have hP : va_P D vwCl (wM b cI cJ cZ mki msz mle mel mme mal mic mil mio mab mae msa mlc mli mna mva mma mch mre mlv mwr msh 1 mnv mns mfa mmo) H := hP
        have hD : va_D A (wM b cI cJ cZ mki msz mle mel mme mal mic mil mio mab mae msa mlc mli mna mva mma mch mre mlv mwr msh 1 mnv mns mfa mmo) := hD
        refine lv_iload_n hx hb d_Mo_truth_28 rfl (lv_at hl 0 rfl) ?_
        refine lv_if_ge (tgt := 36) hx hb d_Mo_truth_29 (by decide) (fun h => ?_) (fun h => ?_)
        · have vc := vc.1 h
          refine lv_iload_n hx hb d_Mo_truth_36 rfl (lv_at hl 0 rfl) ?_
          exact hret _ _ _ _ _ _ _ _ _ _ _ _ _ _ _ _ _ _ _ _ _ _ _ _ _ _ _ _ ls _ H locs d_Mo_truth_37 vc hP hD hS
        · have vc := vc.2 h
          refine lv_iconst (v := 0) hx hb d_Mo_truth_32 (by decide) ?_
          refine lv_goto (tgt := 37) hx hb d_Mo_truth_33 (by decide) ?_
          exact hret _ _ _ _ _ _ _ _ _ _ _ _ _ _ _ _ _ _ _ _ _ _ _ _ _ _ _ _ ls _ H locs d_Mo_truth_37 vc hP hD hS
    · have vc := vc.2 hv1
      refine wc_V (As := [.int 1, .long 1]) (rest := []) (wr := ([] : va_W)) S (c_Mo_add_2 l D b cI cJ cZ mki msz mle mel mme mal mic mil mio mab mae msa mlc mli mna mva mma mch mre mlv mwr msh mth mnv mns mfa mmo 1 1 hpre hv1) k_Mo_add i_Mo_add e_Mo_add o_Mo ml_Mo_85 hd_Mo_add (Nat.le_trans (by decide) hRf) (Nat.le_trans (by decide) hRl) hRc (va_recv hK hP (q0 := 0) (ci := 6) rfl rfl) hK hP hD hS hA [0, 1, 2, 3, 4, 5, 6, 7, 8, 9, 10, 11, 12, 13, 14, 15, 16, 17, 18, 19, 20, 21, 22] [] rfl rfl rfl (by decide) (by decide) (by decide) hl.1 rfl (Nat.le_of_ble_eq_true rfl) d_Mo_truth_11 (fun _ H locs _ hP hD hS => ?_)
      have hP : va_P D vwCl (wM b cI cJ cZ (upd mki mnv.toNatClampNeg 1) (vp_updL msz mnv.toNatClampNeg 1) mle mel mme mal mic mil mio mab mae msa mlc mli mna mva mma mch mre mlv mwr msh mth (mnv + 1) mns mfa mmo) H := hP
      have hD : va_D A (wM b cI cJ cZ (upd mki mnv.toNatClampNeg 1) (vp_updL msz mnv.toNatClampNeg 1) mle mel mme mal mic mil mio mab mae msa mlc mli mna mva mma mch mre mlv mwr msh mth (mnv + 1) mns mfa mmo) := hD
      refine lv_istore_n hx hb d_Mo_truth_14 rfl hl (by decide) (lv' := [(2, .int (mnv + 1 - 1)), (0, .ref (b 0)), (1, .int x)]) rfl (fun ls hl => ?_)
      refine lv_aload_n hx hb d_Mo_truth_15 rfl (lv_at hl 1 rfl) ?_
      refine lv_iload_n hx hb d_Mo_truth_16 rfl (lv_at hl 0 rfl) ?_
      refine lv_if_ge (tgt := 24) hx hb d_Mo_truth_17 (by decide) (fun h => ?_) (fun h => ?_)
      · have vc := vc.1 h
        refine lv_iconst (v := 0) hx hb d_Mo_truth_24 (by decide) ?_
        refine va_put (D := D) (ci := 6) (v := .int 0) (ty := .int) (C := R_Mo) (T := F_Mo) (N := 27) hx hb hts in_Mo t_Mo t_Mo_ok n_Mo hown hK hP hD hS 0 rfl rfl 0 (by decide) (hts _ fl_Mo_78) (fun _ h => h) rfl (by decide +kernel) rfl rfl (Nat.le_of_ble_eq_true rfl) d_Mo_truth_25 (fun H locs hP hD hS => ?_)
        have hP : va_P D vwCl (wM b cI cJ cZ (upd mki mnv.toNatClampNeg 1) (vp_updL msz mnv.toNatClampNeg 1) mle mel mme mal mic mil mio mab mae msa mlc mli mna mva mma mch mre mlv mwr msh 0 (mnv + 1) mns mfa mmo) H := hP
        have hD : va_D A (wM b cI cJ cZ (upd mki mnv.toNatClampNeg 1) (vp_updL msz mnv.toNatClampNeg 1) mle mel mme mal mic mil mio mab mae msa mlc mli mna mva mma mch mre mlv mwr msh 0 (mnv + 1) mns mfa mmo) := hD
        refine lv_iload_n hx hb d_Mo_truth_28 rfl (lv_at hl 0 rfl) ?_
        refine lv_if_ge (tgt := 36) hx hb d_Mo_truth_29 (by decide) (fun h => ?_) (fun h => ?_)
        · have vc := vc.1 h
          refine lv_iload_n hx hb d_Mo_truth_36 rfl (lv_at hl 0 rfl) ?_
          exact hret _ _ _ _ _ _ _ _ _ _ _ _ _ _ _ _ _ _ _ _ _ _ _ _ _ _ _ _ ls _ H locs d_Mo_truth_37 vc hP hD hS
        · have vc := vc.2 h
          refine lv_iconst (v := 0) hx hb d_Mo_truth_32 (by decide) ?_
          refine lv_goto (tgt := 37) hx hb d_Mo_truth_33 (by decide) ?_
          exact hret _ _ _ _ _ _ _ _ _ _ _ _ _ _ _ _ _ _ _ _ _ _ _ _ _ _ _ _ ls _ H locs d_Mo_truth_37 vc hP hD hS
      · have vc := vc.2 h
        refine lv_iconst (v := 1) hx hb d_Mo_truth_20 (by decide) ?_
        refine lv_goto (tgt := 25) hx hb d_Mo_truth_21 (by decide) ?_
        refine va_put (D := D) (ci := 6) (v := .int 1) (ty := .int) (C := R_Mo) (T := F_Mo) (N := 27) hx hb hts in_Mo t_Mo t_Mo_ok n_Mo hown hK hP hD hS 0 rfl rfl 0 (by decide) (hts _ fl_Mo_78) (fun _ h => h) rfl (by decide +kernel) rfl rfl (Nat.le_of_ble_eq_true rfl) d_Mo_truth_25 (fun H locs hP hD hS => ?_)
        have hP : va_P D vwCl (wM b cI cJ cZ (upd mki mnv.toNatClampNeg 1) (vp_updL msz mnv.toNatClampNeg 1) mle mel mme mal mic mil mio mab mae msa mlc mli mna mva mma mch mre mlv mwr msh 1 (mnv + 1) mns mfa mmo) H := hP
        have hD : va_D A (wM b cI cJ cZ (upd mki mnv.toNatClampNeg 1) (vp_updL msz mnv.toNatClampNeg 1) mle mel mme mal mic mil mio mab mae msa mlc mli mna mva mma mch mre mlv mwr msh 1 (mnv + 1) mns mfa mmo) := hD
        refine lv_iload_n hx hb d_Mo_truth_28 rfl (lv_at hl 0 rfl) ?_
        refine lv_if_ge (tgt := 36) hx hb d_Mo_truth_29 (by decide) (fun h => ?_) (fun h => ?_)
        · have vc := vc.1 h
          refine lv_iload_n hx hb d_Mo_truth_36 rfl (lv_at hl 0 rfl) ?_
          exact hret _ _ _ _ _ _ _ _ _ _ _ _ _ _ _ _ _ _ _ _ _ _ _ _ _ _ _ _ ls _ H locs d_Mo_truth_37 vc hP hD hS
        · have vc := vc.2 h
          refine lv_iconst (v := 0) hx hb d_Mo_truth_32 (by decide) ?_
          refine lv_goto (tgt := 37) hx hb d_Mo_truth_33 (by decide) ?_
          exact hret _ _ _ _ _ _ _ _ _ _ _ _ _ _ _ _ _ _ _ _ _ _ _ _ _ _ _ _ ls _ H locs d_Mo_truth_37 vc hP hD hS
theorem h_Mo_truth (l : Launch) (D : va_G) (b : Nat → Nat) (cI cJ cZ : ClassId) (mki : Nat → Int32) (msz : Nat → Int64) (mle : Nat → Int32) (mel : Nat → Int32) (mme : Nat → Int32) (mal : Nat → Int32) (mic : Nat → Int32) (mil : Nat → Int32) (mio : Nat → Int32) (mab : Nat → Int32) (mae : Nat → Int32) (msa : Nat → Int32) (mlc : Nat → Int32) (mli : Nat → Int32) (mna : Nat → Int32) (mva : Nat → Int32) (mma : Nat → Int32) (mch : Nat → Int32) (mre : Nat → Int32) (mlv : Nat → Int32) (mwr : Nat → Int64) (msh : Nat → Int32) (mth : Int32) (mnv : Int32) (mns : Int32) (mfa : Int32) (mmo : Int32) (x : Int32) (r : Int32) (mki' : Nat → Int32) (msz' : Nat → Int64) (mle' : Nat → Int32) (mel' : Nat → Int32) (mme' : Nat → Int32) (mal' : Nat → Int32) (mic' : Nat → Int32) (mil' : Nat → Int32) (mio' : Nat → Int32) (mab' : Nat → Int32) (mae' : Nat → Int32) (msa' : Nat → Int32) (mlc' : Nat → Int32) (mli' : Nat → Int32) (mna' : Nat → Int32) (mva' : Nat → Int32) (mma' : Nat → Int32) (mch' : Nat → Int32) (mre' : Nat → Int32) (mlv' : Nat → Int32) (mwr' : Nat → Int64) (msh' : Nat → Int32) (mth' : Int32) (mnv' : Int32) (mns' : Int32) (mfa' : Int32) (mmo' : Int32) (vc : V_Mo_truth mki msz mle mel mme mal mic mil mio mab mae msa mlc mli mna mva mma mch mre mlv mwr msh mth mnv mns mfa mmo x (fun v mki msz mle mel mme mal mic mil mio mab mae msa mlc mli mna mva mma mch mre mlv mwr msh mth mnv mns mfa mmo => v = r ∧ mki = mki' ∧ msz = msz' ∧ mle = mle' ∧ mel = mel' ∧ mme = mme' ∧ mal = mal' ∧ mic = mic' ∧ mil = mil' ∧ mio = mio' ∧ mab = mab' ∧ mae = mae' ∧ msa = msa' ∧ mlc = mlc' ∧ mli = mli' ∧ mna = mna' ∧ mva = mva' ∧ mma = mma' ∧ mch = mch' ∧ mre = mre' ∧ mlv = mlv' ∧ mwr = mwr' ∧ msh = msh' ∧ mth = mth' ∧ mnv = mnv' ∧ mns = mns' ∧ mfa = mfa' ∧ mmo = mmo')) : Wm (S := Unit) l y_Mo_truth b_Mo_truth 3 (some .int) 1 23 [.ref (b 0), .int x] D (tyA cI cJ cZ) (wM b cI cJ cZ mki msz mle mel mme mal mic mil mio mab mae msa mlc mli mna mva mma mch mre mlv mwr msh mth mnv mns mfa mmo) (fun _ => True) (fun _ => some (.int r)) (fun _ => (wM b cI cJ cZ mki' msz' mle' mel' mme' mal' mic' mil' mio' mab' mae' msa' mlc' mli' mna' mva' mma' mch' mre' mlv' mwr' msh' mth' mnv' mns' mfa' mmo')) :=
  wm_i (by decide) (fun _ _ => rfl) (Nat.le_of_ble_eq_true rfl) (fun p e s m below meth c ls Q A S hK hP hD hA hS hl hret => g_Mo_truth S (Nat.le_refl _) (Nat.le_refl _) ⟨Nat.le_refl _, Nat.le_refl _⟩ D b cI cJ cZ mki msz mle mel mme mal mic mil mio mab mae msa mlc mli mna mva mma mch mre mlv mwr msh mth mnv mns mfa mmo x hK hP hD hA hS hl vc (fun v mki msz mle mel mme mal mic mil mio mab mae msa mlc mli mna mva mma mch mre mlv mwr msh mth mnv mns mfa mmo ls pc H locs hd hv hP hD hS => by obtain ⟨rfl, rfl, rfl, rfl, rfl, rfl, rfl, rfl, rfl, rfl, rfl, rfl, rfl, rfl, rfl, rfl, rfl, rfl, rfl, rfl, rfl, rfl, rfl, rfl, rfl, rfl, rfl, rfl⟩ := hv; exact hret () _ ls pc H locs hd trivial rfl hP hD hS))
theorem c_Mo_truth_1 (l : Launch) (D : va_G) (b : Nat → Nat) (cI cJ cZ : ClassId) (mki : Nat → Int32) (msz : Nat → Int64) (mle : Nat → Int32) (mel : Nat → Int32) (mme : Nat → Int32) (mal : Nat → Int32) (mic : Nat → Int32) (mil : Nat → Int32) (mio : Nat → Int32) (mab : Nat → Int32) (mae : Nat → Int32) (msa : Nat → Int32) (mlc : Nat → Int32) (mli : Nat → Int32) (mna : Nat → Int32) (mva : Nat → Int32) (mma : Nat → Int32) (mch : Nat → Int32) (mre : Nat → Int32) (mlv : Nat → Int32) (mwr : Nat → Int64) (msh : Nat → Int32) (mth : Int32) (mnv : Int32) (mns : Int32) (mfa : Int32) (mmo : Int32) (x : Int32) (hpre : (¬ mnv < 0 ∧ mnv ≤ 40)) (hv1 : mnv = 40) : Wm (S := Unit) l y_Mo_truth b_Mo_truth 3 (some .int) 1 23 [.ref (b 0), .int x] D (tyA cI cJ cZ) (wM b cI cJ cZ mki msz mle mel mme mal mic mil mio mab mae msa mlc mli mna mva mma mch mre mlv mwr msh mth mnv mns mfa mmo) (fun _ => True) (fun _ => some (.int 0)) (fun _ => (wM b cI cJ cZ mki msz mle mel mme mal mic mil mio mab mae msa mlc mli mna mva mma mch mre mlv mwr msh 1 mnv mns mfa mmo)) := h_Mo_truth l D b cI cJ cZ mki msz mle mel mme mal mic mil mio mab mae msa mlc mli mna mva mma mch mre mlv mwr msh mth mnv mns mfa mmo x 0 mki msz mle mel mme mal mic mil mio mab mae msa mlc mli mna mva mma mch mre mlv mwr msh 1 mnv mns mfa mmo (by
  unfold V_Mo_truth
  repeat' (first | apply br_c | apply br_d | apply pre_and hpre | intro _)
  all_goals (first | (simp_all [add_sub1, bI]; done) | skip))
theorem c_Mo_truth_2 (l : Launch) (D : va_G) (b : Nat → Nat) (cI cJ cZ : ClassId) (mki : Nat → Int32) (msz : Nat → Int64) (mle : Nat → Int32) (mel : Nat → Int32) (mme : Nat → Int32) (mal : Nat → Int32) (mic : Nat → Int32) (mil : Nat → Int32) (mio : Nat → Int32) (mab : Nat → Int32) (mae : Nat → Int32) (msa : Nat → Int32) (mlc : Nat → Int32) (mli : Nat → Int32) (mna : Nat → Int32) (mva : Nat → Int32) (mma : Nat → Int32) (mch : Nat → Int32) (mre : Nat → Int32) (mlv : Nat → Int32) (mwr : Nat → Int64) (msh : Nat → Int32) (mth : Int32) (mnv : Int32) (mns : Int32) (mfa : Int32) (mmo : Int32) (x : Int32) (hpre : (¬ mnv < 0 ∧ mnv ≤ 40)) (hv1 : ¬ (mnv = 40)) : Wm (S := Unit) l y_Mo_truth b_Mo_truth 3 (some .int) 1 23 [.ref (b 0), .int x] D (tyA cI cJ cZ) (wM b cI cJ cZ mki msz mle mel mme mal mic mil mio mab mae msa mlc mli mna mva mma mch mre mlv mwr msh mth mnv mns mfa mmo) (fun _ => True) (fun _ => some (.int (mnv + 1 - 1))) (fun _ => (wM b cI cJ cZ (upd mki mnv.toNatClampNeg 1) (vp_updL msz mnv.toNatClampNeg (if x = 0 then 0 else 1 : Int64)) mle mel mme mal mic mil mio mab mae msa mlc mli mna mva mma mch mre mlv mwr msh 0 (mnv + 1) mns mfa mmo)) := h_Mo_truth l D b cI cJ cZ mki msz mle mel mme mal mic mil mio mab mae msa mlc mli mna mva mma mch mre mlv mwr msh mth mnv mns mfa mmo x (mnv + 1 - 1) (upd mki mnv.toNatClampNeg 1) (vp_updL msz mnv.toNatClampNeg (if x = 0 then 0 else 1 : Int64)) mle mel mme mal mic mil mio mab mae msa mlc mli mna mva mma mch mre mlv mwr msh 0 (mnv + 1) mns mfa mmo (by
  unfold V_Mo_truth
  repeat' (first | apply br_c | apply br_d | apply pre_and hpre | intro _)
  all_goals (first | (simp_all [add_sub1, bI]; done) | skip))
theorem hd_Mo_truth : y_Mo_truth.cls ≠ "java/lang/invoke/MethodHandle" ∧ y_Mo_truth.cls ≠ "java/lang/invoke/VarHandle" ∧ (parseMethodDescriptor y_Mo_truth.desc).map (fun d => d.parameters.length) = some 1 := ⟨by decide, by decide, by decide +kernel⟩
