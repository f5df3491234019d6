def V_Mo_said (mki : Nat → Int32) (msz : Nat → Int64) (mle : Nat → Int32) (mel : Nat → Int32) (mme : Nat → Int32) (mal : Nat → Int32) (mic : Nat → Int32) (mil : Nat → Int32) (mio : Nat → Int32) (mab : Nat → Int32) (mae : Nat → Int32) (msa : Nat → Int32) (mlc : Nat → Int32) (mli : Nat → Int32) (mna : Nat → Int32) (mva : Nat → Int32) (mma : Nat → Int32) (mch : Nat → Int32) (mre : Nat → Int32) (mlv : Nat → Int32) (mwr : Nat → Int64) (msh : Nat → Int32) (mth : Int32) (mnv : Int32) (mns : Int32) (mfa : Int32) (mmo : Int32) (x : Int32) (y : Int32) (post : Int32 → Prop) : Prop :=
  (vp_in ((29 * x) + y) 696 ∧ post (msa ((29 * x) + y : Int32).toNatClampNeg))
set_option maxHeartbeats 4000000 in
set_option maxRecDepth 100000 in
theorem g_Mo_said {p : Program} {l : Launch} {e : Env} {R : Room} {s : State} {m : MethodId} {args : Array Value} {below : List Frame} {meth : Method} {c : Code} {H : Heap} {locs : List Loc} {cells slots : Nat} {Q : State → Prop} {ls : Array Slot} (S : CallFix p m c b_Mo_said 3 s args W0 R_Mo) (hRf : 0 ≤ R.frames) (hRl : 0 ≤ R.locals) (hRc : cells ≤ R.cells ∧ slots ≤ R.slots) (D : va_G) (b : Nat → Nat) (cI cJ cZ : ClassId) (mki : Nat → Int32) (msz : Nat → Int64) (mle : Nat → Int32) (mel : Nat → Int32) (mme : Nat → Int32) (mal : Nat → Int32) (mic : Nat → Int32) (mil : Nat → Int32) (mio : Nat → Int32) (mab : Nat → Int32) (mae : Nat → Int32) (msa : Nat → Int32) (mlc : Nat → Int32) (mli : Nat → Int32) (mna : Nat → Int32) (mva : Nat → Int32) (mma : Nat → Int32) (mch : Nat → Int32) (mre : Nat → Int32) (mlv : Nat → Int32) (mwr : Nat → Int64) (msh : Nat → Int32) (mth : Int32) (mnv : Int32) (mns : Int32) (mfa : Int32) (mmo : Int32) (x : Int32) (y : Int32) (hK : va_K D vwCl (tyA cI cJ cZ) s) (hP : va_P D vwCl (wM b cI cJ cZ mki msz mle mel mme mal mic mil mio mab mae msa mlc mli mna mva mma mch mre mlv mwr msh mth mnv mns mfa mmo) H) (hl : lv_has ls 3 [(0, .ref (b 0)), (1, .int x), (2, .int y)]) {post : Int32 → Prop} (vc : V_Mo_said mki msz mle mel mme mal mic mil mio mab mae msa mlc mli mna mva mma mch mre mlv mwr msh mth mnv mns mfa mmo x y post)
    (hret : ∀ (v : Int32) (ls : Array Slot) (pc : Nat), decode b_Mo_said pc = .ok (.ireturn, 1) → post v → W p l e R s m args below meth c H locs cells slots Q (F0 m pc ls [.int v])) : W p l e R s m args below meth c H locs cells slots Q (F0 m 0 ls []) := by
  have hx := S.1
  have hb := S.2.1
  have hown := S.2.2.2.1
  have hts := S.2.2.2.2
  unfold V_Mo_said at vc
  refine lv_aload_n hx hb d_Mo_said_0 rfl (lv_at hl 0 rfl) ?_
  refine va_get (D := D) (ci := 6) (v := .ref (b 12)) (C := R_Mo) (T := F_Mo) (N := 27) hx hb hts in_Mo hown hK hP 0 rfl rfl 14 (by decide) (hts _ fl_Mo_45) (fun _ h => h) rfl d_Mo_said_1 ?_
  refine lv_bipush (v := 29) hx hb d_Mo_said_4 (by decide) ?_
  refine lv_iload_n hx hb d_Mo_said_6 rfl (lv_at hl 1 rfl) ?_
  refine lv_imul hx hb d_Mo_said_7 ?_
  refine lv_iload_n hx hb d_Mo_said_8 rfl (lv_at hl 2 rfl) ?_
  refine lv_iadd hx hb d_Mo_said_9 ?_
  obtain ⟨vcb, vc⟩ := vc
  refine va_iald hx hb hK hP 12 0 rfl rfl vcb d_Mo_said_10 ?_
  exact hret _ ls _ d_Mo_said_11 vc
theorem h_Mo_said (l : Launch) (D : va_G) (b : Nat → Nat) (cI cJ cZ : ClassId) (mki : Nat → Int32) (msz : Nat → Int64) (mle : Nat → Int32) (mel : Nat → Int32) (mme : Nat → Int32) (mal : Nat → Int32) (mic : Nat → Int32) (mil : Nat → Int32) (mio : Nat → Int32) (mab : Nat → Int32) (mae : Nat → Int32) (msa : Nat → Int32) (mlc : Nat → Int32) (mli : Nat → Int32) (mna : Nat → Int32) (mva : Nat → Int32) (mma : Nat → Int32) (mch : Nat → Int32) (mre : Nat → Int32) (mlv : Nat → Int32) (mwr : Nat → Int64) (msh : Nat → Int32) (mth : Int32) (mnv : Int32) (mns : Int32) (mfa : Int32) (mmo : Int32) (x : Int32) (y : Int32) (r : Int32) (vc : V_Mo_said mki msz mle mel mme mal mic mil mio mab mae msa mlc mli mna mva mma mch mre mlv mwr msh mth mnv mns mfa mmo x y (fun v => v = r)) : Pm l y_Mo_said b_Mo_said 3 (some .int) 0 0 [.ref (b 0), .int x, .int y] (wB D (tyA cI cJ cZ) (wM b cI cJ cZ mki msz mle mel mme mal mic mil mio mab mae msa mlc mli mna mva mma mch mre mlv mwr msh mth mnv mns mfa mmo)) (.int r) :=
  pm_i (by decide) rfl (Nat.le_of_ble_eq_true rfl) (fun p e s m below meth c ls Q S hB hl hret => g_Mo_said S (Nat.le_refl _) (Nat.le_refl _) ⟨Nat.le_refl _, Nat.le_refl _⟩ D b cI cJ cZ mki msz mle mel mme mal mic mil mio mab mae msa mlc mli mna mva mma mch mre mlv mwr msh mth mnv mns mfa mmo x y hB.2 hB.1 hl vc hret)
theorem c_Mo_said (l : Launch) (D : va_G) (b : Nat → Nat) (cI cJ cZ : ClassId) (mki : Nat → Int32) (msz : Nat → Int64) (mle : Nat → Int32) (mel : Nat → Int32) (mme : Nat → Int32) (mal : Nat → Int32) (mic : Nat → Int32) (mil : Nat → Int32) (mio : Nat → Int32) (mab : Nat → Int32) (mae : Nat → Int32) (msa : Nat → Int32) (mlc : Nat → Int32) (mli : Nat → Int32) (mna : Nat → Int32) (mva : Nat → Int32) (mma : Nat → Int32) (mch : Nat → Int32) (mre : Nat → Int32) (mlv : Nat → Int32) (mwr : Nat → Int64) (msh : Nat → Int32) (mth : Int32) (mnv : Int32) (mns : Int32) (mfa : Int32) (mmo : Int32) (x : Int32) (y : Int32) (hpre : vp_in (29 * x + y) 696) : Pm l y_Mo_said b_Mo_said 3 (some .int) 0 0 [.ref (b 0), .int x, .int y] (wB D (tyA cI cJ cZ) (wM b cI cJ cZ mki msz mle mel mme mal mic mil mio mab mae msa mlc mli mna mva mma mch mre mlv mwr msh mth mnv mns mfa mmo)) (.int (msa (29 * x + y : Int32).toNatClampNeg)) := h_Mo_said l D b cI cJ cZ mki msz mle mel mme mal mic mil mio mab mae msa mlc mli mna mva mma mch mre mlv mwr msh mth mnv mns mfa mmo x y _ (by
  unfold V_Mo_said
  exact ⟨hpre, rfl⟩)
theorem hd_Mo_said : y_Mo_said.cls ≠ "java/lang/invoke/MethodHandle" ∧ y_Mo_said.cls ≠ "java/lang/invoke/VarHandle" ∧ (parseMethodDescriptor y_Mo_said.desc).map (fun d => d.parameters.length) = some 2 := ⟨by decide, by decide, by decide +kernel⟩
def V_Mo_many (mki : Nat → Int32) (msz : Nat → Int64) (mle : Nat → Int32) (mel : Nat → Int32) (mme : Nat → Int32) (mal : Nat → Int32) (mic : Nat → Int32) (mil : Nat → Int32) (mio : Nat → Int32) (mab : Nat → Int32) (mae : Nat → Int32) (msa : Nat → Int32) (mlc : Nat → Int32) (mli : Nat → Int32) (mna : Nat → Int32) (mva : Nat → Int32) (mma : Nat → Int32) (mch : Nat → Int32) (mre : Nat → Int32) (mlv : Nat → Int32) (mwr : Nat → Int64) (msh : Nat → Int32) (mth : Int32) (mnv : Int32) (mns : Int32) (mfa : Int32) (mmo : Int32) (x : Int32) (y : Int32) (post : Int32 → Prop) : Prop :=
  (vp_in (((4 * x) + y) - 29) 96 ∧ post (mlc (((4 * x) + y) - 29 : Int32).toNatClampNeg))
set_option maxHeartbeats 4000000 in
set_option maxRecDepth 100000 in
theorem g_Mo_many {p : Program} {l : Launch} {e : Env} {R : Room} {s : State} {m : MethodId} {args : Array Value} {below : List Frame} {meth : Method} {c : Code} {H : Heap} {locs : List Loc} {cells slots : Nat} {Q : State → Prop} {ls : Array Slot} (S : CallFix p m c b_Mo_many 3 s args W0 R_Mo) (hRf : 0 ≤ R.frames) (hRl : 0 ≤ R.locals) (hRc : cells ≤ R.cells ∧ slots ≤ R.slots) (D : va_G) (b : Nat → Nat) (cI cJ cZ : ClassId) (mki : Nat → Int32) (msz : Nat → Int64) (mle : Nat → Int32) (mel : Nat → Int32) (mme : Nat → Int32) (mal : Nat → Int32) (mic : Nat → Int32) (mil : Nat → Int32) (mio : Nat → Int32) (mab : Nat → Int32) (mae : Nat → Int32) (msa : Nat → Int32) (mlc : Nat → Int32) (mli : Nat → Int32) (mna : Nat → Int32) (mva : Nat → Int32) (mma : Nat → Int32) (mch : Nat → Int32) (mre : Nat → Int32) (mlv : Nat → Int32) (mwr : Nat → Int64) (msh : Nat → Int32) (mth : Int32) (mnv : Int32) (mns : Int32) (mfa : Int32) (mmo : Int32) (x : Int32) (y : Int32) (hK : va_K D vwCl (tyA cI cJ cZ) s) (hP : va_P D vwCl (wM b cI cJ cZ mki msz mle mel mme mal mic mil mio mab mae msa mlc mli mna mva mma mch mre mlv mwr msh mth mnv mns mfa mmo) H) (hl : lv_has ls 3 [(0, .ref (b 0)), (1, .int x), (2, .int y)]) {post : Int32 → Prop} (vc : V_Mo_many mki msz mle mel mme mal mic mil mio mab mae msa mlc mli mna mva mma mch mre mlv mwr msh mth mnv mns mfa mmo x y post)
    (hret : ∀ (v : Int32) (ls : Array Slot) (pc : Nat), decode b_Mo_many pc = .ok (.ireturn, 1) → post v → W p l e R s m args below meth c H locs cells slots Q (F0 m pc ls [.int v])) : W p l e R s m args below meth c H locs cells slots Q (F0 m 0 ls []) := by
  have hx := S.1
  have hb := S.2.1
  have hown := S.2.2.2.1
  have hts := S.2.2.2.2
  unfold V_Mo_many at vc
  refine lv_aload_n hx hb d_Mo_many_0 rfl (lv_at hl 0 rfl) ?_
  refine va_get (D := D) (ci := 6) (v := .ref (b 13)) (C := R_Mo) (T := F_Mo) (N := 27) hx hb hts in_Mo hown hK hP 0 rfl rfl 15 (by decide) (hts _ fl_Mo_48) (fun _ h => h) rfl d_Mo_many_1 ?_
  refine lv_iconst (v := 4) hx hb d_Mo_many_4 (by decide) ?_
  refine lv_iload_n hx hb d_Mo_many_5 rfl (lv_at hl 1 rfl) ?_
  refine lv_imul hx hb d_Mo_many_6 ?_
  refine lv_iload_n hx hb d_Mo_many_7 rfl (lv_at hl 2 rfl) ?_
  refine lv_iadd hx hb d_Mo_many_8 ?_
  refine lv_bipush (v := 29) hx hb d_Mo_many_9 (by decide) ?_
  refine lv_isub hx hb d_Mo_many_11 ?_
  obtain ⟨vcb, vc⟩ := vc
  refine va_iald hx hb hK hP 13 0 rfl rfl vcb d_Mo_many_12 ?_
  exact hret _ ls _ d_Mo_many_13 vc
theorem h_Mo_many (l : Launch) (D : va_G) (b : Nat → Nat) (cI cJ cZ : ClassId) (mki : Nat → Int32) (msz : Nat → Int64) (mle : Nat → Int32) (mel : Nat → Int32) (mme : Nat → Int32) (mal : Nat → Int32) (mic : Nat → Int32) (mil : Nat → Int32) (mio : Nat → Int32) (mab : Nat → Int32) (mae : Nat → Int32) (msa : Nat → Int32) (mlc : Nat → Int32) (mli : Nat → Int32) (mna : Nat → Int32) (mva : Nat → Int32) (mma : Nat → Int32) (mch : Nat → Int32) (mre : Nat → Int32) (mlv : Nat → Int32) (mwr : Nat → Int64) (msh : Nat → Int32) (mth : Int32) (mnv : Int32) (mns : Int32) (mfa : Int32) (mmo : Int32) (x : Int32) (y : Int32) (r : Int32) (vc : V_Mo_many mki msz mle mel mme mal mic mil mio mab mae msa mlc mli mna mva mma mch mre mlv mwr msh mth mnv mns mfa mmo x y (fun v => v = r)) : Pm l y_Mo_many b_Mo_many 3 (some .int) 0 0 [.ref (b 0), .int x, .int y] (wB D (tyA cI cJ cZ) (wM b cI cJ cZ mki msz mle mel mme mal mic mil mio mab mae msa mlc mli mna mva mma mch mre mlv mwr msh mth mnv mns mfa mmo)) (.int r) :=
  pm_i (by decide) rfl (Nat.le_of_ble_eq_true rfl) (fun p e s m below meth c ls Q S hB hl hret => g_Mo_many S (Nat.le_refl _) (Nat.le_refl _) ⟨Nat.le_refl _, Nat.le_refl _⟩ D b cI cJ cZ mki msz mle mel mme mal mic mil mio mab mae msa mlc mli mna mva mma mch mre mlv mwr msh mth mnv mns mfa mmo x y hB.2 hB.1 hl vc hret)
theorem c_Mo_many (l : Launch) (D : va_G) (b : Nat → Nat) (cI cJ cZ : ClassId) (mki : Nat → Int32) (msz : Nat → Int64) (mle : Nat → Int32) (mel : Nat → Int32) (mme : Nat → Int32) (mal : Nat → Int32) (mic : Nat → Int32) (mil : Nat → Int32) (mio : Nat → Int32) (mab : Nat → Int32) (mae : Nat → Int32) (msa : Nat → Int32) (mlc : Nat → Int32) (mli : Nat → Int32) (mna : Nat → Int32) (mva : Nat → Int32) (mma : Nat → Int32) (mch : Nat → Int32) (mre : Nat → Int32) (mlv : Nat → Int32) (mwr : Nat → Int64) (msh : Nat → Int32) (mth : Int32) (mnv : Int32) (mns : Int32) (mfa : Int32) (mmo : Int32) (x : Int32) (y : Int32) (hpre : vp_in (4 * x + y - 29) 96) : Pm l y_Mo_many b_Mo_many 3 (some .int) 0 0 [.ref (b 0), .int x, .int y] (wB D (tyA cI cJ cZ) (wM b cI cJ cZ mki msz mle mel mme mal mic mil mio mab mae msa mlc mli mna mva mma mch mre mlv mwr msh mth mnv mns mfa mmo)) (.int (mlc (4 * x + y - 29 : Int32).toNatClampNeg)) := h_Mo_many l D b cI cJ cZ mki msz mle mel mme mal mic mil mio mab mae msa mlc mli mna mva mma mch mre mlv mwr msh mth mnv mns mfa mmo x y _ (by
  unfold V_Mo_many
  exact ⟨hpre, rfl⟩)
theorem hd_Mo_many : y_Mo_many.cls ≠ "java/lang/invoke/MethodHandle" ∧ y_Mo_many.cls ≠ "java/lang/invoke/VarHandle" ∧ (parseMethodDescriptor y_Mo_many.desc).map (fun d => d.parameters.length) = some 2 := ⟨by decide, by decide, by decide +kernel⟩
def V_Mo_listed (mki : Nat → Int32) (msz : Nat → Int64) (mle : Nat → Int32) (mel : Nat → Int32) (mme : Nat → Int32) (mal : Nat → Int32) (mic : Nat → Int32) (mil : Nat → Int32) (mio : Nat → Int32) (mab : Nat → Int32) (mae : Nat → Int32) (msa : Nat → Int32) (mlc : Nat → Int32) (mli : Nat → Int32) (mna : Nat → Int32) (mva : Nat → Int32) (mma : Nat → Int32) (mch : Nat → Int32) (mre : Nat → Int32) (mlv : Nat → Int32) (mwr : Nat → Int64) (msh : Nat → Int32) (mth : Int32) (mnv : Int32) (mns : Int32) (mfa : Int32) (mmo : Int32) (x : Int32) (y : Int32) (z : Int32) (post : Int32 → Prop) : Prop :=
  (vp_in (((12 * x) + (3 * (y - 29))) + z) 288 ∧ post (mli (((12 * x) + (3 * (y - 29))) + z : Int32).toNatClampNeg))
set_option maxHeartbeats 4000000 in
set_option maxRecDepth 100000 in
theorem g_Mo_listed {p : Program} {l : Launch} {e : Env} {R : Room} {s : State} {m : MethodId} {args : Array Value} {below : List Frame} {meth : Method} {c : Code} {H : Heap} {locs : List Loc} {cells slots : Nat} {Q : State → Prop} {ls : Array Slot} (S : CallFix p m c b_Mo_listed 4 s args W0 R_Mo) (hRf : 0 ≤ R.frames) (hRl : 0 ≤ R.locals) (hRc : cells ≤ R.cells ∧ slots ≤ R.slots) (D : va_G) (b : Nat → Nat) (cI cJ cZ : ClassId) (mki : Nat → Int32) (msz : Nat → Int64) (mle : Nat → Int32) (mel : Nat → Int32) (mme : Nat → Int32) (mal : Nat → Int32) (mic : Nat → Int32) (mil : Nat → Int32) (mio : Nat → Int32) (mab : Nat → Int32) (mae : Nat → Int32) (msa : Nat → Int32) (mlc : Nat → Int32) (mli : Nat → Int32) (mna : Nat → Int32) (mva : Nat → Int32) (mma : Nat → Int32) (mch : Nat → Int32) (mre : Nat → Int32) (mlv : Nat → Int32) (mwr : Nat → Int64) (msh : Nat → Int32) (mth : Int32) (mnv : Int32) (mns : Int32) (mfa : Int32) (mmo : Int32) (x : Int32) (y : Int32) (z : Int32) (hK : va_K D vwCl (tyA cI cJ cZ) s) (hP : va_P D vwCl (wM b cI cJ cZ mki msz mle mel mme mal mic mil mio mab mae msa mlc mli mna mva mma mch mre mlv mwr msh mth mnv mns mfa mmo) H) (hl : lv_has ls 4 [(0, .ref (b 0)), (1, .int x), (2, .int y), (3, .int z)]) {post : Int32 → Prop} (vc : V_Mo_listed mki msz mle mel mme mal mic mil mio mab mae msa mlc mli mna mva mma mch mre mlv mwr msh mth mnv mns mfa mmo x y z post)
    (hret : ∀ (v : Int32) (ls : Array Slot) (pc : Nat), decode b_Mo_listed pc = .ok (.ireturn, 1) → post v → W p l e R s m args below meth c H locs cells slots Q (F0 m pc ls [.int v])) : W p l e R s m args below meth c H locs cells slots Q (F0 m 0 ls []) := by
  have hx := S.1
  have hb := S.2.1
  have hown := S.2.2.2.1
  have hts := S.2.2.2.2
  unfold V_Mo_listed at vc
  refine lv_aload_n hx hb d_Mo_listed_0 rfl (lv_at hl 0 rfl) ?_
  refine va_get (D := D) (ci := 6) (v := .ref (b 14)) (C := R_Mo) (T := F_Mo) (N := 27) hx hb hts in_Mo hown hK hP 0 rfl rfl 16 (by decide) (hts _ fl_Mo_51) (fun _ h => h) rfl d_Mo_listed_1 ?_
  refine lv_bipush (v := 12) hx hb d_Mo_listed_4 (by decide) ?_
  refine lv_iload_n hx hb d_Mo_listed_6 rfl (lv_at hl 1 rfl) ?_
  refine lv_imul hx hb d_Mo_listed_7 ?_
  refine lv_iconst (v := 3) hx hb d_Mo_listed_8 (by decide) ?_
  refine lv_iload_n hx hb d_Mo_listed_9 rfl (lv_at hl 2 rfl) ?_
  refine lv_bipush (v := 29) hx hb d_Mo_listed_10 (by decide) ?_
  refine lv_isub hx hb d_Mo_listed_12 ?_
  refine lv_imul hx hb d_Mo_listed_13 ?_
  refine lv_iadd hx hb d_Mo_listed_14 ?_
  refine lv_iload_n hx hb d_Mo_listed_15 rfl (lv_at hl 3 rfl) ?_
  refine lv_iadd hx hb d_Mo_listed_16 ?_
  obtain ⟨vcb, vc⟩ := vc
  refine va_iald hx hb hK hP 14 0 rfl rfl vcb d_Mo_listed_17 ?_
  exact hret _ ls _ d_Mo_listed_18 vc
theorem h_Mo_listed (l : Launch) (D : va_G) (b : Nat → Nat) (cI cJ cZ : ClassId) (mki : Nat → Int32) (msz : Nat → Int64) (mle : Nat → Int32) (mel : Nat → Int32) (mme : Nat → Int32) (mal : Nat → Int32) (mic : Nat → Int32) (mil : Nat → Int32) (mio : Nat → Int32) (mab : Nat → Int32) (mae : Nat → Int32) (msa : Nat → Int32) (mlc : Nat → Int32) (mli : Nat → Int32) (mna : Nat → Int32) (mva : Nat → Int32) (mma : Nat → Int32) (mch : Nat → Int32) (mre : Nat → Int32) (mlv : Nat → Int32) (mwr : Nat → Int64) (msh : Nat → Int32) (mth : Int32) (mnv : Int32) (mns : Int32) (mfa : Int32) (mmo : Int32) (x : Int32) (y : Int32) (z : Int32) (r : Int32) (vc : V_Mo_listed mki msz mle mel mme mal mic mil mio mab mae msa mlc mli mna mva mma mch mre mlv mwr msh mth mnv mns mfa mmo x y z (fun v => v = r)) : Pm l y_Mo_listed b_Mo_listed 4 (some .int) 0 0 [.ref (b 0), .int x, .int y, .int z] (wB D (tyA cI cJ cZ) (wM b cI cJ cZ mki msz mle mel mme mal mic mil mio mab mae msa mlc mli mna mva mma mch mre mlv mwr msh mth mnv mns mfa mmo)) (.int r) :=
  pm_i (by decide) rfl (Nat.le_of_ble_eq_true rfl) (fun p e s m below meth c ls Q S hB hl hret => g_Mo_listed S (Nat.le_refl _) (Nat.le_refl _) ⟨Nat.le_refl _, Nat.le_refl _⟩ D b cI cJ cZ mki msz mle mel mme mal mic mil mio mab mae msa mlc mli mna mva mma mch mre mlv mwr msh mth mnv mns mfa mmo x y z hB.2 hB.1 hl vc hret)
theorem c_Mo_listed (l : Launch) (D : va_G) (b : Nat → Nat) (cI cJ cZ : ClassId) (mki : Nat → Int32) (msz : Nat → Int64) (mle : Nat → Int32) (mel : Nat → Int32) (mme : Nat → Int32) (mal : Nat → Int32) (mic : Nat → Int32) (mil : Nat → Int32) (mio : Nat → Int32) (mab : Nat → Int32) (mae : Nat → Int32) (msa : Nat → Int32) (mlc : Nat → Int32) (mli : Nat → Int32) (mna : Nat → Int32) (mva : Nat → Int32) (mma : Nat → Int32) (mch : Nat → Int32) (mre : Nat → Int32) (mlv : Nat → Int32) (mwr : Nat → Int64) (msh : Nat → Int32) (mth : Int32) (mnv : Int32) (mns : Int32) (mfa : Int32) (mmo : Int32) (x : Int32) (y : Int32) (z : Int32) (hpre : vp_in (12 * x + 3 * (y - 29) + z) 288) : Pm l y_Mo_listed b_Mo_listed 4 (some .int) 0 0 [.ref (b 0), .int x, .int y, .int z] (wB D (tyA cI cJ cZ) (wM b cI cJ cZ mki msz mle mel mme mal mic mil mio mab mae msa mlc mli mna mva mma mch mre mlv mwr msh mth mnv mns mfa mmo)) (.int (mli (12 * x + 3 * (y - 29) + z : Int32).toNatClampNeg)) := h_Mo_listed l D b cI cJ cZ mki msz mle mel mme mal mic mil mio mab mae msa mlc mli mna mva mma mch mre mlv mwr msh mth mnv mns mfa mmo x y z _ (by
  unfold V_Mo_listed
  exact ⟨hpre, rfl⟩)
theorem hd_Mo_listed : y_Mo_listed.cls ≠ "java/lang/invoke/MethodHandle" ∧ y_Mo_listed.cls ≠ "java/lang/invoke/VarHandle" ∧ (parseMethodDescriptor y_Mo_listed.desc).map (fun d => d.parameters.length) = some 3 := ⟨by decide, by decide, by decide +kernel⟩
def V_Mo_byName (mki : Nat → Int32) (msz : Nat → Int64) (mle : Nat → Int32) (mel : Nat → Int32) (mme : Nat → Int32) (mal : Nat → Int32) (mic : Nat → Int32) (mil : Nat → Int32) (mio : Nat → Int32) (mab : Nat → Int32) (mae : Nat → Int32) (msa : Nat → Int32) (mlc : Nat → Int32) (mli : Nat → Int32) (mna : Nat → Int32) (mva : Nat → Int32) (mma : Nat → Int32) (mch : Nat → Int32) (mre : Nat → Int32) (mlv : Nat → Int32) (mwr : Nat → Int64) (msh : Nat → Int32) (mth : Int32) (mnv : Int32) (mns : Int32) (mfa : Int32) (mmo : Int32) (x : Int32) (y : Int32) (z : Int32) (post : Int32 → Prop) : Prop :=
  (vp_in (((36 * x) + (12 * (y - 33))) + z) 864 ∧ post (mna (((36 * x) + (12 * (y - 33))) + z : Int32).toNatClampNeg))
set_option maxHeartbeats 4000000 in
set_option maxRecDepth 100000 in
theorem g_Mo_byName {p : Program} {l : Launch} {e : Env} {R : Room} {s : State} {m : MethodId} {args : Array Value} {below : List Frame} {meth : Method} {c : Code} {H : Heap} {locs : List Loc} {cells slots : Nat} {Q : State → Prop} {ls : Array Slot} (S : CallFix p m c b_Mo_byName 4 s args W0 R_Mo) (hRf : 0 ≤ R.frames) (hRl : 0 ≤ R.locals) (hRc : cells ≤ R.cells ∧ slots ≤ R.slots) (D : va_G) (b : Nat → Nat) (cI cJ cZ : ClassId) (mki : Nat → Int32) (msz : Nat → Int64) (mle : Nat → Int32) (mel : Nat → Int32) (mme : Nat → Int32) (mal : Nat → Int32) (mic : Nat → Int32) (mil : Nat → Int32) (mio : Nat → Int32) (mab : Nat → Int32) (mae : Nat → Int32) (msa : Nat → Int32) (mlc : Nat → Int32) (mli : Nat → Int32) (mna : Nat → Int32) (mva : Nat → Int32) (mma : Nat → Int32) (mch : Nat → Int32) (mre : Nat → Int32) (mlv : Nat → Int32) (mwr : Nat → Int64) (msh : Nat → Int32) (mth : Int32) (mnv : Int32) (mns : Int32) (mfa : Int32) (mmo : Int32) (x : Int32) (y : Int32) (z : Int32) (hK : va_K D vwCl (tyA cI cJ cZ) s) (hP : va_P D vwCl (wM b cI cJ cZ mki msz mle mel mme mal mic mil mio mab mae msa mlc mli mna mva mma mch mre mlv mwr msh mth mnv mns mfa mmo) H) (hl : lv_has ls 4 [(0, .ref (b 0)), (1, .int x), (2, .int y), (3, .int z)]) {post : Int32 → Prop} (vc : V_Mo_byName mki msz mle mel mme mal mic mil mio mab mae msa mlc mli mna mva mma mch mre mlv mwr msh mth mnv mns mfa mmo x y z post)
    (hret : ∀ (v : Int32) (ls : Array Slot) (pc : Nat), decode b_Mo_byName pc = .ok (.ireturn, 1) → post v → W p l e R s m args below meth c H locs cells slots Q (F0 m pc ls [.int v])) : W p l e R s m args below meth c H locs cells slots Q (F0 m 0 ls []) := by
  have hx := S.1
  have hb := S.2.1
  have hown := S.2.2.2.1
  have hts := S.2.2.2.2
  unfold V_Mo_byName at vc
  refine lv_aload_n hx hb d_Mo_byName_0 rfl (lv_at hl 0 rfl) ?_
  refine va_get (D := D) (ci := 6) (v := .ref (b 15)) (C := R_Mo) (T := F_Mo) (N := 27) hx hb hts in_Mo hown hK hP 0 rfl rfl 17 (by decide) (hts _ fl_Mo_54) (fun _ h => h) rfl d_Mo_byName_1 ?_
  refine lv_bipush (v := 36) hx hb d_Mo_byName_4 (by decide) ?_
  refine lv_iload_n hx hb d_Mo_byName_6 rfl (lv_at hl 1 rfl) ?_
  refine lv_imul hx hb d_Mo_byName_7 ?_
  refine lv_bipush (v := 12) hx hb d_Mo_byName_8 (by decide) ?_
  refine lv_iload_n hx hb d_Mo_byName_10 rfl (lv_at hl 2 rfl) ?_
  refine lv_bipush (v := 33) hx hb d_Mo_byName_11 (by decide) ?_
  refine lv_isub hx hb d_Mo_byName_13 ?_
  refine lv_imul hx hb d_Mo_byName_14 ?_
  refine lv_iadd hx hb d_Mo_byName_15 ?_
  refine lv_iload_n hx hb d_Mo_byName_16 rfl (lv_at hl 3 rfl) ?_
  refine lv_iadd hx hb d_Mo_byName_17 ?_
  obtain ⟨vcb, vc⟩ := vc
  refine va_iald hx hb hK hP 15 0 rfl rfl vcb d_Mo_byName_18 ?_
  exact hret _ ls _ d_Mo_byName_19 vc
theorem h_Mo_byName (l : Launch) (D : va_G) (b : Nat → Nat) (cI cJ cZ : ClassId) (mki : Nat → Int32) (msz : Nat → Int64) (mle : Nat → Int32) (mel : Nat → Int32) (mme : Nat → Int32) (mal : Nat → Int32) (mic : Nat → Int32) (mil : Nat → Int32) (mio : Nat → Int32) (mab : Nat → Int32) (mae : Nat → Int32) (msa : Nat → Int32) (mlc : Nat → Int32) (mli : Nat → Int32) (mna : Nat → Int32) (mva : Nat → Int32) (mma : Nat → Int32) (mch : Nat → Int32) (mre : Nat → Int32) (mlv : Nat → Int32) (mwr : Nat → Int64) (msh : Nat → Int32) (mth : Int32) (mnv : Int32) (mns : Int32) (mfa : Int32) (mmo : Int32) (x : Int32) (y : Int32) (z : Int32) (r : Int32) (vc : V_Mo_byName mki msz mle mel mme mal mic mil mio mab mae msa mlc mli mna mva mma mch mre mlv mwr msh mth mnv mns mfa mmo x y z (fun v => v = r)) : Pm l y_Mo_byName b_Mo_byName 4 (some .int) 0 0 [.ref (b 0), .int x, .int y, .int z] (wB D (tyA cI cJ cZ) (wM b cI cJ cZ mki msz mle mel mme mal mic mil mio mab mae msa mlc mli mna mva mma mch mre mlv mwr msh mth mnv mns mfa mmo)) (.int r) :=
  pm_i (by decide) rfl (Nat.le_of_ble_eq_true rfl) (fun p e s m below meth c ls Q S hB hl hret => g_Mo_byName S (Nat.le_refl _) (Nat.le_refl _) ⟨Nat.le_refl _, Nat.le_refl _⟩ D b cI cJ cZ mki msz mle mel mme mal mic mil mio mab mae msa mlc mli mna mva mma mch mre mlv mwr msh mth mnv mns mfa mmo x y z hB.2 hB.1 hl vc hret)
theorem c_Mo_byName (l : Launch) (D : va_G) (b : Nat → Nat) (cI cJ cZ : ClassId) (mki : Nat → Int32) (msz : Nat → Int64) (mle : Nat → Int32) (mel : Nat → Int32) (mme : Nat → Int32) (mal : Nat → Int32) (mic : Nat → Int32) (mil : Nat → Int32) (mio : Nat → Int32) (mab : Nat → Int32) (mae : Nat → Int32) (msa : Nat → Int32) (mlc : Nat → Int32) (mli : Nat → Int32) (mna : Nat → Int32) (mva : Nat → Int32) (mma : Nat → Int32) (mch : Nat → Int32) (mre : Nat → Int32) (mlv : Nat → Int32) (mwr : Nat → Int64) (msh : Nat → Int32) (mth : Int32) (mnv : Int32) (mns : Int32) (mfa : Int32) (mmo : Int32) (x : Int32) (y : Int32) (z : Int32) (hpre : vp_in (36 * x + 12 * (y - 33) + z) 864) : Pm l y_Mo_byName b_Mo_byName 4 (some .int) 0 0 [.ref (b 0), .int x, .int y, .int z] (wB D (tyA cI cJ cZ) (wM b cI cJ cZ mki msz mle mel mme mal mic mil mio mab mae msa mlc mli mna mva mma mch mre mlv mwr msh mth mnv mns mfa mmo)) (.int (mna (36 * x + 12 * (y - 33) + z : Int32).toNatClampNeg)) := h_Mo_byName l D b cI cJ cZ mki msz mle mel mme mal mic mil mio mab mae msa mlc mli mna mva mma mch mre mlv mwr msh mth mnv mns mfa mmo x y z _ (by
  unfold V_Mo_byName
  exact ⟨hpre, rfl⟩)
theorem hd_Mo_byName : y_Mo_byName.cls ≠ "java/lang/invoke/MethodHandle" ∧ y_Mo_byName.cls ≠ "java/lang/invoke/VarHandle" ∧ (parseMethodDescriptor y_Mo_byName.desc).map (fun d => d.parameters.length) = some 3 := ⟨by decide, by decide, by decide +kernel⟩
def V_Mo_memberOf (mki : Nat → Int32) (msz : Nat → Int64) (mle : Nat → Int32) (mel : Nat → Int32) (mme : Nat → Int32) (mal : Nat → Int32) (mic : Nat → Int32) (mil : Nat → Int32) (mio : Nat → Int32) (mab : Nat → Int32) (mae : Nat → Int32) (msa : Nat → Int32) (mlc : Nat → Int32) (mli : Nat → Int32) (mna : Nat → Int32) (mva : Nat → Int32) (mma : Nat → Int32) (mch : Nat → Int32) (mre : Nat → Int32) (mlv : Nat → Int32) (mwr : Nat → Int64) (msh : Nat → Int32) (mth : Int32) (mnv : Int32) (mns : Int32) (mfa : Int32) (mmo : Int32) (x : Int32) (y : Int32) (post : Int32 → Prop) : Prop :=
  (vp_in x 40 ∧ ((¬ (mki x.toNatClampNeg) = 5 → post (-1)) ∧ ((mki x.toNatClampNeg) = 5 → (vp_in ((12 * x) + y) 480 ∧ post (mme ((12 * x) + y : Int32).toNatClampNeg)))))
set_option maxHeartbeats 4000000 in
set_option maxRecDepth 100000 in
theorem g_Mo_memberOf {p : Program} {l : Launch} {e : Env} {R : Room} {s : State} {m : MethodId} {args : Array Value} {below : List Frame} {meth : Method} {c : Code} {H : Heap} {locs : List Loc} {cells slots : Nat} {Q : State → Prop} {ls : Array Slot} (S : CallFix p m c b_Mo_memberOf 3 s args W0 R_Mo) (hRf : 0 ≤ R.frames) (hRl : 0 ≤ R.locals) (hRc : cells ≤ R.cells ∧ slots ≤ R.slots) (D : va_G) (b : Nat → Nat) (cI cJ cZ : ClassId) (mki : Nat → Int32) (msz : Nat → Int64) (mle : Nat → Int32) (mel : Nat → Int32) (mme : Nat → Int32) (mal : Nat → Int32) (mic : Nat → Int32) (mil : Nat → Int32) (mio : Nat → Int32) (mab : Nat → Int32) (mae : Nat → Int32) (msa : Nat → Int32) (mlc : Nat → Int32) (mli : Nat → Int32) (mna : Nat → Int32) (mva : Nat → Int32) (mma : Nat → Int32) (mch : Nat → Int32) (mre : Nat → Int32) (mlv : Nat → Int32) (mwr : Nat → Int64) (msh : Nat → Int32) (mth : Int32) (mnv : Int32) (mns : Int32) (mfa : Int32) (mmo : Int32) (x : Int32) (y : Int32) (hK : va_K D vwCl (tyA cI cJ cZ) s) (hP : va_P D vwCl (wM b cI cJ cZ mki msz mle mel mme mal mic mil mio mab mae msa mlc mli mna mva mma mch mre mlv mwr msh mth mnv mns mfa mmo) H) (hl : lv_has ls 3 [(0, .ref (b 0)), (1, .int x), (2, .int y)]) {post : Int32 → Prop} (vc : V_Mo_memberOf mki msz mle mel mme mal mic mil mio mab mae msa mlc mli mna mva mma mch mre mlv mwr msh mth mnv mns mfa mmo x y post)
    (hret : ∀ (v : Int32) (ls : Array Slot) (pc : Nat), decode b_Mo_memberOf pc = .ok (.ireturn, 1) → post v → W p l e R s m args below meth c H locs cells slots Q (F0 m pc ls [.int v])) : W p l e R s m args below meth c H locs cells slots Q (F0 m 0 ls []) := by
  have hx := S.1
  have hb := S.2.1
  have hown := S.2.2.2.1
  have hts := S.2.2.2.2
  unfold V_Mo_memberOf at vc
  refine lv_aload_n hx hb d_Mo_memberOf_0 rfl (lv_at hl 0 rfl) ?_
  refine va_get (D := D) (ci := 6) (v := .ref (b 1)) (C := R_Mo) (T := F_Mo) (N := 27) hx hb hts in_Mo hown hK hP 0 rfl rfl 2 (by decide) (hts _ fl_Mo_7) (fun _ h => h) rfl d_Mo_memberOf_1 ?_
  refine lv_iload_n hx hb d_Mo_memberOf_4 rfl (lv_at hl 1 rfl) ?_
  obtain ⟨vcb, vc⟩ := vc
  refine va_iald hx hb hK hP 1 0 rfl rfl vcb d_Mo_memberOf_5 ?_
  refine lv_iconst (v := 5) hx hb d_Mo_memberOf_6 (by decide) ?_
  refine lv_icmp_ne (tgt := 24) hx hb d_Mo_memberOf_7 (by decide) (fun h => ?_) (fun h => ?_)
  · have vc := vc.1 h
    refine lv_iconst (v := (-1)) hx hb d_Mo_memberOf_24 (by decide) ?_
    exact hret _ ls _ d_Mo_memberOf_25 vc
  · have vc := vc.2 h
    refine lv_aload_n hx hb d_Mo_memberOf_10 rfl (lv_at hl 0 rfl) ?_
    refine va_get (D := D) (ci := 6) (v := .ref (b 5)) (C := R_Mo) (T := F_Mo) (N := 27) hx hb hts in_Mo hown hK hP 0 rfl rfl 6 (by decide) (hts _ fl_Mo_23) (fun _ h => h) rfl d_Mo_memberOf_11 ?_
    refine lv_bipush (v := 12) hx hb d_Mo_memberOf_14 (by decide) ?_
    refine lv_iload_n hx hb d_Mo_memberOf_16 rfl (lv_at hl 1 rfl) ?_
    refine lv_imul hx hb d_Mo_memberOf_17 ?_
    refine lv_iload_n hx hb d_Mo_memberOf_18 rfl (lv_at hl 2 rfl) ?_
    refine lv_iadd hx hb d_Mo_memberOf_19 ?_
    obtain ⟨vcb, vc⟩ := vc
    refine va_iald hx hb hK hP 5 0 rfl rfl vcb d_Mo_memberOf_20 ?_
    refine lv_goto (tgt := 25) hx hb d_Mo_memberOf_21 (by decide) ?_
    exact hret _ ls _ d_Mo_memberOf_25 vc
theorem h_Mo_memberOf (l : Launch) (D : va_G) (b : Nat → Nat) (cI cJ cZ : ClassId) (mki : Nat → Int32) (msz : Nat → Int64) (mle : Nat → Int32) (mel : Nat → Int32) (mme : Nat → Int32) (mal : Nat → Int32) (mic : Nat → Int32) (mil : Nat → Int32) (mio : Nat → Int32) (mab : Nat → Int32) (mae : Nat → Int32) (msa : Nat → Int32) (mlc : Nat → Int32) (mli : Nat → Int32) (mna : Nat → Int32) (mva : Nat → Int32) (mma : Nat → Int32) (mch : Nat → Int32) (mre : Nat → Int32) (mlv : Nat → Int32) (mwr : Nat → Int64) (msh : Nat → Int32) (mth : Int32) (mnv : Int32) (mns : Int32) (mfa : Int32) (mmo : Int32) (x : Int32) (y : Int32) (r : Int32) (vc : V_Mo_memberOf mki msz mle mel mme mal mic mil mio mab mae msa mlc mli mna mva mma mch mre mlv mwr msh mth mnv mns mfa mmo x y (fun v => v = r)) : Pm l y_Mo_memberOf b_Mo_memberOf 3 (some .int) 0 0 [.ref (b 0), .int x, .int y] (wB D (tyA cI cJ cZ) (wM b cI cJ cZ mki msz mle mel mme mal mic mil mio mab mae msa mlc mli mna mva mma mch mre mlv mwr msh mth mnv mns mfa mmo)) (.int r) :=
  pm_i (by decide) rfl (Nat.le_of_ble_eq_true rfl) (fun p e s m below meth c ls Q S hB hl hret => g_Mo_memberOf S (Nat.le_refl _) (Nat.le_refl _) ⟨Nat.le_refl _, Nat.le_refl _⟩ D b cI cJ cZ mki msz mle mel mme mal mic mil mio mab mae msa mlc mli mna mva mma mch mre mlv mwr msh mth mnv mns mfa mmo x y hB.2 hB.1 hl vc hret)
theorem c_Mo_memberOf (l : Launch) (D : va_G) (b : Nat → Nat) (cI cJ cZ : ClassId) (mki : Nat → Int32) (msz : Nat → Int64) (mle : Nat → Int32) (mel : Nat → Int32) (mme : Nat → Int32) (mal : Nat → Int32) (mic : Nat → Int32) (mil : Nat → Int32) (mio : Nat → Int32) (mab : Nat → Int32) (mae : Nat → Int32) (msa : Nat → Int32) (mlc : Nat → Int32) (mli : Nat → Int32) (mna : Nat → Int32) (mva : Nat → Int32) (mma : Nat → Int32) (mch : Nat → Int32) (mre : Nat → Int32) (mlv : Nat → Int32) (mwr : Nat → Int64) (msh : Nat → Int32) (mth : Int32) (mnv : Int32) (mns : Int32) (mfa : Int32) (mmo : Int32) (x : Int32) (y : Int32) (hpre : (vp_in x 40 ∧ vp_in (12 * x + y) 480)) : Pm l y_Mo_memberOf b_Mo_memberOf 3 (some .int) 0 0 [.ref (b 0), .int x, .int y] (wB D (tyA cI cJ cZ) (wM b cI cJ cZ mki msz mle mel mme mal mic mil mio mab mae msa mlc mli mna mva mma mch mre mlv mwr msh mth mnv mns mfa mmo)) (.int (if mki x.toNatClampNeg = 5 then mme (12 * x + y : Int32).toNatClampNeg else -1)) := h_Mo_memberOf l D b cI cJ cZ mki msz mle mel mme mal mic mil mio mab mae msa mlc mli mna mva mma mch mre mlv mwr msh mth mnv mns mfa mmo x y _ (by
  unfold V_Mo_memberOf
  exact ⟨hpre.1, fun h => by simp [h], fun h => ⟨hpre.2, by simp [h]⟩⟩)
theorem hd_Mo_memberOf : y_Mo_memberOf.cls ≠ "java/lang/invoke/MethodHandle" ∧ y_Mo_memberOf.cls ≠ "java/lang/invoke/VarHandle" ∧ (parseMethodDescriptor y_Mo_memberOf.desc).map (fun d => d.parameters.length) = some 2 := ⟨by decide, by decide, by decide +kernel⟩
