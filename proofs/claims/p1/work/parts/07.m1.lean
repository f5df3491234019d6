def wV (a : Nat → Nat) (cI : ClassId) (cJ : ClassId) (ki : Nat → Int32) (co : Nat → Int64) (pr : Nat → Int32) (pa : Nat → Int32) (tw : Nat → Int32) (nv : Int32) (sv : Int32) : va_W :=
  [(a 0, .inr (4, [.ref (a 1), .ref (a 2), .ref (a 3), .ref (a 4), .ref (a 5), .int nv, .int sv])),
   (a 1, .inl (cI, 40, .inl ki)),
   (a 2, .inl (cJ, 40, .inr (.inl co))),
   (a 3, .inl (cI, 40, .inl pr)),
   (a 4, .inl (cI, 480, .inl pa)),
   (a 5, .inl (cI, 40, .inl tw))]
def wP (a : Nat → Nat) (cI : ClassId) (cZ : ClassId) (pn : Nat → Int32) (pl : Nat → Int32) (po : Nat → Int32) (pf : Nat → Int32) (pt : Nat → Int32) : va_W :=
  [(a 6, .inr (1, [.ref (a 7), .ref (a 8), .ref (a 9), .ref (a 10), .ref (a 11)])),
   (a 7, .inl (cI, 8, .inl pn)),
   (a 8, .inl (cI, 48, .inl pl)),
   (a 9, .inl (cI, 48, .inl po)),
   (a 10, .inl (cZ, 8, .inl pf)),
   (a 11, .inl (cZ, 8, .inl pt))]
def wS (a : Nat → Nat) (cI : ClassId) (ru : Nat → Int32) (le : Nat → Int32) (li : Nat → Int32) (bn : Nat → Int32) (ip : Nat → Int32) (aw : Nat → Int32) (ns : Int32) : va_W :=
  [(a 12, .inr (3, [.ref (a 13), .ref (a 14), .ref (a 15), .ref (a 16), .ref (a 17), .ref (a 18), .int ns])),
   (a 13, .inl (cI, 696, .inl ru)),
   (a 14, .inl (cI, 96, .inl le)),
   (a 15, .inl (cI, 288, .inl li)),
   (a 16, .inl (cI, 864, .inl bn)),
   (a 17, .inl (cI, 24, .inl ip)),
   (a 18, .inl (cI, 24, .inl aw))]
def wL (a : Nat → Nat)  : va_W :=
  [(a 19, .inr (2, [.ref (a 0), .ref (a 6)]))]
def wJ (a : Nat → Nat) (cI : ClassId) (cJ : ClassId) (ch : Nat → Int32) (ma : Nat → Int32) (br : Nat → Int64) (tl : Int32) : va_W :=
  [(a 20, .inr (0, [.ref (a 0), .ref (a 12), .ref (a 19), .ref (a 21), .ref (a 22), .ref (a 23), .int tl])),
   (a 21, .inl (cI, 960, .inl ch)),
   (a 22, .inl (cI, 960, .inl ma)),
   (a 23, .inl (cJ, 960, .inr (.inl br)))]
def wX (a : Nat → Nat)  : va_W :=
  [(a 24, .inr (5, [.ref (a 0), .ref (a 6), .ref (a 12), .ref (a 20)]))]
def wM (b : Nat → Nat) (cI : ClassId) (cJ : ClassId) (cZ : ClassId) (mki : Nat → Int32) (msz : Nat → Int64) (mle : Nat → Int32) (mel : Nat → Int32) (mme : Nat → Int32) (mal : Nat → Int32) (mic : Nat → Int32) (mil : Nat → Int32) (mio : Nat → Int32) (mab : Nat → Int32) (mae : Nat → Int32) (msa : Nat → Int32) (mlc : Nat → Int32) (mli : Nat → Int32) (mna : Nat → Int32) (mva : Nat → Int32) (mma : Nat → Int32) (mch : Nat → Int32) (mre : Nat → Int32) (mlv : Nat → Int32) (mwr : Nat → Int64) (msh : Nat → Int32) (mth : Int32) (mnv : Int32) (mns : Int32) (mfa : Int32) (mmo : Int32) : va_W :=
  [(b 0, .inr (6, [.int mth, .int mnv, .ref (b 1), .ref (b 2), .ref (b 3), .ref (b 4), .ref (b 5), .ref (b 6), .ref (b 7), .ref (b 8), .ref (b 9), .ref (b 10), .ref (b 11), .int mns, .ref (b 12), .ref (b 13), .ref (b 14), .ref (b 15), .ref (b 16), .ref (b 17), .ref (b 18), .ref (b 19), .ref (b 20), .int mfa, .ref (b 21), .ref (b 22), .int mmo])),
   (b 1, .inl (cI, 40, .inl mki)),
   (b 2, .inl (cJ, 40, .inr (.inl msz))),
   (b 3, .inl (cI, 40, .inl mle)),
   (b 4, .inl (cI, 320, .inl mel)),
   (b 5, .inl (cI, 480, .inl mme)),
   (b 6, .inl (cI, 40, .inl mal)),
   (b 7, .inl (cI, 8, .inl mic)),
   (b 8, .inl (cI, 48, .inl mil)),
   (b 9, .inl (cI, 48, .inl mio)),
   (b 10, .inl (cZ, 8, .inl mab)),
   (b 11, .inl (cZ, 8, .inl mae)),
   (b 12, .inl (cI, 696, .inl msa)),
   (b 13, .inl (cI, 96, .inl mlc)),
   (b 14, .inl (cI, 288, .inl mli)),
   (b 15, .inl (cI, 864, .inl mna)),
   (b 16, .inl (cZ, 960, .inl mva)),
   (b 17, .inl (cI, 960, .inl mma)),
   (b 18, .inl (cI, 960, .inl mch)),
   (b 19, .inl (cZ, 24, .inl mre)),
   (b 20, .inl (cI, 24, .inl mlv)),
   (b 21, .inl (cJ, 960, .inr (.inl mwr))),
   (b 22, .inl (cI, 960, .inl msh))]
def sHas (n x : Int32) : Bool := decide (¬ x < 0 ∧ x < n)
def sKind (ki : Nat → Int32) (n x k : Int32) : Bool := sHas n x && decide (ki x.toNatClampNeg = k)
def sFull40 (n : Int32) : Bool := decide (40 ≤ n)
theorem i_nn {x : Int32} (h : ¬ x < 0) : 0 ≤ x.toInt := by
  have := Int32.le_iff_toInt_le.mp (Int32.not_lt.mp h)
  simpa using this
theorem vp_lt {n x : Int32} {N : Nat} (hn : n.toInt ≤ N) (h0 : ¬ x < 0) (h1 : x < n) : vp_in x N := by
  rw [vp_in_iff]
  have b := Int32.lt_iff_toInt_lt.mp h1
  have c := i_nn h0
  omega
theorem vp_has {n x : Int32} (hn : n ≤ 40) (h : sHas n x = true) : vp_in x 40 := by
  simp only [sHas, decide_eq_true_eq] at h
  exact vp_lt (Int32.le_iff_toInt_le.mp hn) h.1 h.2

def V_Va_has (ki : Nat → Int32) (co : Nat → Int64) (pr : Nat → Int32) (pa : Nat → Int32) (tw : Nat → Int32) (nv : Int32) (sv : Int32) (x : Int32) (post : Int32 → Prop) : Prop :=
  ((x < 0 → post 0) ∧ (¬ x < 0 → ((nv ≤ x → post 0) ∧ (¬ nv ≤ x → post 1))))
set_option maxHeartbeats 4000000 in
set_option maxRecDepth 100000 in
theorem g_Va_has {p : Program} {l : Launch} {e : Env} {R : Room} {s : State} {m : MethodId} {args : Array Value} {below : List Frame} {meth : Method} {c : Code} {H : Heap} {locs : List Loc} {cells slots : Nat} {Q : State → Prop} {ls : Array Slot} (S : CallFix p m c b_Va_has 2 s args W0 R_Va) (hRf : 0 ≤ R.frames) (hRl : 0 ≤ R.locals) (hRc : cells ≤ R.cells ∧ slots ≤ R.slots) (D : va_G) (a : Nat → Nat) (cI cJ cZ : ClassId) (ki : Nat → Int32) (co : Nat → Int64) (pr : Nat → Int32) (pa : Nat → Int32) (tw : Nat → Int32) (nv : Int32) (sv : Int32) (x : Int32) (hK : va_K D vwCl (tyA cI cJ cZ) s) (hP : va_P D vwCl (wV a cI cJ ki co pr pa tw nv sv) H) (hl : lv_has ls 2 [(0, .ref (a 0)), (1, .int x)]) {post : Int32 → Prop} (vc : V_Va_has ki co pr pa tw nv sv x post)
    (hret : ∀ (v : Int32) (ls : Array Slot) (pc : Nat), decode b_Va_has pc = .ok (.ireturn, 1) → post v → W p l e R s m args below meth c H locs cells slots Q (F0 m pc ls [.int v])) : W p l e R s m args below meth c H locs cells slots Q (F0 m 0 ls []) := by
  have hx := S.1
  have hb := S.2.1
  have hown := S.2.2.2.1
  have hts := S.2.2.2.2
  unfold V_Va_has at vc
  refine lv_iload_n hx hb d_Va_has_0 rfl (lv_at hl 1 rfl) ?_
  refine lv_if_lt (tgt := 16) hx hb d_Va_has_1 (by decide) (fun h => ?_) (fun h => ?_)
  · have vc := vc.1 h
    refine lv_iconst (v := 0) hx hb d_Va_has_16 (by decide) ?_
    exact hret _ ls _ d_Va_has_17 vc
  · have vc := vc.2 h
    refine lv_iload_n hx hb d_Va_has_4 rfl (lv_at hl 1 rfl) ?_
    refine lv_aload_n hx hb d_Va_has_5 rfl (lv_at hl 0 rfl) ?_
    refine va_get (D := D) (ci := 4) (v := .int nv) (C := R_Va) (T := F_Va) (N := 7) hx hb hts in_Va hown hK hP 0 rfl rfl 5 (by decide) (hts _ fl_Va_26) (fun _ h => h) rfl d_Va_has_6 ?_
    refine lv_icmp_ge (tgt := 16) hx hb d_Va_has_9 (by decide) (fun h => ?_) (fun h => ?_)
    · have vc := vc.1 h
      refine lv_iconst (v := 0) hx hb d_Va_has_16 (by decide) ?_
      exact hret _ ls _ d_Va_has_17 vc
    · have vc := vc.2 h
      refine lv_iconst (v := 1) hx hb d_Va_has_12 (by decide) ?_
      refine lv_goto (tgt := 17) hx hb d_Va_has_13 (by decide) ?_
      exact hret _ ls _ d_Va_has_17 vc
theorem h_Va_has (l : Launch) (D : va_G) (a : Nat → Nat) (cI cJ cZ : ClassId) (ki : Nat → Int32) (co : Nat → Int64) (pr : Nat → Int32) (pa : Nat → Int32) (tw : Nat → Int32) (nv : Int32) (sv : Int32) (x : Int32) (r : Int32) (hr : narrow .boolean (.int r) = .int r) (vc : V_Va_has ki co pr pa tw nv sv x (fun v => v = r)) : Pm l y_Va_has b_Va_has 2 (some .boolean) 0 0 [.ref (a 0), .int x] (wB D (tyA cI cJ cZ) (wV a cI cJ ki co pr pa tw nv sv)) (.int r) :=
  pm_i (by decide) hr (Nat.le_of_ble_eq_true rfl) (fun p e s m below meth c ls Q S hB hl hret => g_Va_has S (Nat.le_refl _) (Nat.le_refl _) ⟨Nat.le_refl _, Nat.le_refl _⟩ D a cI cJ cZ ki co pr pa tw nv sv x hB.2 hB.1 hl vc hret)
theorem c_Va_has (l : Launch) (D : va_G) (a : Nat → Nat) (cI cJ cZ : ClassId) (ki : Nat → Int32) (co : Nat → Int64) (pr : Nat → Int32) (pa : Nat → Int32) (tw : Nat → Int32) (nv : Int32) (sv : Int32) (x : Int32) : Pm l y_Va_has b_Va_has 2 (some .boolean) 0 0 [.ref (a 0), .int x] (wB D (tyA cI cJ cZ) (wV a cI cJ ki co pr pa tw nv sv)) (.int (bI (sHas nv x))) := h_Va_has l D a cI cJ cZ ki co pr pa tw nv sv x _ (bI_nar _) (by
  unfold V_Va_has
  refine ⟨fun h => ?_, fun h => ⟨fun h2 => ?_, fun h2 => ?_⟩⟩ <;> simp_all [bI, sHas, sKind, sFull40])
theorem hd_Va_has : y_Va_has.cls ≠ "java/lang/invoke/MethodHandle" ∧ y_Va_has.cls ≠ "java/lang/invoke/VarHandle" ∧ (parseMethodDescriptor y_Va_has.desc).map (fun d => d.parameters.length) = some 1 := ⟨by decide, by decide, by decide +kernel⟩
def V_Va_areFull (ki : Nat → Int32) (co : Nat → Int64) (pr : Nat → Int32) (pa : Nat → Int32) (tw : Nat → Int32) (nv : Int32) (sv : Int32) (post : Int32 → Prop) : Prop :=
  ((nv < 40 → post 0) ∧ (¬ nv < 40 → post 1))
set_option maxHeartbeats 4000000 in
set_option maxRecDepth 100000 in
theorem g_Va_areFull {p : Program} {l : Launch} {e : Env} {R : Room} {s : State} {m : MethodId} {args : Array Value} {below : List Frame} {meth : Method} {c : Code} {H : Heap} {locs : List Loc} {cells slots : Nat} {Q : State → Prop} {ls : Array Slot} (S : CallFix p m c b_Va_areFull 1 s args W0 R_Va) (hRf : 0 ≤ R.frames) (hRl : 0 ≤ R.locals) (hRc : cells ≤ R.cells ∧ slots ≤ R.slots) (D : va_G) (a : Nat → Nat) (cI cJ cZ : ClassId) (ki : Nat → Int32) (co : Nat → Int64) (pr : Nat → Int32) (pa : Nat → Int32) (tw : Nat → Int32) (nv : Int32) (sv : Int32) (hK : va_K D vwCl (tyA cI cJ cZ) s) (hP : va_P D vwCl (wV a cI cJ ki co pr pa tw nv sv) H) (hl : lv_has ls 1 [(0, .ref (a 0))]) {post : Int32 → Prop} (vc : V_Va_areFull ki co pr pa tw nv sv post)
    (hret : ∀ (v : Int32) (ls : Array Slot) (pc : Nat), decode b_Va_areFull pc = .ok (.ireturn, 1) → post v → W p l e R s m args below meth c H locs cells slots Q (F0 m pc ls [.int v])) : W p l e R s m args below meth c H locs cells slots Q (F0 m 0 ls []) := by
  have hx := S.1
  have hb := S.2.1
  have hown := S.2.2.2.1
  have hts := S.2.2.2.2
  unfold V_Va_areFull at vc
  refine lv_aload_n hx hb d_Va_areFull_0 rfl (lv_at hl 0 rfl) ?_
  refine va_get (D := D) (ci := 4) (v := .int nv) (C := R_Va) (T := F_Va) (N := 7) hx hb hts in_Va hown hK hP 0 rfl rfl 5 (by decide) (hts _ fl_Va_26) (fun _ h => h) rfl d_Va_areFull_1 ?_
  refine lv_bipush (v := 40) hx hb d_Va_areFull_4 (by decide) ?_
  refine lv_icmp_lt (tgt := 13) hx hb d_Va_areFull_6 (by decide) (fun h => ?_) (fun h => ?_)
  · have vc := vc.1 h
    refine lv_iconst (v := 0) hx hb d_Va_areFull_13 (by decide) ?_
    exact hret _ ls _ d_Va_areFull_14 vc
  · have vc := vc.2 h
    refine lv_iconst (v := 1) hx hb d_Va_areFull_9 (by decide) ?_
    refine lv_goto (tgt := 14) hx hb d_Va_areFull_10 (by decide) ?_
    exact hret _ ls _ d_Va_areFull_14 vc
theorem h_Va_areFull (l : Launch) (D : va_G) (a : Nat → Nat) (cI cJ cZ : ClassId) (ki : Nat → Int32) (co : Nat → Int64) (pr : Nat → Int32) (pa : Nat → Int32) (tw : Nat → Int32) (nv : Int32) (sv : Int32) (r : Int32) (hr : narrow .boolean (.int r) = .int r) (vc : V_Va_areFull ki co pr pa tw nv sv (fun v => v = r)) : Pm l y_Va_areFull b_Va_areFull 1 (some .boolean) 0 0 [.ref (a 0)] (wB D (tyA cI cJ cZ) (wV a cI cJ ki co pr pa tw nv sv)) (.int r) :=
  pm_i (by decide) hr (Nat.le_of_ble_eq_true rfl) (fun p e s m below meth c ls Q S hB hl hret => g_Va_areFull S (Nat.le_refl _) (Nat.le_refl _) ⟨Nat.le_refl _, Nat.le_refl _⟩ D a cI cJ cZ ki co pr pa tw nv sv hB.2 hB.1 hl vc hret)
theorem c_Va_areFull (l : Launch) (D : va_G) (a : Nat → Nat) (cI cJ cZ : ClassId) (ki : Nat → Int32) (co : Nat → Int64) (pr : Nat → Int32) (pa : Nat → Int32) (tw : Nat → Int32) (nv : Int32) (sv : Int32) : Pm l y_Va_areFull b_Va_areFull 1 (some .boolean) 0 0 [.ref (a 0)] (wB D (tyA cI cJ cZ) (wV a cI cJ ki co pr pa tw nv sv)) (.int (bI (sFull40 nv))) := h_Va_areFull l D a cI cJ cZ ki co pr pa tw nv sv _ (bI_nar _) (by
  unfold V_Va_areFull
  refine ⟨fun h => ?_, fun h => ?_⟩ <;> simp_all [bI, sHas, sKind, sFull40])
theorem hd_Va_areFull : y_Va_areFull.cls ≠ "java/lang/invoke/MethodHandle" ∧ y_Va_areFull.cls ≠ "java/lang/invoke/VarHandle" ∧ (parseMethodDescriptor y_Va_areFull.desc).map (fun d => d.parameters.length) = some 0 := ⟨by decide, by decide, by decide +kernel⟩
def V_Va_kindOf (ki : Nat → Int32) (co : Nat → Int64) (pr : Nat → Int32) (pa : Nat → Int32) (tw : Nat → Int32) (nv : Int32) (sv : Int32) (x : Int32) (post : Int32 → Prop) : Prop :=
  (vp_in x 40 ∧ post (ki x.toNatClampNeg))
set_option maxHeartbeats 4000000 in
set_option maxRecDepth 100000 in
theorem g_Va_kindOf {p : Program} {l : Launch} {e : Env} {R : Room} {s : State} {m : MethodId} {args : Array Value} {below : List Frame} {meth : Method} {c : Code} {H : Heap} {locs : List Loc} {cells slots : Nat} {Q : State → Prop} {ls : Array Slot} (S : CallFix p m c b_Va_kindOf 2 s args W0 R_Va) (hRf : 0 ≤ R.frames) (hRl : 0 ≤ R.locals) (hRc : cells ≤ R.cells ∧ slots ≤ R.slots) (D : va_G) (a : Nat → Nat) (cI cJ cZ : ClassId) (ki : Nat → Int32) (co : Nat → Int64) (pr : Nat → Int32) (pa : Nat → Int32) (tw : Nat → Int32) (nv : Int32) (sv : Int32) (x : Int32) (hK : va_K D vwCl (tyA cI cJ cZ) s) (hP : va_P D vwCl (wV a cI cJ ki co pr pa tw nv sv) H) (hl : lv_has ls 2 [(0, .ref (a 0)), (1, .int x)]) {post : Int32 → Prop} (vc : V_Va_kindOf ki co pr pa tw nv sv x post)
    (hret : ∀ (v : Int32) (ls : Array Slot) (pc : Nat), decode b_Va_kindOf pc = .ok (.ireturn, 1) → post v → W p l e R s m args below meth c H locs cells slots Q (F0 m pc ls [.int v])) : W p l e R s m args below meth c H locs cells slots Q (F0 m 0 ls []) := by
  have hx := S.1
  have hb := S.2.1
  have hown := S.2.2.2.1
  have hts := S.2.2.2.2
  unfold V_Va_kindOf at vc
  refine lv_aload_n hx hb d_Va_kindOf_0 rfl (lv_at hl 0 rfl) ?_
  refine va_get (D := D) (ci := 4) (v := .ref (a 1)) (C := R_Va) (T := F_Va) (N := 7) hx hb hts in_Va hown hK hP 0 rfl rfl 0 (by decide) (hts _ fl_Va_9) (fun _ h => h) rfl d_Va_kindOf_1 ?_
  refine lv_iload_n hx hb d_Va_kindOf_4 rfl (lv_at hl 1 rfl) ?_
  obtain ⟨vcb, vc⟩ := vc
  refine va_iald hx hb hK hP 1 0 rfl rfl vcb d_Va_kindOf_5 ?_
  exact hret _ ls _ d_Va_kindOf_6 vc
theorem h_Va_kindOf (l : Launch) (D : va_G) (a : Nat → Nat) (cI cJ cZ : ClassId) (ki : Nat → Int32) (co : Nat → Int64) (pr : Nat → Int32) (pa : Nat → Int32) (tw : Nat → Int32) (nv : Int32) (sv : Int32) (x : Int32) (r : Int32) (vc : V_Va_kindOf ki co pr pa tw nv sv x (fun v => v = r)) : Pm l y_Va_kindOf b_Va_kindOf 2 (some .int) 0 0 [.ref (a 0), .int x] (wB D (tyA cI cJ cZ) (wV a cI cJ ki co pr pa tw nv sv)) (.int r) :=
  pm_i (by decide) rfl (Nat.le_of_ble_eq_true rfl) (fun p e s m below meth c ls Q S hB hl hret => g_Va_kindOf S (Nat.le_refl _) (Nat.le_refl _) ⟨Nat.le_refl _, Nat.le_refl _⟩ D a cI cJ cZ ki co pr pa tw nv sv x hB.2 hB.1 hl vc hret)
theorem c_Va_kindOf (l : Launch) (D : va_G) (a : Nat → Nat) (cI cJ cZ : ClassId) (ki : Nat → Int32) (co : Nat → Int64) (pr : Nat → Int32) (pa : Nat → Int32) (tw : Nat → Int32) (nv : Int32) (sv : Int32) (x : Int32) (hpre : vp_in x 40) : Pm l y_Va_kindOf b_Va_kindOf 2 (some .int) 0 0 [.ref (a 0), .int x] (wB D (tyA cI cJ cZ) (wV a cI cJ ki co pr pa tw nv sv)) (.int (ki x.toNatClampNeg)) := h_Va_kindOf l D a cI cJ cZ ki co pr pa tw nv sv x _ (by
  unfold V_Va_kindOf
  exact ⟨hpre, rfl⟩)
theorem hd_Va_kindOf : y_Va_kindOf.cls ≠ "java/lang/invoke/MethodHandle" ∧ y_Va_kindOf.cls ≠ "java/lang/invoke/VarHandle" ∧ (parseMethodDescriptor y_Va_kindOf.desc).map (fun d => d.parameters.length) = some 1 := ⟨by decide, by decide, by decide +kernel⟩
def V_Va_coreOf (ki : Nat → Int32) (co : Nat → Int64) (pr : Nat → Int32) (pa : Nat → Int32) (tw : Nat → Int32) (nv : Int32) (sv : Int32) (x : Int32) (post : Int64 → Prop) : Prop :=
  (vp_in x 40 ∧ post (co x.toNatClampNeg))
set_option maxHeartbeats 4000000 in
set_option maxRecDepth 100000 in
theorem g_Va_coreOf {p : Program} {l : Launch} {e : Env} {R : Room} {s : State} {m : MethodId} {args : Array Value} {below : List Frame} {meth : Method} {c : Code} {H : Heap} {locs : List Loc} {cells slots : Nat} {Q : State → Prop} {ls : Array Slot} (S : CallFix p m c b_Va_coreOf 2 s args W0 R_Va) (hRf : 0 ≤ R.frames) (hRl : 0 ≤ R.locals) (hRc : cells ≤ R.cells ∧ slots ≤ R.slots) (D : va_G) (a : Nat → Nat) (cI cJ cZ : ClassId) (ki : Nat → Int32) (co : Nat → Int64) (pr : Nat → Int32) (pa : Nat → Int32) (tw : Nat → Int32) (nv : Int32) (sv : Int32) (x : Int32) (hK : va_K D vwCl (tyA cI cJ cZ) s) (hP : va_P D vwCl (wV a cI cJ ki co pr pa tw nv sv) H) (hl : lv_has ls 2 [(0, .ref (a 0)), (1, .int x)]) {post : Int64 → Prop} (vc : V_Va_coreOf ki co pr pa tw nv sv x post)
    (hret : ∀ (v : Int64) (ls : Array Slot) (pc : Nat), decode b_Va_coreOf pc = .ok (.lreturn, 1) → post v → W p l e R s m args below meth c H locs cells slots Q (F0 m pc ls [.long v])) : W p l e R s m args below meth c H locs cells slots Q (F0 m 0 ls []) := by
  have hx := S.1
  have hb := S.2.1
  have hown := S.2.2.2.1
  have hts := S.2.2.2.2
  unfold V_Va_coreOf at vc
  refine lv_aload_n hx hb d_Va_coreOf_0 rfl (lv_at hl 0 rfl) ?_
  refine va_get (D := D) (ci := 4) (v := .ref (a 2)) (C := R_Va) (T := F_Va) (N := 7) hx hb hts in_Va hown hK hP 0 rfl rfl 1 (by decide) (hts _ fl_Va_13) (fun _ h => h) rfl d_Va_coreOf_1 ?_
  refine lv_iload_n hx hb d_Va_coreOf_4 rfl (lv_at hl 1 rfl) ?_
  obtain ⟨vcb, vc⟩ := vc
  refine va_lald hx hb hK hP 2 1 rfl rfl vcb d_Va_coreOf_5 ?_
  exact hret _ ls _ d_Va_coreOf_6 vc
theorem h_Va_coreOf (l : Launch) (D : va_G) (a : Nat → Nat) (cI cJ cZ : ClassId) (ki : Nat → Int32) (co : Nat → Int64) (pr : Nat → Int32) (pa : Nat → Int32) (tw : Nat → Int32) (nv : Int32) (sv : Int32) (x : Int32) (r : Int64) (vc : V_Va_coreOf ki co pr pa tw nv sv x (fun v => v = r)) : Pm l y_Va_coreOf b_Va_coreOf 2 (some .long) 0 0 [.ref (a 0), .int x] (wB D (tyA cI cJ cZ) (wV a cI cJ ki co pr pa tw nv sv)) (.long r) :=
  pm_l (by decide) (Nat.le_of_ble_eq_true rfl) (fun p e s m below meth c ls Q S hB hl hret => g_Va_coreOf S (Nat.le_refl _) (Nat.le_refl _) ⟨Nat.le_refl _, Nat.le_refl _⟩ D a cI cJ cZ ki co pr pa tw nv sv x hB.2 hB.1 hl vc hret)
theorem c_Va_coreOf (l : Launch) (D : va_G) (a : Nat → Nat) (cI cJ cZ : ClassId) (ki : Nat → Int32) (co : Nat → Int64) (pr : Nat → Int32) (pa : Nat → Int32) (tw : Nat → Int32) (nv : Int32) (sv : Int32) (x : Int32) (hpre : vp_in x 40) : Pm l y_Va_coreOf b_Va_coreOf 2 (some .long) 0 0 [.ref (a 0), .int x] (wB D (tyA cI cJ cZ) (wV a cI cJ ki co pr pa tw nv sv)) (.long (co x.toNatClampNeg)) := h_Va_coreOf l D a cI cJ cZ ki co pr pa tw nv sv x _ (by
  unfold V_Va_coreOf
  exact ⟨hpre, rfl⟩)
theorem hd_Va_coreOf : y_Va_coreOf.cls ≠ "java/lang/invoke/MethodHandle" ∧ y_Va_coreOf.cls ≠ "java/lang/invoke/VarHandle" ∧ (parseMethodDescriptor y_Va_coreOf.desc).map (fun d => d.parameters.length) = some 1 := ⟨by decide, by decide, by decide +kernel⟩
def V_Va_presentIn (ki : Nat → Int32) (co : Nat → Int64) (pr : Nat → Int32) (pa : Nat → Int32) (tw : Nat → Int32) (nv : Int32) (sv : Int32) (x : Int32) (post : Int32 → Prop) : Prop :=
  (vp_in x 40 ∧ post (pr x.toNatClampNeg))
set_option maxHeartbeats 4000000 in
set_option maxRecDepth 100000 in
theorem g_Va_presentIn {p : Program} {l : Launch} {e : Env} {R : Room} {s : State} {m : MethodId} {args : Array Value} {below : List Frame} {meth : Method} {c : Code} {H : Heap} {locs : List Loc} {cells slots : Nat} {Q : State → Prop} {ls : Array Slot} (S : CallFix p m c b_Va_presentIn 2 s args W0 R_Va) (hRf : 0 ≤ R.frames) (hRl : 0 ≤ R.locals) (hRc : cells ≤ R.cells ∧ slots ≤ R.slots) (D : va_G) (a : Nat → Nat) (cI cJ cZ : ClassId) (ki : Nat → Int32) (co : Nat → Int64) (pr : Nat → Int32) (pa : Nat → Int32) (tw : Nat → Int32) (nv : Int32) (sv : Int32) (x : Int32) (hK : va_K D vwCl (tyA cI cJ cZ) s) (hP : va_P D vwCl (wV a cI cJ ki co pr pa tw nv sv) H) (hl : lv_has ls 2 [(0, .ref (a 0)), (1, .int x)]) {post : Int32 → Prop} (vc : V_Va_presentIn ki co pr pa tw nv sv x post)
    (hret : ∀ (v : Int32) (ls : Array Slot) (pc : Nat), decode b_Va_presentIn pc = .ok (.ireturn, 1) → post v → W p l e R s m args below meth c H locs cells slots Q (F0 m pc ls [.int v])) : W p l e R s m args below meth c H locs cells slots Q (F0 m 0 ls []) := by
  have hx := S.1
  have hb := S.2.1
  have hown := S.2.2.2.1
  have hts := S.2.2.2.2
  unfold V_Va_presentIn at vc
  refine lv_aload_n hx hb d_Va_presentIn_0 rfl (lv_at hl 0 rfl) ?_
  refine va_get (D := D) (ci := 4) (v := .ref (a 3)) (C := R_Va) (T := F_Va) (N := 7) hx hb hts in_Va hown hK hP 0 rfl rfl 2 (by decide) (hts _ fl_Va_17) (fun _ h => h) rfl d_Va_presentIn_1 ?_
  refine lv_iload_n hx hb d_Va_presentIn_4 rfl (lv_at hl 1 rfl) ?_
  obtain ⟨vcb, vc⟩ := vc
  refine va_iald hx hb hK hP 3 0 rfl rfl vcb d_Va_presentIn_5 ?_
  exact hret _ ls _ d_Va_presentIn_6 vc
theorem h_Va_presentIn (l : Launch) (D : va_G) (a : Nat → Nat) (cI cJ cZ : ClassId) (ki : Nat → Int32) (co : Nat → Int64) (pr : Nat → Int32) (pa : Nat → Int32) (tw : Nat → Int32) (nv : Int32) (sv : Int32) (x : Int32) (r : Int32) (vc : V_Va_presentIn ki co pr pa tw nv sv x (fun v => v = r)) : Pm l y_Va_presentIn b_Va_presentIn 2 (some .int) 0 0 [.ref (a 0), .int x] (wB D (tyA cI cJ cZ) (wV a cI cJ ki co pr pa tw nv sv)) (.int r) :=
  pm_i (by decide) rfl (Nat.le_of_ble_eq_true rfl) (fun p e s m below meth c ls Q S hB hl hret => g_Va_presentIn S (Nat.le_refl _) (Nat.le_refl _) ⟨Nat.le_refl _, Nat.le_refl _⟩ D a cI cJ cZ ki co pr pa tw nv sv x hB.2 hB.1 hl vc hret)
theorem c_Va_presentIn (l : Launch) (D : va_G) (a : Nat → Nat) (cI cJ cZ : ClassId) (ki : Nat → Int32) (co : Nat → Int64) (pr : Nat → Int32) (pa : Nat → Int32) (tw : Nat → Int32) (nv : Int32) (sv : Int32) (x : Int32) (hpre : vp_in x 40) : Pm l y_Va_presentIn b_Va_presentIn 2 (some .int) 0 0 [.ref (a 0), .int x] (wB D (tyA cI cJ cZ) (wV a cI cJ ki co pr pa tw nv sv)) (.int (pr x.toNatClampNeg)) := h_Va_presentIn l D a cI cJ cZ ki co pr pa tw nv sv x _ (by
  unfold V_Va_presentIn
  exact ⟨hpre, rfl⟩)
theorem hd_Va_presentIn : y_Va_presentIn.cls ≠ "java/lang/invoke/MethodHandle" ∧ y_Va_presentIn.cls ≠ "java/lang/invoke/VarHandle" ∧ (parseMethodDescriptor y_Va_presentIn.desc).map (fun d => d.parameters.length) = some 1 := ⟨by decide, by decide, by decide +kernel⟩
def V_Va_partOf (ki : Nat → Int32) (co : Nat → Int64) (pr : Nat → Int32) (pa : Nat → Int32) (tw : Nat → Int32) (nv : Int32) (sv : Int32) (x : Int32) (i : Int32) (post : Int32 → Prop) : Prop :=
  (vp_in ((x * 12) + i) 480 ∧ post (pa ((x * 12) + i : Int32).toNatClampNeg))
set_option maxHeartbeats 4000000 in
set_option maxRecDepth 100000 in
theorem g_Va_partOf {p : Program} {l : Launch} {e : Env} {R : Room} {s : State} {m : MethodId} {args : Array Value} {below : List Frame} {meth : Method} {c : Code} {H : Heap} {locs : List Loc} {cells slots : Nat} {Q : State → Prop} {ls : Array Slot} (S : CallFix p m c b_Va_partOf 3 s args W0 R_Va) (hRf : 0 ≤ R.frames) (hRl : 0 ≤ R.locals) (hRc : cells ≤ R.cells ∧ slots ≤ R.slots) (D : va_G) (a : Nat → Nat) (cI cJ cZ : ClassId) (ki : Nat → Int32) (co : Nat → Int64) (pr : Nat → Int32) (pa : Nat → Int32) (tw : Nat → Int32) (nv : Int32) (sv : Int32) (x : Int32) (i : Int32) (hK : va_K D vwCl (tyA cI cJ cZ) s) (hP : va_P D vwCl (wV a cI cJ ki co pr pa tw nv sv) H) (hl : lv_has ls 3 [(0, .ref (a 0)), (1, .int x), (2, .int i)]) {post : Int32 → Prop} (vc : V_Va_partOf ki co pr pa tw nv sv x i post)
    (hret : ∀ (v : Int32) (ls : Array Slot) (pc : Nat), decode b_Va_partOf pc = .ok (.ireturn, 1) → post v → W p l e R s m args below meth c H locs cells slots Q (F0 m pc ls [.int v])) : W p l e R s m args below meth c H locs cells slots Q (F0 m 0 ls []) := by
  have hx := S.1
  have hb := S.2.1
  have hown := S.2.2.2.1
  have hts := S.2.2.2.2
  unfold V_Va_partOf at vc
  refine lv_aload_n hx hb d_Va_partOf_0 rfl (lv_at hl 0 rfl) ?_
  refine va_get (D := D) (ci := 4) (v := .ref (a 4)) (C := R_Va) (T := F_Va) (N := 7) hx hb hts in_Va hown hK hP 0 rfl rfl 3 (by decide) (hts _ fl_Va_20) (fun _ h => h) rfl d_Va_partOf_1 ?_
  refine lv_iload_n hx hb d_Va_partOf_4 rfl (lv_at hl 1 rfl) ?_
  refine lv_bipush (v := 12) hx hb d_Va_partOf_5 (by decide) ?_
  refine lv_imul hx hb d_Va_partOf_7 ?_
  refine lv_iload_n hx hb d_Va_partOf_8 rfl (lv_at hl 2 rfl) ?_
  refine lv_iadd hx hb d_Va_partOf_9 ?_
  obtain ⟨vcb, vc⟩ := vc
  refine va_iald hx hb hK hP 4 0 rfl rfl vcb d_Va_partOf_10 ?_
  exact hret _ ls _ d_Va_partOf_11 vc
theorem h_Va_partOf (l : Launch) (D : va_G) (a : Nat → Nat) (cI cJ cZ : ClassId) (ki : Nat → Int32) (co : Nat → Int64) (pr : Nat → Int32) (pa : Nat → Int32) (tw : Nat → Int32) (nv : Int32) (sv : Int32) (x : Int32) (i : Int32) (r : Int32) (vc : V_Va_partOf ki co pr pa tw nv sv x i (fun v => v = r)) : Pm l y_Va_partOf b_Va_partOf 3 (some .int) 0 0 [.ref (a 0), .int x, .int i] (wB D (tyA cI cJ cZ) (wV a cI cJ ki co pr pa tw nv sv)) (.int r) :=
  pm_i (by decide) rfl (Nat.le_of_ble_eq_true rfl) (fun p e s m below meth c ls Q S hB hl hret => g_Va_partOf S (Nat.le_refl _) (Nat.le_refl _) ⟨Nat.le_refl _, Nat.le_refl _⟩ D a cI cJ cZ ki co pr pa tw nv sv x i hB.2 hB.1 hl vc hret)
theorem c_Va_partOf (l : Launch) (D : va_G) (a : Nat → Nat) (cI cJ cZ : ClassId) (ki : Nat → Int32) (co : Nat → Int64) (pr : Nat → Int32) (pa : Nat → Int32) (tw : Nat → Int32) (nv : Int32) (sv : Int32) (x : Int32) (i : Int32) (hpre : vp_in (x * 12 + i) 480) : Pm l y_Va_partOf b_Va_partOf 3 (some .int) 0 0 [.ref (a 0), .int x, .int i] (wB D (tyA cI cJ cZ) (wV a cI cJ ki co pr pa tw nv sv)) (.int (pa (x * 12 + i : Int32).toNatClampNeg)) := h_Va_partOf l D a cI cJ cZ ki co pr pa tw nv sv x i _ (by
  unfold V_Va_partOf
  exact ⟨hpre, rfl⟩)
theorem hd_Va_partOf : y_Va_partOf.cls ≠ "java/lang/invoke/MethodHandle" ∧ y_Va_partOf.cls ≠ "java/lang/invoke/VarHandle" ∧ (parseMethodDescriptor y_Va_partOf.desc).map (fun d => d.parameters.length) = some 2 := ⟨by decide, by decide, by decide +kernel⟩
def V_Va_isOfKind (ki : Nat → Int32) (co : Nat → Int64) (pr : Nat → Int32) (pa : Nat → Int32) (tw : Nat → Int32) (nv : Int32) (sv : Int32) (x : Int32) (k : Int32) (post : Int32 → Prop) : Prop :=
  (((bI (sHas nv x)) = 0 → post 0) ∧ (¬ (bI (sHas nv x)) = 0 → (vp_in x 40 ∧ ((¬ (ki x.toNatClampNeg) = k → post 0) ∧ ((ki x.toNatClampNeg) = k → post 1)))))
set_option maxHeartbeats 4000000 in
set_option maxRecDepth 100000 in
theorem g_Va_isOfKind {p : Program} {l : Launch} {e : Env} {R : Room} {s : State} {m : MethodId} {args : Array Value} {below : List Frame} {meth : Method} {c : Code} {H : Heap} {locs : List Loc} {cells slots : Nat} {Q : State → Prop} {ls : Array Slot} (S : CallFix p m c b_Va_isOfKind 3 s args W0 R_Va) (hRf : 1 ≤ R.frames) (hRl : 21 ≤ R.locals) (hRc : cells ≤ R.cells ∧ slots ≤ R.slots) (D : va_G) (a : Nat → Nat) (cI cJ cZ : ClassId) (ki : Nat → Int32) (co : Nat → Int64) (pr : Nat → Int32) (pa : Nat → Int32) (tw : Nat → Int32) (nv : Int32) (sv : Int32) (x : Int32) (k : Int32) (hK : va_K D vwCl (tyA cI cJ cZ) s) (hP : va_P D vwCl (wV a cI cJ ki co pr pa tw nv sv) H) (hl : lv_has ls 3 [(0, .ref (a 0)), (1, .int x), (2, .int k)]) {post : Int32 → Prop} (vc : V_Va_isOfKind ki co pr pa tw nv sv x k post)
    (hret : ∀ (v : Int32) (ls : Array Slot) (pc : Nat), decode b_Va_isOfKind pc = .ok (.ireturn, 1) → post v → W p l e R s m args below meth c H locs cells slots Q (F0 m pc ls [.int v])) : W p l e R s m args below meth c H locs cells slots Q (F0 m 0 ls []) := by
  have hx := S.1
  have hb := S.2.1
  have hown := S.2.2.2.1
  have hts := S.2.2.2.2
  unfold V_Va_isOfKind at vc
  refine lv_aload_n hx hb d_Va_isOfKind_0 rfl (lv_at hl 0 rfl) ?_
  refine lv_iload_n hx hb d_Va_isOfKind_1 rfl (lv_at hl 1 rfl) ?_
  refine pc_V (As := [.int x]) (rest := []) S (c_Va_has l D a cI cJ cZ ki co pr pa tw nv sv x) wB_blind k_Va_has i_Va_has e_Va_has o_Va ml_Va_30 hd_Va_has (Nat.le_trans (by decide) hRf) (Nat.le_trans (by decide) hRl) hRc (va_recv hK hP (q0 := 0) (ci := 4) rfl rfl) (wB_at hP hK) hl.1 rfl (Nat.le_of_ble_eq_true rfl) d_Va_isOfKind_2 ?_
  refine lv_if_eq (tgt := 22) hx hb d_Va_isOfKind_5 (by decide) (fun h => ?_) (fun h => ?_)
  · have vc := vc.1 h
    refine lv_iconst (v := 0) hx hb d_Va_isOfKind_22 (by decide) ?_
    exact hret _ ls _ d_Va_isOfKind_23 vc
  · have vc := vc.2 h
    refine lv_aload_n hx hb d_Va_isOfKind_8 rfl (lv_at hl 0 rfl) ?_
    refine va_get (D := D) (ci := 4) (v := .ref (a 1)) (C := R_Va) (T := F_Va) (N := 7) hx hb hts in_Va hown hK hP 0 rfl rfl 0 (by decide) (hts _ fl_Va_9) (fun _ h => h) rfl d_Va_isOfKind_9 ?_
    refine lv_iload_n hx hb d_Va_isOfKind_12 rfl (lv_at hl 1 rfl) ?_
    obtain ⟨vcb, vc⟩ := vc
    refine va_iald hx hb hK hP 1 0 rfl rfl vcb d_Va_isOfKind_13 ?_
    refine lv_iload_n hx hb d_Va_isOfKind_14 rfl (lv_at hl 2 rfl) ?_
    refine lv_icmp_ne (tgt := 22) hx hb d_Va_isOfKind_15 (by decide) (fun h => ?_) (fun h => ?_)
    · have vc := vc.1 h
      refine lv_iconst (v := 0) hx hb d_Va_isOfKind_22 (by decide) ?_
      exact hret _ ls _ d_Va_isOfKind_23 vc
    · have vc := vc.2 h
      refine lv_iconst (v := 1) hx hb d_Va_isOfKind_18 (by decide) ?_
      refine lv_goto (tgt := 23) hx hb d_Va_isOfKind_19 (by decide) ?_
      exact hret _ ls _ d_Va_isOfKind_23 vc
theorem h_Va_isOfKind (l : Launch) (D : va_G) (a : Nat → Nat) (cI cJ cZ : ClassId) (ki : Nat → Int32) (co : Nat → Int64) (pr : Nat → Int32) (pa : Nat → Int32) (tw : Nat → Int32) (nv : Int32) (sv : Int32) (x : Int32) (k : Int32) (r : Int32) (hr : narrow .boolean (.int r) = .int r) (vc : V_Va_isOfKind ki co pr pa tw nv sv x k (fun v => v = r)) : Pm l y_Va_isOfKind b_Va_isOfKind 3 (some .boolean) 1 21 [.ref (a 0), .int x, .int k] (wB D (tyA cI cJ cZ) (wV a cI cJ ki co pr pa tw nv sv)) (.int r) :=
  pm_i (by decide) hr (Nat.le_of_ble_eq_true rfl) (fun p e s m below meth c ls Q S hB hl hret => g_Va_isOfKind S (Nat.le_refl _) (Nat.le_refl _) ⟨Nat.le_refl _, Nat.le_refl _⟩ D a cI cJ cZ ki co pr pa tw nv sv x k hB.2 hB.1 hl vc hret)
theorem c_Va_isOfKind (l : Launch) (D : va_G) (a : Nat → Nat) (cI cJ cZ : ClassId) (ki : Nat → Int32) (co : Nat → Int64) (pr : Nat → Int32) (pa : Nat → Int32) (tw : Nat → Int32) (nv : Int32) (sv : Int32) (x : Int32) (k : Int32) (hpre : nv ≤ 40) : Pm l y_Va_isOfKind b_Va_isOfKind 3 (some .boolean) 1 21 [.ref (a 0), .int x, .int k] (wB D (tyA cI cJ cZ) (wV a cI cJ ki co pr pa tw nv sv)) (.int (bI (sKind ki nv x k))) := h_Va_isOfKind l D a cI cJ cZ ki co pr pa tw nv sv x k _ (bI_nar _) (by
  unfold V_Va_isOfKind
  refine ⟨fun h => ?_, fun h => ⟨?_, fun h2 => ?_, fun h2 => ?_⟩⟩
  · simp_all [bI, sKind]
  · exact vp_has hpre (by simpa [bI] using h)
  · simp_all [bI, sKind]
  · simp_all [bI, sKind])
theorem hd_Va_isOfKind : y_Va_isOfKind.cls ≠ "java/lang/invoke/MethodHandle" ∧ y_Va_isOfKind.cls ≠ "java/lang/invoke/VarHandle" ∧ (parseMethodDescriptor y_Va_isOfKind.desc).map (fun d => d.parameters.length) = some 2 := ⟨by decide, by decide, by decide +kernel⟩
def V_Va_add (ki : Nat → Int32) (co : Nat → Int64) (pr : Nat → Int32) (pa : Nat → Int32) (tw : Nat → Int32) (nv : Int32) (sv : Int32) (k : Int32) (x : Int64) (post : Int32 → (Nat → Int32) → (Nat → Int64) → (Nat → Int32) → (Nat → Int32) → (Nat → Int32) → Int32 → Int32 → Prop) : Prop :=
  (vp_in nv 40 ∧ (vp_in nv 40 ∧ post ((nv + 1) - 1) (upd ki nv.toNatClampNeg k) (vp_updL co nv.toNatClampNeg x) pr pa tw (nv + 1) sv))
set_option maxHeartbeats 4000000 in
set_option maxRecDepth 100000 in
theorem g_Va_add {p : Program} {l : Launch} {e : Env} {R : Room} {s : State} {m : MethodId} {args : Array Value} {below : List Frame} {meth : Method} {c : Code} {H : Heap} {locs : List Loc} {cells slots : Nat} {Q : State → Prop} {ls : Array Slot} {A : Nat → Prop} (S : CallFix p m c b_Va_add 4 s args W0 R_Va) (hRf : 0 ≤ R.frames) (hRl : 0 ≤ R.locals) (hRc : cells ≤ R.cells ∧ slots ≤ R.slots) (D : va_G) (a : Nat → Nat) (cI cJ cZ : ClassId) (ki : Nat → Int32) (co : Nat → Int64) (pr : Nat → Int32) (pa : Nat → Int32) (tw : Nat → Int32) (nv : Int32) (sv : Int32) (k : Int32) (x : Int64) (hK : va_K D vwCl (tyA cI cJ cZ) s) (hP : va_P D vwCl (wV a cI cJ ki co pr pa tw nv sv) H) (hD : va_D A (wV a cI cJ ki co pr pa tw nv sv)) (hA : ∀ q, s.heap.size ≤ q → A q) (hS : va_S A s.heap H locs) (hl : lv_has ls 4 [(0, .ref (a 0)), (1, .int k), (2, .long x)]) {post : Int32 → (Nat → Int32) → (Nat → Int64) → (Nat → Int32) → (Nat → Int32) → (Nat → Int32) → Int32 → Int32 → Prop} (vc : V_Va_add ki co pr pa tw nv sv k x post)
    (hret : ∀ (v : Int32) (ki : Nat → Int32) (co : Nat → Int64) (pr : Nat → Int32) (pa : Nat → Int32) (tw : Nat → Int32) (nv : Int32) (sv : Int32) (ls : Array Slot) (pc : Nat) (H : Heap) (locs : List Loc), decode b_Va_add pc = .ok (.ireturn, 1) → post v ki co pr pa tw nv sv → va_P D vwCl (wV a cI cJ ki co pr pa tw nv sv) H → va_D A (wV a cI cJ ki co pr pa tw nv sv) → va_S A s.heap H locs → W p l e R s m args below meth c H locs cells slots Q (F0 m pc ls [.int v])) : W p l e R s m args below meth c H locs cells slots Q (F0 m 0 ls []) := by
  have hx := S.1
  have hb := S.2.1
  have hown := S.2.2.2.1
  have hts := S.2.2.2.2
  unfold V_Va_add at vc
  refine lv_aload_n hx hb d_Va_add_0 rfl (lv_at hl 0 rfl) ?_
  refine va_get (D := D) (ci := 4) (v := .ref (a 1)) (C := R_Va) (T := F_Va) (N := 7) hx hb hts in_Va hown hK hP 0 rfl rfl 0 (by decide) (hts _ fl_Va_9) (fun _ h => h) rfl d_Va_add_1 ?_
  refine lv_aload_n hx hb d_Va_add_4 rfl (lv_at hl 0 rfl) ?_
  refine va_get (D := D) (ci := 4) (v := .int nv) (C := R_Va) (T := F_Va) (N := 7) hx hb hts in_Va hown hK hP 0 rfl rfl 5 (by decide) (hts _ fl_Va_26) (fun _ h => h) rfl d_Va_add_5 ?_
  refine lv_iload_n hx hb d_Va_add_8 rfl (lv_at hl 1 rfl) ?_
  obtain ⟨vcb, vc⟩ := vc
  refine va_iast hx hb hK hP hD hS 1 0 rfl rfl vcb d_Va_add_9 (fun H locs hP hD hS => ?_)
  have hP : va_P D vwCl (wV a cI cJ (upd ki nv.toNatClampNeg k) co pr pa tw nv sv) H := hP
  have hD : va_D A (wV a cI cJ (upd ki nv.toNatClampNeg k) co pr pa tw nv sv) := hD
  refine lv_aload_n hx hb d_Va_add_10 rfl (lv_at hl 0 rfl) ?_
  refine va_get (D := D) (ci := 4) (v := .ref (a 2)) (C := R_Va) (T := F_Va) (N := 7) hx hb hts in_Va hown hK hP 0 rfl rfl 1 (by decide) (hts _ fl_Va_13) (fun _ h => h) rfl d_Va_add_11 ?_
  refine lv_aload_n hx hb d_Va_add_14 rfl (lv_at hl 0 rfl) ?_
  refine va_get (D := D) (ci := 4) (v := .int nv) (C := R_Va) (T := F_Va) (N := 7) hx hb hts in_Va hown hK hP 0 rfl rfl 5 (by decide) (hts _ fl_Va_26) (fun _ h => h) rfl d_Va_add_15 ?_
  refine lv_lload_n hx hb d_Va_add_18 rfl (lv_at hl 2 rfl) ?_
  obtain ⟨vcb, vc⟩ := vc
  refine va_last hx hb hK hP hD hS 2 1 rfl rfl vcb d_Va_add_19 (fun H locs hP hD hS => ?_)
  have hP : va_P D vwCl (wV a cI cJ (upd ki nv.toNatClampNeg k) (vp_updL co nv.toNatClampNeg x) pr pa tw nv sv) H := hP
  have hD : va_D A (wV a cI cJ (upd ki nv.toNatClampNeg k) (vp_updL co nv.toNatClampNeg x) pr pa tw nv sv) := hD
  refine lv_aload_n hx hb d_Va_add_20 rfl (lv_at hl 0 rfl) ?_
  refine lv_dup hx hb d_Va_add_21 rfl ?_
  refine va_get (D := D) (ci := 4) (v := .int nv) (C := R_Va) (T := F_Va) (N := 7) hx hb hts in_Va hown hK hP 0 rfl rfl 5 (by decide) (hts _ fl_Va_26) (fun _ h => h) rfl d_Va_add_22 ?_
  refine lv_iconst (v := 1) hx hb d_Va_add_25 (by decide) ?_
  refine lv_iadd hx hb d_Va_add_26 ?_
  refine va_put (D := D) (ci := 4) (v := .int (nv + 1)) (ty := .int) (C := R_Va) (T := F_Va) (N := 7) hx hb hts in_Va t_Va t_Va_ok n_Va hown hK hP hD hS 0 rfl rfl 5 (by decide) (hts _ fl_Va_26) (fun _ h => h) rfl (by decide +kernel) rfl rfl (Nat.le_of_ble_eq_true rfl) d_Va_add_27 (fun H locs hP hD hS => ?_)
  have hP : va_P D vwCl (wV a cI cJ (upd ki nv.toNatClampNeg k) (vp_updL co nv.toNatClampNeg x) pr pa tw (nv + 1) sv) H := hP
  have hD : va_D A (wV a cI cJ (upd ki nv.toNatClampNeg k) (vp_updL co nv.toNatClampNeg x) pr pa tw (nv + 1) sv) := hD
  refine lv_aload_n hx hb d_Va_add_30 rfl (lv_at hl 0 rfl) ?_
  refine va_get (D := D) (ci := 4) (v := .int (nv + 1)) (C := R_Va) (T := F_Va) (N := 7) hx hb hts in_Va hown hK hP 0 rfl rfl 5 (by decide) (hts _ fl_Va_26) (fun _ h => h) rfl d_Va_add_31 ?_
  refine lv_iconst (v := 1) hx hb d_Va_add_34 (by decide) ?_
  refine lv_isub hx hb d_Va_add_35 ?_
  exact hret _ _ _ _ _ _ _ _ ls _ H locs d_Va_add_36 vc hP hD hS
theorem h_Va_add (l : Launch) (D : va_G) (a : Nat → Nat) (cI cJ cZ : ClassId) (ki : Nat → Int32) (co : Nat → Int64) (pr : Nat → Int32) (pa : Nat → Int32) (tw : Nat → Int32) (nv : Int32) (sv : Int32) (k : Int32) (x : Int64) (r : Int32) (ki' : Nat → Int32) (co' : Nat → Int64) (pr' : Nat → Int32) (pa' : Nat → Int32) (tw' : Nat → Int32) (nv' : Int32) (sv' : Int32) (vc : V_Va_add ki co pr pa tw nv sv k x (fun v ki co pr pa tw nv sv => v = r ∧ ki = ki' ∧ co = co' ∧ pr = pr' ∧ pa = pa' ∧ tw = tw' ∧ nv = nv' ∧ sv = sv')) : Wm (S := Unit) l y_Va_add b_Va_add 4 (some .int) 0 0 [.ref (a 0), .int k, .long x] D (tyA cI cJ cZ) (wV a cI cJ ki co pr pa tw nv sv) (fun _ => True) (fun _ => some (.int r)) (fun _ => (wV a cI cJ ki' co' pr' pa' tw' nv' sv')) :=
  wm_i (by decide) (fun _ _ => rfl) (Nat.le_of_ble_eq_true rfl) (fun p e s m below meth c ls Q A S hK hP hD hA hS hl hret => g_Va_add S (Nat.le_refl _) (Nat.le_refl _) ⟨Nat.le_refl _, Nat.le_refl _⟩ D a cI cJ cZ ki co pr pa tw nv sv k x hK hP hD hA hS hl vc (fun v ki co pr pa tw nv sv ls pc H locs hd hv hP hD hS => by obtain ⟨rfl, rfl, rfl, rfl, rfl, rfl, rfl, rfl⟩ := hv; exact hret () _ ls pc H locs hd trivial rfl hP hD hS))
theorem c_Va_add (l : Launch) (D : va_G) (a : Nat → Nat) (cI cJ cZ : ClassId) (ki : Nat → Int32) (co : Nat → Int64) (pr : Nat → Int32) (pa : Nat → Int32) (tw : Nat → Int32) (nv : Int32) (sv : Int32) (k : Int32) (x : Int64) (hpre : vp_in nv 40) : Wm (S := Unit) l y_Va_add b_Va_add 4 (some .int) 0 0 [.ref (a 0), .int k, .long x] D (tyA cI cJ cZ) (wV a cI cJ ki co pr pa tw nv sv) (fun _ => True) (fun _ => some (.int (nv + 1 - 1))) (fun _ => (wV a cI cJ (upd ki nv.toNatClampNeg k) (vp_updL co nv.toNatClampNeg x) pr pa tw (nv + 1) sv)) := h_Va_add l D a cI cJ cZ ki co pr pa tw nv sv k x _ _ _ _ _ _ _ _ (by
  unfold V_Va_add
  exact ⟨hpre, hpre, rfl, rfl, rfl, rfl, rfl, rfl, rfl, rfl⟩)
theorem hd_Va_add : y_Va_add.cls ≠ "java/lang/invoke/MethodHandle" ∧ y_Va_add.cls ≠ "java/lang/invoke/VarHandle" ∧ (parseMethodDescriptor y_Va_add.desc).map (fun d => d.parameters.length) = some 2 := ⟨by decide, by decide, by decide +kernel⟩
