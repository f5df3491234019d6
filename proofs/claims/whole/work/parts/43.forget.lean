def V_Ar_fill_JJV (f : Nat → Int64) (x : Int64) (N : Nat) (post : (Nat → Int64) → Prop) : Prop :=
  (∃ (I4 : Int32 → (Nat → Int64) → Prop) (mI4 : Int32 → (Nat → Int64) → Nat), I4 0 f ∧ (∀ (x2 : Int32) (f3 : Nat → Int64), I4 x2 f3 → (((Int32.ofNat N) ≤ x2 → post f3) ∧ (¬ (Int32.ofNat N) ≤ x2 → (vp_in x2 N ∧ (I4 (x2 + 1) (vp_updL f3 x2.toNatClampNeg x) ∧ mI4 (x2 + 1) (vp_updL f3 x2.toNatClampNeg x) < mI4 x2 f3))))))
set_option maxHeartbeats 4000000 in
set_option maxRecDepth 100000 in
theorem g_Ar_fill_JJV {p : Program} {l : Launch} {e : Env} {R : Room} {s : State} {m : MethodId} {args : Array Value} {below : List Frame} {meth : Method} {c : Code} {H : Heap} {locs : List Loc} {cells slots : Nat} {Q : State → Prop} {ls : Array Slot} {A : Nat → Prop} (S : CallFix p m c b_Ar_fill_JJV 5 s args W0 R_Ar) (hRf : 0 ≤ R.frames) (hRl : 0 ≤ R.locals) (hRc : cells ≤ R.cells ∧ slots ≤ R.slots) (D : va_G) (a : Nat → Nat) (cI cJ cZ : ClassId) (f : Nat → Int64) (x : Int64) (N : Nat) (hK : va_K D vwCl (tyA cI cJ cZ) s) (hP : va_P D vwCl (wG a cJ N f) H) (hD : va_D A (wG a cJ N f)) (hA : ∀ q, s.heap.size ≤ q → A q) (hS : va_S A s.heap H locs) (hl : lv_has ls 5 [(0, .ref (a 0)), (1, .long x)]) {post : (Nat → Int64) → Prop} (vc : V_Ar_fill_JJV f x N post)
    (hret : ∀ (f : Nat → Int64) (ls : Array Slot) (pc : Nat) (H : Heap) (locs : List Loc), decode b_Ar_fill_JJV pc = .ok (.return_, 1) → post f → va_P D vwCl (wG a cJ N f) H → va_D A (wG a cJ N f) → va_S A s.heap H locs → W p l e R s m args below meth c H locs cells slots Q (F0 m pc ls [])) : W p l e R s m args below meth c H locs cells slots Q (F0 m 0 ls []) := by
  have hx := S.1
  have hb := S.2.1
  have hown := S.2.2.2.1
  have hts := S.2.2.2.2
  unfold V_Ar_fill_JJV at vc
  refine lv_iconst (v := 0) hx hb d_Ar_fill_JJV_0 (by decide) ?_
  refine lv_istore_n hx hb d_Ar_fill_JJV_1 rfl hl (by decide) (lv' := [(3, .int 0), (0, .ref (a 0)), (1, .long x)]) rfl (fun ls hl => ?_)
  refine lv_aload_n hx hb d_Ar_fill_JJV_2 rfl (lv_at hl 1 rfl) ?_
  refine va_alen hx hb hK hP 0 1 rfl rfl rfl d_Ar_fill_JJV_3 ?_
  refine lv_istore hx hb d_Ar_fill_JJV_4 hl (by decide) (lv' := [(4, .int (Int32.ofNat N)), (3, .int 0), (0, .ref (a 0)), (1, .long x)]) rfl (fun ls hl => ?_)
  obtain ⟨I4, mI4, vc0, vcs⟩ := vc
  have lI4 : ∀ n : Nat, ∀ (x2 : Int32) (f3 : Nat → Int64) (ls : Array Slot) (H : Heap) (locs : List Loc), I4 x2 f3 → mI4 x2 f3 < n → lv_has ls 5 [(0, .ref (a 0)), (1, .long x), (3, .int x2), (4, .int (Int32.ofNat N))] → va_P D vwCl (wG a cJ N f3) H → va_D A (wG a cJ N f3) → va_S A s.heap H locs → W p l e R s m args below meth c H locs cells slots Q (F0 m 6 ls []) := by
    intro n
    induction n with
    | zero => intro x2 f3 ls H locs _ h; exact absurd h (Nat.not_lt_zero _)
    | succ n ihI4 =>
      intro x2 f3 ls H locs vc hmI4 hl hP hD hS
      have vc := vcs x2 f3 vc
      refine lv_iload_n hx hb d_Ar_fill_JJV_6 rfl (lv_at hl 2 rfl) ?_
      refine lv_iload hx hb d_Ar_fill_JJV_7 (lv_at hl 3 rfl) ?_
      refine lv_icmp_ge (tgt := 22) hx hb d_Ar_fill_JJV_9 (by decide) (fun h => ?_) (fun h => ?_)
      · have vc := vc.1 h
        exact hret _ ls _ H locs d_Ar_fill_JJV_22 vc hP hD hS
      · have vc := vc.2 h
        refine lv_aload_n hx hb d_Ar_fill_JJV_12 rfl (lv_at hl 0 rfl) ?_
        refine lv_iload_n hx hb d_Ar_fill_JJV_13 rfl (lv_at hl 2 rfl) ?_
        refine lv_lload_n hx hb d_Ar_fill_JJV_14 rfl (lv_at hl 1 rfl) ?_
        obtain ⟨vcb, vc⟩ := vc
        refine va_last hx hb hK hP hD hS 0 1 rfl rfl vcb d_Ar_fill_JJV_15 (fun H locs hP hD hS => ?_)
        have hP : va_P D vwCl (wG a cJ N (vp_updL f3 x2.toNatClampNeg x)) H := hP
        have hD : va_D A (wG a cJ N (vp_updL f3 x2.toNatClampNeg x)) := hD
        refine lv_iinc (k := 2) (v := x2 + 1) hx hb d_Ar_fill_JJV_16 hl rfl rfl (by decide) (lv' := [(3, .int (x2 + 1)), (0, .ref (a 0)), (1, .long x), (4, .int (Int32.ofNat N))]) rfl (fun ls hl => ?_)
        refine lv_goto (tgt := 6) hx hb d_Ar_fill_JJV_19 (by decide) ?_
        exact ihI4 (x2 + 1) (vp_updL f3 x2.toNatClampNeg x) ls H locs vc.1 (Nat.lt_of_lt_of_le vc.2 (Nat.le_of_lt_succ hmI4)) (lv_sub hl [1, 2, 0, 3] rfl) hP hD hS
  exact lI4 _ 0 f ls H locs vc0 (Nat.lt_succ_self _) (lv_sub hl [2, 3, 1, 0] rfl) hP hD hS
theorem h_Ar_fill_JJV (l : Launch) (D : va_G) (a : Nat → Nat) (cI cJ cZ : ClassId) (f : Nat → Int64) (x : Int64) (N : Nat) (f' : Nat → Int64) (vc : V_Ar_fill_JJV f x N (fun f => f = f')) : Wm (S := Unit) l y_Ar_fill_JJV b_Ar_fill_JJV 5 none 0 0 [.ref (a 0), .long x] D (tyA cI cJ cZ) (wG a cJ N f) (fun _ => True) (fun _ => none) (fun _ => (wG a cJ N f')) :=
  wm_v (by decide) (Nat.le_of_ble_eq_true rfl) (fun p e s m below meth c ls Q A S hK hP hD hA hS hl hret => g_Ar_fill_JJV S (Nat.le_refl _) (Nat.le_refl _) ⟨Nat.le_refl _, Nat.le_refl _⟩ D a cI cJ cZ f x N hK hP hD hA hS hl vc (fun f ls pc H locs hd hv hP hD hS => by obtain ⟨rfl⟩ := hv; exact hret () ls pc H locs hd trivial hP hD hS))
theorem c_Ar_fill_JJV (l : Launch) (D : va_G) (a : Nat → Nat) (cI cJ cZ : ClassId) (f : Nat → Int64) (x : Int64) (N : Nat) (hpre : N < 2 ^ 30) : Wm (S := Unit) l y_Ar_fill_JJV b_Ar_fill_JJV 5 none 0 0 [.ref (a 0), .long x] D (tyA cI cJ cZ) (wG a cJ N f) (fun _ => True) (fun _ => none) (fun _ => wG a cJ N (fillL x N f)) := h_Ar_fill_JJV l D a cI cJ cZ f x N _ (by
  unfold V_Ar_fill_JJV
  refine ⟨fun i g => ∃ k : Nat, k ≤ N ∧ i = nI k ∧ g = fillL x k f, fun i _ => N - i.toInt.toNat, ⟨0, Nat.zero_le _, rfl, (fillL_0 x f).symm⟩, ?_⟩
  rintro i g ⟨k, hk, rfl, rfl⟩
  refine ⟨fun h => ?_, fun h => ?_⟩
  · obtain rfl := fill_end (N := N) h hpre hk; rfl
  · have hk2 := fill_step (N := N) h hpre hk
    exact ⟨vp_in_nI hk2 (by omega), ⟨k + 1, hk2, nI_1 k, by rw [nI_clamp (by omega)]; exact fillL_s x k f⟩, fill_mu hk2 hpre⟩)
theorem hd_Ar_fill_JJV : y_Ar_fill_JJV.cls ≠ "java/lang/invoke/MethodHandle" ∧ y_Ar_fill_JJV.cls ≠ "java/lang/invoke/VarHandle" ∧ (parseMethodDescriptor y_Ar_fill_JJV.desc).map (fun d => d.parameters.length) = some 2 := ⟨by decide, by decide, by decide +kernel⟩
def V_Ju_forget (ch : Nat → Int32) (ma : Nat → Int32) (br : Nat → Int64) (tl : Int32) (post : (Nat → Int32) → (Nat → Int32) → (Nat → Int64) → Int32 → Prop) : Prop :=
  post (fillN 0 960 ch) (fillN 0 960 ma) (fillL 0 960 br) 0
set_option maxHeartbeats 4000000 in
set_option maxRecDepth 100000 in
theorem g_Ju_forget {p : Program} {l : Launch} {e : Env} {R : Room} {s : State} {m : MethodId} {args : Array Value} {below : List Frame} {meth : Method} {c : Code} {H : Heap} {locs : List Loc} {cells slots : Nat} {Q : State → Prop} {ls : Array Slot} {A : Nat → Prop} (S : CallFix p m c b_Ju_forget 1 s args W0 R_Ju) (hRf : 1 ≤ R.frames) (hRl : 24 ≤ R.locals) (hRc : cells ≤ R.cells ∧ slots ≤ R.slots) (D : va_G) (a : Nat → Nat) (cI cJ cZ : ClassId) (ch : Nat → Int32) (ma : Nat → Int32) (br : Nat → Int64) (tl : Int32) (hK : va_K D vwCl (tyA cI cJ cZ) s) (hP : va_P D vwCl (wJ a cI cJ ch ma br tl) H) (hD : va_D A (wJ a cI cJ ch ma br tl)) (hA : ∀ q, s.heap.size ≤ q → A q) (hS : va_S A s.heap H locs) (hl : lv_has ls 1 [(0, .ref (a 20))]) {post : (Nat → Int32) → (Nat → Int32) → (Nat → Int64) → Int32 → Prop} (vc : V_Ju_forget ch ma br tl post)
    (hret : ∀ (ch : Nat → Int32) (ma : Nat → Int32) (br : Nat → Int64) (tl : Int32) (ls : Array Slot) (pc : Nat) (H : Heap) (locs : List Loc), decode b_Ju_forget pc = .ok (.return_, 1) → post ch ma br tl → va_P D vwCl (wJ a cI cJ ch ma br tl) H → va_D A (wJ a cI cJ ch ma br tl) → va_S A s.heap H locs → W p l e R s m args below meth c H locs cells slots Q (F0 m pc ls [])) : W p l e R s m args below meth c H locs cells slots Q (F0 m 0 ls []) := by
  have hx := S.1
  have hb := S.2.1
  have hown := S.2.2.2.1
  have hts := S.2.2.2.2
  unfold V_Ju_forget at vc
  refine lv_aload_n hx hb d_Ju_forget_0 rfl (lv_at hl 0 rfl) ?_
  refine va_get (D := D) (ci := 0) (v := .ref (a 21)) (C := R_Ju) (T := F_Ju) (N := 7) hx hb hts in_Ju hown hK hP 0 rfl rfl 3 (by decide) (hts _ fl_Ju_25) (fun _ h => h) rfl d_Ju_forget_1 ?_
  refine lv_iconst (v := 0) hx hb d_Ju_forget_4 (by decide) ?_
  refine wc_S (As := [.ref (a 21), .int 0]) (rest := []) (wr := [(a 20, .inr (0, [.ref (a 0), .ref (a 12), .ref (a 19), .ref (a 21), .ref (a 22), .ref (a 23), .int tl])), (a 22, .inl (cI, 960, .inl ma)), (a 23, .inl (cJ, 960, .inr (.inl br)))]) S (c_Ar_fill l D (fun _ => a 21) cI cJ cZ ch 0 960 (by decide)) k_Ar_fill s_Ar_fill o_Ar ml_Ju_36 hd_Ar_fill (Nat.le_trans (by decide) hRf) (Nat.le_trans (by decide) hRl) hRc hK hP hD hS hA [1] [0, 2, 3] rfl rfl rfl (by decide) (by decide) (by decide) hl.1 rfl (Nat.le_of_ble_eq_true rfl) d_Ju_forget_5 (fun _ H locs _ hP hD hS => ?_)
  have hP : va_P D vwCl (wJ a cI cJ (fillN 0 960 ch) ma br tl) H := hP.sub [0, 3, 1, 2] rfl
  have hD : va_D A (wJ a cI cJ (fillN 0 960 ch) ma br tl) := hD.sub [0, 3, 1, 2] (by decide) rfl
  refine lv_aload_n hx hb d_Ju_forget_8 rfl (lv_at hl 0 rfl) ?_
  refine va_get (D := D) (ci := 0) (v := .ref (a 22)) (C := R_Ju) (T := F_Ju) (N := 7) hx hb hts in_Ju hown hK hP 0 rfl rfl 4 (by decide) (hts _ fl_Ju_29) (fun _ h => h) rfl d_Ju_forget_9 ?_
  refine lv_iconst (v := 0) hx hb d_Ju_forget_12 (by decide) ?_
  refine wc_S (As := [.ref (a 22), .int 0]) (rest := []) (wr := [(a 20, .inr (0, [.ref (a 0), .ref (a 12), .ref (a 19), .ref (a 21), .ref (a 22), .ref (a 23), .int tl])), (a 21, .inl (cI, 960, .inl (fillN 0 960 ch))), (a 23, .inl (cJ, 960, .inr (.inl br)))]) S (c_Ar_fill l D (fun _ => a 22) cI cJ cZ ma 0 960 (by decide)) k_Ar_fill s_Ar_fill o_Ar ml_Ju_36 hd_Ar_fill (Nat.le_trans (by decide) hRf) (Nat.le_trans (by decide) hRl) hRc hK hP hD hS hA [2] [0, 1, 3] rfl rfl rfl (by decide) (by decide) (by decide) hl.1 rfl (Nat.le_of_ble_eq_true rfl) d_Ju_forget_13 (fun _ H locs _ hP hD hS => ?_)
  have hP : va_P D vwCl (wJ a cI cJ (fillN 0 960 ch) (fillN 0 960 ma) br tl) H := hP.sub [0, 1, 3, 2] rfl
  have hD : va_D A (wJ a cI cJ (fillN 0 960 ch) (fillN 0 960 ma) br tl) := hD.sub [0, 1, 3, 2] (by decide) rfl
  refine lv_aload_n hx hb d_Ju_forget_16 rfl (lv_at hl 0 rfl) ?_
  refine va_get (D := D) (ci := 0) (v := .ref (a 23)) (C := R_Ju) (T := F_Ju) (N := 7) hx hb hts in_Ju hown hK hP 0 rfl rfl 5 (by decide) (hts _ fl_Ju_32) (fun _ h => h) rfl d_Ju_forget_17 ?_
  refine lv_lconst (v := 0) hx hb d_Ju_forget_20 (by decide) ?_
  refine wc_S (As := [.ref (a 23), .long 0]) (rest := []) (wr := [(a 20, .inr (0, [.ref (a 0), .ref (a 12), .ref (a 19), .ref (a 21), .ref (a 22), .ref (a 23), .int tl])), (a 21, .inl (cI, 960, .inl (fillN 0 960 ch))), (a 22, .inl (cI, 960, .inl (fillN 0 960 ma)))]) S (c_Ar_fill_JJV l D (fun _ => a 23) cI cJ cZ br 0 960 (by decide)) k_Ar_fill_JJV s_Ar_fill_JJV o_Ar ml_Ju_42 hd_Ar_fill_JJV (Nat.le_trans (by decide) hRf) (Nat.le_trans (by decide) hRl) hRc hK hP hD hS hA [3] [0, 1, 2] rfl rfl rfl (by decide) (by decide) (by decide) hl.1 rfl (Nat.le_of_ble_eq_true rfl) d_Ju_forget_21 (fun _ H locs _ hP hD hS => ?_)
  have hP : va_P D vwCl (wJ a cI cJ (fillN 0 960 ch) (fillN 0 960 ma) (fillL 0 960 br) tl) H := hP.sub [0, 1, 2, 3] rfl
  have hD : va_D A (wJ a cI cJ (fillN 0 960 ch) (fillN 0 960 ma) (fillL 0 960 br) tl) := hD.sub [0, 1, 2, 3] (by decide) rfl
  refine lv_aload_n hx hb d_Ju_forget_24 rfl (lv_at hl 0 rfl) ?_
  refine lv_iconst (v := 0) hx hb d_Ju_forget_25 (by decide) ?_
  refine va_put (D := D) (ci := 0) (v := .int 0) (ty := .boolean) (C := R_Ju) (T := F_Ju) (N := 7) hx hb hts in_Ju t_Ju t_Ju_ok n_Ju hown hK hP hD hS 0 rfl rfl 6 (by decide) (hts _ fl_Ju_45) (fun _ h => h) rfl (by decide +kernel) (by decide) (by decide) (Nat.le_of_ble_eq_true rfl) d_Ju_forget_26 (fun H locs hP hD hS => ?_)
  have hP : va_P D vwCl (wJ a cI cJ (fillN 0 960 ch) (fillN 0 960 ma) (fillL 0 960 br) 0) H := hP
  have hD : va_D A (wJ a cI cJ (fillN 0 960 ch) (fillN 0 960 ma) (fillL 0 960 br) 0) := hD
  exact hret _ _ _ _ ls _ H locs d_Ju_forget_29 vc hP hD hS
theorem h_Ju_forget (l : Launch) (D : va_G) (a : Nat → Nat) (cI cJ cZ : ClassId) (ch : Nat → Int32) (ma : Nat → Int32) (br : Nat → Int64) (tl : Int32) (ch' : Nat → Int32) (ma' : Nat → Int32) (br' : Nat → Int64) (tl' : Int32) (vc : V_Ju_forget ch ma br tl (fun ch ma br tl => ch = ch' ∧ ma = ma' ∧ br = br' ∧ tl = tl')) : Wm (S := Unit) l y_Ju_forget b_Ju_forget 1 none 1 24 [.ref (a 20)] D (tyA cI cJ cZ) (wJ a cI cJ ch ma br tl) (fun _ => True) (fun _ => none) (fun _ => (wJ a cI cJ ch' ma' br' tl')) :=
  wm_v (by decide) (Nat.le_of_ble_eq_true rfl) (fun p e s m below meth c ls Q A S hK hP hD hA hS hl hret => g_Ju_forget S (Nat.le_refl _) (Nat.le_refl _) ⟨Nat.le_refl _, Nat.le_refl _⟩ D a cI cJ cZ ch ma br tl hK hP hD hA hS hl vc (fun ch ma br tl ls pc H locs hd hv hP hD hS => by obtain ⟨rfl, rfl, rfl, rfl⟩ := hv; exact hret () ls pc H locs hd trivial hP hD hS))
theorem c_Ju_forget (l : Launch) (D : va_G) (a : Nat → Nat) (cI cJ cZ : ClassId) (ch : Nat → Int32) (ma : Nat → Int32) (br : Nat → Int64) (tl : Int32) : Wm (S := Unit) l y_Ju_forget b_Ju_forget 1 none 1 24 [.ref (a 20)] D (tyA cI cJ cZ) (wJ a cI cJ ch ma br tl) (fun _ => True) (fun _ => none) (fun _ => (wJ a cI cJ (fillN 0 960 ch) (fillN 0 960 ma) (fillL 0 960 br) 0)) := h_Ju_forget l D a cI cJ cZ ch ma br tl _ _ _ _ (by
  unfold V_Ju_forget
  simp)
theorem hd_Ju_forget : y_Ju_forget.cls ≠ "java/lang/invoke/MethodHandle" ∧ y_Ju_forget.cls ≠ "java/lang/invoke/VarHandle" ∧ (parseMethodDescriptor y_Ju_forget.desc).map (fun d => d.parameters.length) = some 0 := ⟨by decide, by decide, by decide +kernel⟩
def V_Mo_forget (mki : Nat → Int32) (msz : Nat → Int64) (mle : Nat → Int32) (mel : Nat → Int32) (mme : Nat → Int32) (mal : Nat → Int32) (mic : Nat → Int32) (mil : Nat → Int32) (mio : Nat → Int32) (mab : Nat → Int32) (mae : Nat → Int32) (msa : Nat → Int32) (mlc : Nat → Int32) (mli : Nat → Int32) (mna : Nat → Int32) (mva : Nat → Int32) (mma : Nat → Int32) (mch : Nat → Int32) (mre : Nat → Int32) (mlv : Nat → Int32) (mwr : Nat → Int64) (msh : Nat → Int32) (mth : Int32) (mnv : Int32) (mns : Int32) (mfa : Int32) (mmo : Int32) (post : (Nat → Int32) → (Nat → Int64) → (Nat → Int32) → (Nat → Int32) → (Nat → Int32) → (Nat → Int32) → (Nat → Int32) → (Nat → Int32) → (Nat → Int32) → (Nat → Int32) → (Nat → Int32) → (Nat → Int32) → (Nat → Int32) → (Nat → Int32) → (Nat → Int32) → (Nat → Int32) → (Nat → Int32) → (Nat → Int32) → (Nat → Int32) → (Nat → Int32) → (Nat → Int64) → (Nat → Int32) → Int32 → Int32 → Int32 → Int32 → Int32 → Prop) : Prop :=
  (∃ (I5 : Int32 → (Nat → Int32) → (Nat → Int64) → Prop) (mI5 : Int32 → (Nat → Int32) → (Nat → Int64) → Nat), I5 0 mch mwr ∧ (∀ (x2 : Int32) (f3 : Nat → Int32) (f4 : Nat → Int64), I5 x2 f3 f4 → ((960 ≤ x2 → post mki msz mle mel mme mal mic mil mio mab mae msa mlc mli mna mva mma f3 mre mlv f4 msh mth mnv mns 0 mmo) ∧ (¬ 960 ≤ x2 → (vp_in x2 960 ∧ (vp_in x2 960 ∧ (I5 (x2 + 1) (upd f3 x2.toNatClampNeg 0) (vp_updL f4 x2.toNatClampNeg 0) ∧ mI5 (x2 + 1) (upd f3 x2.toNatClampNeg 0) (vp_updL f4 x2.toNatClampNeg 0) < mI5 x2 f3 f4)))))))
set_option maxHeartbeats 4000000 in
set_option maxRecDepth 100000 in
theorem g_Mo_forget {p : Program} {l : Launch} {e : Env} {R : Room} {s : State} {m : MethodId} {args : Array Value} {below : List Frame} {meth : Method} {c : Code} {H : Heap} {locs : List Loc} {cells slots : Nat} {Q : State → Prop} {ls : Array Slot} {A : Nat → Prop} (S : CallFix p m c b_Mo_forget 2 s args W0 R_Mo) (hRf : 0 ≤ R.frames) (hRl : 0 ≤ R.locals) (hRc : cells ≤ R.cells ∧ slots ≤ R.slots) (D : va_G) (b : Nat → Nat) (cI cJ cZ : ClassId) (mki : Nat → Int32) (msz : Nat → Int64) (mle : Nat → Int32) (mel : Nat → Int32) (mme : Nat → Int32) (mal : Nat → Int32) (mic : Nat → Int32) (mil : Nat → Int32) (mio : Nat → Int32) (mab : Nat → Int32) (mae : Nat → Int32) (msa : Nat → Int32) (mlc : Nat → Int32) (mli : Nat → Int32) (mna : Nat → Int32) (mva : Nat → Int32) (mma : Nat → Int32) (mch : Nat → Int32) (mre : Nat → Int32) (mlv : Nat → Int32) (mwr : Nat → Int64) (msh : Nat → Int32) (mth : Int32) (mnv : Int32) (mns : Int32) (mfa : Int32) (mmo : Int32) (hK : va_K D vwCl (tyA cI cJ cZ) s) (hP : va_P D vwCl (wM b cI cJ cZ mki msz mle mel mme mal mic mil mio mab mae msa mlc mli mna mva mma mch mre mlv mwr msh mth mnv mns mfa mmo) H) (hD : va_D A (wM b cI cJ cZ mki msz mle mel mme mal mic mil mio mab mae msa mlc mli mna mva mma mch mre mlv mwr msh mth mnv mns mfa mmo)) (hA : ∀ q, s.heap.size ≤ q → A q) (hS : va_S A s.heap H locs) (hl : lv_has ls 2 [(0, .ref (b 0))]) {post : (Nat → Int32) → (Nat → Int64) → (Nat → Int32) → (Nat → Int32) → (Nat → Int32) → (Nat → Int32) → (Nat → Int32) → (Nat → Int32) → (Nat → Int32) → (Nat → Int32) → (Nat → Int32) → (Nat → Int32) → (Nat → Int32) → (Nat → Int32) → (Nat → Int32) → (Nat → Int32) → (Nat → Int32) → (Nat → Int32) → (Nat → Int32) → (Nat → Int32) → (Nat → Int64) → (Nat → Int32) → Int32 → Int32 → Int32 → Int32 → Int32 → Prop} (vc : V_Mo_forget mki msz mle mel mme mal mic mil mio mab mae msa mlc mli mna mva mma mch mre mlv mwr msh mth mnv mns mfa mmo post)
    (hret : ∀ (mki : Nat → Int32) (msz : Nat → Int64) (mle : Nat → Int32) (mel : Nat → Int32) (mme : Nat → Int32) (mal : Nat → Int32) (mic : Nat → Int32) (mil : Nat → Int32) (mio : Nat → Int32) (mab : Nat → Int32) (mae : Nat → Int32) (msa : Nat → Int32) (mlc : Nat → Int32) (mli : Nat → Int32) (mna : Nat → Int32) (mva : Nat → Int32) (mma : Nat → Int32) (mch : Nat → Int32) (mre : Nat → Int32) (mlv : Nat → Int32) (mwr : Nat → Int64) (msh : Nat → Int32) (mth : Int32) (mnv : Int32) (mns : Int32) (mfa : Int32) (mmo : Int32) (ls : Array Slot) (pc : Nat) (H : Heap) (locs : List Loc), decode b_Mo_forget pc = .ok (.return_, 1) → post mki msz mle mel mme mal mic mil mio mab mae msa mlc mli mna mva mma mch mre mlv mwr msh mth mnv mns mfa mmo → va_P D vwCl (wM b cI cJ cZ mki msz mle mel mme mal mic mil mio mab mae msa mlc mli mna mva mma mch mre mlv mwr msh mth mnv mns mfa mmo) H → va_D A (wM b cI cJ cZ mki msz mle mel mme mal mic mil mio mab mae msa mlc mli mna mva mma mch mre mlv mwr msh mth mnv mns mfa mmo) → va_S A s.heap H locs → W p l e R s m args below meth c H locs cells slots Q (F0 m pc ls [])) : W p l e R s m args below meth c H locs cells slots Q (F0 m 0 ls []) := by
  have hx := S.1
  have hb := S.2.1
  have hown := S.2.2.2.1
  have hts := S.2.2.2.2
  unfold V_Mo_forget at vc
  refine lv_aload_n hx hb d_Mo_forget_0 rfl (lv_at hl 0 rfl) ?_
  refine lv_iconst (v := 0) hx hb d_Mo_forget_1 (by decide) ?_
  refine va_put (D := D) (ci := 6) (v := .int 0) (ty := .int) (C := R_Mo) (T := F_Mo) (N := 27) hx hb hts in_Mo t_Mo t_Mo_ok n_Mo hown hK hP hD hS 0 rfl rfl 23 (by decide) (hts _ fl_Mo_245) (fun _ h => h) rfl (by decide +kernel) rfl rfl (Nat.le_of_ble_eq_true rfl) d_Mo_forget_2 (fun H locs hP hD hS => ?_)
  have hP : va_P D vwCl (wM b cI cJ cZ mki msz mle mel mme mal mic mil mio mab mae msa mlc mli mna mva mma mch mre mlv mwr msh mth mnv mns 0 mmo) H := hP
  have hD : va_D A (wM b cI cJ cZ mki msz mle mel mme mal mic mil mio mab mae msa mlc mli mna mva mma mch mre mlv mwr msh mth mnv mns 0 mmo) := hD
  refine lv_iconst (v := 0) hx hb d_Mo_forget_5 (by decide) ?_
  refine lv_istore_n hx hb d_Mo_forget_6 rfl hl (by decide) (lv' := [(1, .int 0), (0, .ref (b 0))]) rfl (fun ls hl => ?_)
  obtain ⟨I5, mI5, vc0, vcs⟩ := vc
  have lI5 : ∀ n : Nat, ∀ (x2 : Int32) (f3 : Nat → Int32) (f4 : Nat → Int64) (ls : Array Slot) (H : Heap) (locs : List Loc), I5 x2 f3 f4 → mI5 x2 f3 f4 < n → lv_has ls 2 [(0, .ref (b 0)), (1, .int x2)] → va_P D vwCl (wM b cI cJ cZ mki msz mle mel mme mal mic mil mio mab mae msa mlc mli mna mva mma f3 mre mlv f4 msh mth mnv mns 0 mmo) H → va_D A (wM b cI cJ cZ mki msz mle mel mme mal mic mil mio mab mae msa mlc mli mna mva mma f3 mre mlv f4 msh mth mnv mns 0 mmo) → va_S A s.heap H locs → W p l e R s m args below meth c H locs cells slots Q (F0 m 7 ls []) := by
    intro n
    induction n with
    | zero => intro x2 f3 f4 ls H locs _ h; exact absurd h (Nat.not_lt_zero _)
    | succ n ihI5 =>
      intro x2 f3 f4 ls H locs vc hmI5 hl hP hD hS
      have vc := vcs x2 f3 f4 vc
      refine lv_iload_n hx hb d_Mo_forget_7 rfl (lv_at hl 1 rfl) ?_
      refine lv_sipush (v := 960) hx hb d_Mo_forget_8 (by decide) ?_
      refine lv_icmp_ge (tgt := 34) hx hb d_Mo_forget_11 (by decide) (fun h => ?_) (fun h => ?_)
      · have vc := vc.1 h
        exact hret _ _ _ _ _ _ _ _ _ _ _ _ _ _ _ _ _ _ _ _ _ _ _ _ _ _ _ ls _ H locs d_Mo_forget_34 vc hP hD hS
      · have vc := vc.2 h
        refine lv_aload_n hx hb d_Mo_forget_14 rfl (lv_at hl 0 rfl) ?_
        refine va_get (D := D) (ci := 6) (v := .ref (b 18)) (C := R_Mo) (T := F_Mo) (N := 27) hx hb hts in_Mo hown hK hP 0 rfl rfl 20 (by decide) (hts _ fl_Mo_63) (fun _ h => h) rfl d_Mo_forget_15 ?_
        refine lv_iload_n hx hb d_Mo_forget_18 rfl (lv_at hl 1 rfl) ?_
        refine lv_iconst (v := 0) hx hb d_Mo_forget_19 (by decide) ?_
        obtain ⟨vcb, vc⟩ := vc
        refine va_iast hx hb hK hP hD hS 18 0 rfl rfl vcb d_Mo_forget_20 (fun H locs hP hD hS => ?_)
        have hP : va_P D vwCl (wM b cI cJ cZ mki msz mle mel mme mal mic mil mio mab mae msa mlc mli mna mva mma (upd f3 x2.toNatClampNeg 0) mre mlv f4 msh mth mnv mns 0 mmo) H := hP
        have hD : va_D A (wM b cI cJ cZ mki msz mle mel mme mal mic mil mio mab mae msa mlc mli mna mva mma (upd f3 x2.toNatClampNeg 0) mre mlv f4 msh mth mnv mns 0 mmo) := hD
        refine lv_aload_n hx hb d_Mo_forget_21 rfl (lv_at hl 0 rfl) ?_
        refine va_get (D := D) (ci := 6) (v := .ref (b 21)) (C := R_Mo) (T := F_Mo) (N := 27) hx hb hts in_Mo hown hK hP 0 rfl rfl 24 (by decide) (hts _ fl_Mo_72) (fun _ h => h) rfl d_Mo_forget_22 ?_
        refine lv_iload_n hx hb d_Mo_forget_25 rfl (lv_at hl 1 rfl) ?_
        refine lv_lconst (v := 0) hx hb d_Mo_forget_26 (by decide) ?_
        obtain ⟨vcb, vc⟩ := vc
        refine va_last hx hb hK hP hD hS 21 1 rfl rfl vcb d_Mo_forget_27 (fun H locs hP hD hS => ?_)
        have hP : va_P D vwCl (wM b cI cJ cZ mki msz mle mel mme mal mic mil mio mab mae msa mlc mli mna mva mma (upd f3 x2.toNatClampNeg 0) mre mlv (vp_updL f4 x2.toNatClampNeg 0) msh mth mnv mns 0 mmo) H := hP
        have hD : va_D A (wM b cI cJ cZ mki msz mle mel mme mal mic mil mio mab mae msa mlc mli mna mva mma (upd f3 x2.toNatClampNeg 0) mre mlv (vp_updL f4 x2.toNatClampNeg 0) msh mth mnv mns 0 mmo) := hD
        refine lv_iinc (k := 1) (v := x2 + 1) hx hb d_Mo_forget_28 hl rfl rfl (by decide) (lv' := [(1, .int (x2 + 1)), (0, .ref (b 0))]) rfl (fun ls hl => ?_)
        refine lv_goto (tgt := 7) hx hb d_Mo_forget_31 (by decide) ?_
        exact ihI5 (x2 + 1) (upd f3 x2.toNatClampNeg 0) (vp_updL f4 x2.toNatClampNeg 0) ls H locs vc.1 (Nat.lt_of_lt_of_le vc.2 (Nat.le_of_lt_succ hmI5)) (lv_sub hl [1, 0] rfl) hP hD hS
  exact lI5 _ 0 mch mwr ls H locs vc0 (Nat.lt_succ_self _) (lv_sub hl [1, 0] rfl) hP hD hS
theorem h_Mo_forget (l : Launch) (D : va_G) (b : Nat → Nat) (cI cJ cZ : ClassId) (mki : Nat → Int32) (msz : Nat → Int64) (mle : Nat → Int32) (mel : Nat → Int32) (mme : Nat → Int32) (mal : Nat → Int32) (mic : Nat → Int32) (mil : Nat → Int32) (mio : Nat → Int32) (mab : Nat → Int32) (mae : Nat → Int32) (msa : Nat → Int32) (mlc : Nat → Int32) (mli : Nat → Int32) (mna : Nat → Int32) (mva : Nat → Int32) (mma : Nat → Int32) (mch : Nat → Int32) (mre : Nat → Int32) (mlv : Nat → Int32) (mwr : Nat → Int64) (msh : Nat → Int32) (mth : Int32) (mnv : Int32) (mns : Int32) (mfa : Int32) (mmo : Int32) (mki' : Nat → Int32) (msz' : Nat → Int64) (mle' : Nat → Int32) (mel' : Nat → Int32) (mme' : Nat → Int32) (mal' : Nat → Int32) (mic' : Nat → Int32) (mil' : Nat → Int32) (mio' : Nat → Int32) (mab' : Nat → Int32) (mae' : Nat → Int32) (msa' : Nat → Int32) (mlc' : Nat → Int32) (mli' : Nat → Int32) (mna' : Nat → Int32) (mva' : Nat → Int32) (mma' : Nat → Int32) (mch' : Nat → Int32) (mre' : Nat → Int32) (mlv' : Nat → Int32) (mwr' : Nat → Int64) (msh' : Nat → Int32) (mth' : Int32) (mnv' : Int32) (mns' : Int32) (mfa' : Int32) (mmo' : Int32) (vc : V_Mo_forget mki msz mle mel mme mal mic mil mio mab mae msa mlc mli mna mva mma mch mre mlv mwr msh mth mnv mns mfa mmo (fun mki msz mle mel mme mal mic mil mio mab mae msa mlc mli mna mva mma mch mre mlv mwr msh mth mnv mns mfa mmo => mki = mki' ∧ msz = msz' ∧ mle = mle' ∧ mel = mel' ∧ mme = mme' ∧ mal = mal' ∧ mic = mic' ∧ mil = mil' ∧ mio = mio' ∧ mab = mab' ∧ mae = mae' ∧ msa = msa' ∧ mlc = mlc' ∧ mli = mli' ∧ mna = mna' ∧ mva = mva' ∧ mma = mma' ∧ mch = mch' ∧ mre = mre' ∧ mlv = mlv' ∧ mwr = mwr' ∧ msh = msh' ∧ mth = mth' ∧ mnv = mnv' ∧ mns = mns' ∧ mfa = mfa' ∧ mmo = mmo')) : Wm (S := Unit) l y_Mo_forget b_Mo_forget 2 none 0 0 [.ref (b 0)] D (tyA cI cJ cZ) (wM b cI cJ cZ mki msz mle mel mme mal mic mil mio mab mae msa mlc mli mna mva mma mch mre mlv mwr msh mth mnv mns mfa mmo) (fun _ => True) (fun _ => none) (fun _ => (wM b cI cJ cZ mki' msz' mle' mel' mme' mal' mic' mil' mio' mab' mae' msa' mlc' mli' mna' mva' mma' mch' mre' mlv' mwr' msh' mth' mnv' mns' mfa' mmo')) :=
  wm_v (by decide) (Nat.le_of_ble_eq_true rfl) (fun p e s m below meth c ls Q A S hK hP hD hA hS hl hret => g_Mo_forget S (Nat.le_refl _) (Nat.le_refl _) ⟨Nat.le_refl _, Nat.le_refl _⟩ D b cI cJ cZ mki msz mle mel mme mal mic mil mio mab mae msa mlc mli mna mva mma mch mre mlv mwr msh mth mnv mns mfa mmo hK hP hD hA hS hl vc (fun mki msz mle mel mme mal mic mil mio mab mae msa mlc mli mna mva mma mch mre mlv mwr msh mth mnv mns mfa mmo ls pc H locs hd hv hP hD hS => by obtain ⟨rfl, rfl, rfl, rfl, rfl, rfl, rfl, rfl, rfl, rfl, rfl, rfl, rfl, rfl, rfl, rfl, rfl, rfl, rfl, rfl, rfl, rfl, rfl, rfl, rfl, rfl, rfl⟩ := hv; exact hret () ls pc H locs hd trivial hP hD hS))
theorem c_Mo_forget (l : Launch) (D : va_G) (b : Nat → Nat) (cI cJ cZ : ClassId) (mki : Nat → Int32) (msz : Nat → Int64) (mle : Nat → Int32) (mel : Nat → Int32) (mme : Nat → Int32) (mal : Nat → Int32) (mic : Nat → Int32) (mil : Nat → Int32) (mio : Nat → Int32) (mab : Nat → Int32) (mae : Nat → Int32) (msa : Nat → Int32) (mlc : Nat → Int32) (mli : Nat → Int32) (mna : Nat → Int32) (mva : Nat → Int32) (mma : Nat → Int32) (mch : Nat → Int32) (mre : Nat → Int32) (mlv : Nat → Int32) (mwr : Nat → Int64) (msh : Nat → Int32) (mth : Int32) (mnv : Int32) (mns : Int32) (mfa : Int32) (mmo : Int32) : Wm (S := Unit) l y_Mo_forget b_Mo_forget 2 none 0 0 [.ref (b 0)] D (tyA cI cJ cZ) (wM b cI cJ cZ mki msz mle mel mme mal mic mil mio mab mae msa mlc mli mna mva mma mch mre mlv mwr msh mth mnv mns mfa mmo) (fun _ => True) (fun _ => none) (fun _ => (wM b cI cJ cZ mki msz mle mel mme mal mic mil mio mab mae msa mlc mli mna mva mma (fillN 0 960 mch) mre mlv (fillL 0 960 mwr) msh mth mnv mns 0 mmo)) := h_Mo_forget l D b cI cJ cZ mki msz mle mel mme mal mic mil mio mab mae msa mlc mli mna mva mma mch mre mlv mwr msh mth mnv mns mfa mmo _ _ _ _ _ _ _ _ _ _ _ _ _ _ _ _ _ _ _ _ _ _ _ _ _ _ _ (by
  unfold V_Mo_forget
  refine ⟨fun i f g => ∃ k : Nat, k ≤ 960 ∧ i = nI k ∧ f = fillN 0 k mch ∧ g = fillL 0 k mwr, fun i _ _ => 960 - i.toInt.toNat, ⟨0, by decide, rfl, (fillN_0 _ _).symm, (fillL_0 _ _).symm⟩, ?_⟩
  rintro i f g ⟨k, hk, rfl, rfl, rfl⟩
  refine ⟨fun h => ?_, fun h => ?_⟩
  · obtain rfl := fill_end (N := 960) h (by decide) hk; simp
  · have hk2 := fill_step (N := 960) h (by decide) hk
    exact ⟨vp_in_nI hk2 (by decide), vp_in_nI hk2 (by decide), ⟨k + 1, hk2, nI_1 k, by rw [nI_clamp (by omega)]; exact fillN_s _ k _, by rw [nI_clamp (by omega)]; exact fillL_s _ k _⟩, fill_mu hk2 (by decide)⟩)
theorem hd_Mo_forget : y_Mo_forget.cls ≠ "java/lang/invoke/MethodHandle" ∧ y_Mo_forget.cls ≠ "java/lang/invoke/VarHandle" ∧ (parseMethodDescriptor y_Mo_forget.desc).map (fun d => d.parameters.length) = some 0 := ⟨by decide, by decide, by decide +kernel⟩
