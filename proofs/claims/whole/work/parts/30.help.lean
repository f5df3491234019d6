def wO (a : Nat → Nat) (cJ : ClassId) (ou : Nat → Int64) : va_W :=
  [(a 25, .inl (cJ, 1, .inr (.inl ou)))]
theorem IAE_ISE : ¬ IAE = ISE := by decide
theorem ISE_IAE : ¬ ISE = IAE := by decide
theorem UOE_IAE : ¬ UOE = IAE := by decide
theorem UOE_ISE : ¬ UOE = ISE := by decide
theorem kw_La_make : Cond.codeWith y_La_make b_La_make 4 (some .int) [(0, 9, 12, 13), (0, 9, 15, 15)] ∈ W0 := W0_at 182 (by decide +kernel) (by decide +kernel)
theorem s_La_make : Cond.static y_La_make ∈ W0 := W0_at 181 (by decide +kernel) (by decide +kernel)
def V_La_make (ki : Nat → Int32) (co : Nat → Int64) (pr : Nat → Int32) (pa : Nat → Int32) (tw : Nat → Int32) (nv : Int32) (sv : Int32) (ou : Nat → Int64) (x : Int32) (post : Int32 → (Nat → Int32) → (Nat → Int64) → (Nat → Int32) → (Nat → Int32) → (Nat → Int32) → Int32 → Int32 → (Nat → Int64) → Prop) (px : String → (Nat → Int32) → (Nat → Int64) → (Nat → Int32) → (Nat → Int32) → (Nat → Int32) → Int32 → Int32 → (Nat → Int64) → Prop) : Prop :=
  (¬ nv < 0 ∧ (((x = 0 ∨ x = 4 ∨ x = 5) ∧ nv < 40 → (vp_in 0 1 ∧ post 0 (upd ki nv.toNatClampNeg x) (vp_updL co nv.toNatClampNeg 0) pr pa tw (nv + 1) sv (vp_updL ou (0 : Int32).toNatClampNeg ((nv + 1 - 1 : Int32).toInt64)))) ∧ (∀ E : String, E = IAE ∧ ¬ (x = 0 ∨ x = 4 ∨ x = 5) ∨ E = ISE ∧ (x = 0 ∨ x = 4 ∨ x = 5) ∧ ¬ nv < 40 → ((E = IAE → post 1 ki co pr pa tw nv sv ou) ∧ (E = ISE → post 2 ki co pr pa tw nv sv ou) ∧ (¬ E = IAE → ¬ E = ISE → False)))))
set_option maxHeartbeats 4000000 in
set_option maxRecDepth 100000 in
theorem g_La_make {p : Program} {l : Launch} {e : Env} {R : Room} {s : State} {m : MethodId} {args : Array Value} {below : List Frame} {meth : Method} {c : Code} {H : Heap} {locs : List Loc} {Q : State → Prop} {ls : Array Slot} {A : Nat → Prop} (hls : l.stackTraces = false) (S : CallFix p m c b_La_make 4 s args W0 "SchemaJudgeLaw") (htab : c.exceptionTable.toList = tableOf [(0, 9, 12, 13), (0, 9, 15, 15)]) (hN : eN s) (hRf : 8 ≤ R.frames) (hRl : 134 ≤ R.locals) (hRc : 0 + 1 ≤ R.cells ∧ 0 + 6 ≤ R.slots) (D : va_G) (a : Nat → Nat) (cI cJ cZ : ClassId) (ki : Nat → Int32) (co : Nat → Int64) (pr : Nat → Int32) (pa : Nat → Int32) (tw : Nat → Int32) (nv : Int32) (sv : Int32) (ou : Nat → Int64) (x : Int32) (hK : va_K D vwCl (tyA cI cJ cZ) s) (hP : va_P D vwCl (wX a ++ wV a cI cJ ki co pr pa tw nv sv ++ wO a cJ ou) H) (hD : va_D A (wX a ++ wV a cI cJ ki co pr pa tw nv sv ++ wO a cJ ou)) (hA : ∀ q, s.heap.size ≤ q → A q) (hS : va_S A s.heap H locs) (hX : eX A s s.heap) (hl : lv_has ls 4 [(0, .ref (a 24)), (1, .int x), (2, .ref (a 25))]) {post : Int32 → (Nat → Int32) → (Nat → Int64) → (Nat → Int32) → (Nat → Int32) → (Nat → Int32) → Int32 → Int32 → (Nat → Int64) → Prop} {px : String → (Nat → Int32) → (Nat → Int64) → (Nat → Int32) → (Nat → Int32) → (Nat → Int32) → Int32 → Int32 → (Nat → Int64) → Prop} (vc : V_La_make ki co pr pa tw nv sv ou x post px)
    (hret : ∀ (v : Int32) (ki : Nat → Int32) (co : Nat → Int64) (pr : Nat → Int32) (pa : Nat → Int32) (tw : Nat → Int32) (nv : Int32) (sv : Int32) (ou : Nat → Int64) (ls : Array Slot) (pc : Nat) (H : Heap) (locs : List Loc) (k j : Nat), decode b_La_make pc = .ok (.ireturn, 1) → k ≤ 1 → j ≤ 6 → post v ki co pr pa tw nv sv ou → va_P D vwCl (wX a ++ wV a cI cJ ki co pr pa tw nv sv ++ wO a cJ ou) H → va_D A (wX a ++ wV a cI cJ ki co pr pa tw nv sv ++ wO a cJ ou) → va_S A s.heap H locs → W p l e R s m args below meth c H locs k j Q (F0 m pc ls [.int v])) : W p l e R s m args below meth c H locs 0 0 Q (F0 m 0 ls []) := by
  have hx := S.1
  have hb := S.2.1
  have hown := S.2.2.2.1
  have hts := S.2.2.2.2
  unfold V_La_make at vc
  refine lv_aload_n hx hb d_La_make_0 rfl (lv_at hl 2 rfl) ?_
  refine lv_iconst (v := 0) hx hb d_La_make_1 (by decide) ?_
  refine lv_aload_n hx hb d_La_make_2 rfl (lv_at hl 0 rfl) ?_
  refine lv_iload_n hx hb d_La_make_3 rfl (lv_at hl 1 rfl) ?_
  obtain ⟨hpre, vc⟩ := vc
  refine xc_V (As := [.int x]) (rest := [.int 0, .ref (a 25)]) (wr := (wO a cJ ou)) S (c_Sj_make l hls D a cI cJ cZ ki co pr pa tw nv sv x hpre) k_Sj_make i_Sj_make e_Sj_make o_Sj ml_La_7 hd_Sj_make (Nat.le_trans (by decide) hRf) (Nat.le_trans (by decide) hRl) hRc (va_recv hK hP (q0 := 0) (ci := 5) rfl rfl) hK hP hD hS hA hX [0, 1, 2, 3, 4, 5, 6] [7] rfl rfl rfl (by decide) (by decide) (by decide) hl.1 rfl (Nat.le_of_ble_eq_true rfl) d_La_make_4 (fun _ E ce q H locs hbad hce hcv hcl hP hD hS => ?_) (fun _ H locs hok hP hD hS => ?_)
  · have vc := vc.2
    have vc := vc E hbad
    have hP : va_P D vwCl (wX a ++ wV a cI cJ ki co pr pa tw nv sv ++ wO a cJ ou) H := hP.sub [1, 2, 3, 4, 5, 6, 7, 0] rfl
    have hD : va_D A (wX a ++ wV a cI cJ ki co pr pa tw nv sv ++ wO a cJ ou) := hD.sub [1, 2, 3, 4, 5, 6, 7, 0] (by decide) rfl
    by_cases hE0 : E = IAE
    · subst hE0
      have vc := vc.1 rfl
      refine vx_catch (own := "SchemaJudgeLaw") (name := IAE) hown [] ⟨0, 9, 12, 13⟩ [⟨0, 9, 15, 15⟩] htab (fun z hz => by cases hz) (by decide) (by decide) (hts _ cl_La_13) (cast_E hX (by decide +kernel)) hce hcv hcl ?_
      refine lv_astore_n hx hb d_La_make_12 rfl hl (by decide) (lv' := [(3, .ref q), (0, .ref (a 24)), (1, .int x), (2, .ref (a 25))]) rfl (fun ls hl => ?_)
      refine lv_iconst (v := 1) hx hb d_La_make_13 (by decide) ?_
      exact hret _ _ _ _ _ _ _ _ _ ls _ H locs _ _ d_La_make_14 (by decide) (by decide) vc hP hD hS
    have vc := vc.2
    by_cases hE1 : E = ISE
    · subst hE1
      have vc := vc.1 rfl
      refine vx_catch (own := "SchemaJudgeLaw") (name := ISE) hown [⟨0, 9, 12, 13⟩] ⟨0, 9, 15, 15⟩ [] htab (fun z hz => by
          rcases List.mem_cons.mp hz with rfl | hz
          · exact Or.inr ⟨by decide, IAE, hts _ cl_La_13, hN.1⟩
          · cases hz) (by decide) (by decide) (hts _ cl_La_15) (cast_E hX (by decide +kernel)) hce hcv hcl ?_
      refine lv_astore_n hx hb d_La_make_15 rfl hl (by decide) (lv' := [(3, .ref q), (0, .ref (a 24)), (1, .int x), (2, .ref (a 25))]) rfl (fun ls hl => ?_)
      refine lv_iconst (v := 2) hx hb d_La_make_16 (by decide) ?_
      exact hret _ _ _ _ _ _ _ _ _ ls _ H locs _ _ d_La_make_17 (by decide) (by decide) vc hP hD hS
    have vc := vc.2
    exact (vc hE0 hE1).elim
  · have vc := vc.1
    have vc := vc hok
    have hP : va_P D vwCl (wX a ++ wV a cI cJ (upd ki nv.toNatClampNeg x) (vp_updL co nv.toNatClampNeg 0) pr pa tw (nv + 1) sv ++ wO a cJ ou) H := hP.sub [1, 2, 3, 4, 5, 6, 7, 0] rfl
    have hD : va_D A (wX a ++ wV a cI cJ (upd ki nv.toNatClampNeg x) (vp_updL co nv.toNatClampNeg 0) pr pa tw (nv + 1) sv ++ wO a cJ ou) := hD.sub [1, 2, 3, 4, 5, 6, 7, 0] (by decide) rfl
    refine lv_i2l hx hb d_La_make_7 rfl ?_
    obtain ⟨vcb, vc⟩ := vc
    refine va_last hx hb hK hP hD hS 7 1 rfl rfl vcb d_La_make_8 (fun H locs hP hD hS => ?_)
    have hP : va_P D vwCl (wX a ++ wV a cI cJ (upd ki nv.toNatClampNeg x) (vp_updL co nv.toNatClampNeg 0) pr pa tw (nv + 1) sv ++ wO a cJ (vp_updL ou (0 : Int32).toNatClampNeg ((nv + 1 - 1 : Int32).toInt64))) H := hP
    have hD : va_D A (wX a ++ wV a cI cJ (upd ki nv.toNatClampNeg x) (vp_updL co nv.toNatClampNeg 0) pr pa tw (nv + 1) sv ++ wO a cJ (vp_updL ou (0 : Int32).toNatClampNeg ((nv + 1 - 1 : Int32).toInt64))) := hD
    refine lv_goto (tgt := 18) hx hb d_La_make_9 (by decide) ?_
    refine lv_iconst (v := 0) hx hb d_La_make_18 (by decide) ?_
    exact hret _ _ _ _ _ _ _ _ _ ls _ H locs _ _ d_La_make_19 (by decide) (by decide) vc hP hD hS
theorem h_La_make (l : Launch) (hls : l.stackTraces = false) (D : va_G) (a : Nat → Nat) (cI cJ cZ : ClassId) (ki : Nat → Int32) (co : Nat → Int64) (pr : Nat → Int32) (pa : Nat → Int32) (tw : Nat → Int32) (nv : Int32) (sv : Int32) (ou : Nat → Int64) (x : Int32) (r : Int32) (ki' : Nat → Int32) (co' : Nat → Int64) (pr' : Nat → Int32) (pa' : Nat → Int32) (tw' : Nat → Int32) (nv' : Int32) (sv' : Int32) (ou' : Nat → Int64) (vc : V_La_make ki co pr pa tw nv sv ou x (fun v ki co pr pa tw nv sv ou => v = r ∧ ki = ki' ∧ co = co' ∧ pr = pr' ∧ pa = pa' ∧ tw = tw' ∧ nv = nv' ∧ sv = sv' ∧ ou = ou') (fun _ _ _ _ _ _ _ _ _ => True)) : Hm (S := Unit) l y_La_make b_La_make 4 (some .int) [(0, 9, 12, 13), (0, 9, 15, 15)] 8 134 [.ref (a 24), .int x, .ref (a 25)] D (tyA cI cJ cZ) (wX a ++ wV a cI cJ ki co pr pa tw nv sv ++ wO a cJ ou) (fun _ => True) (fun _ => some (.int r)) (fun _ => (wX a ++ wV a cI cJ ki' co' pr' pa' tw' nv' sv' ++ wO a cJ ou')) :=
  hm_of (r := fun _ => r) (by decide) rfl (Nat.le_of_ble_eq_true rfl) (fun p e s m below meth c ls Q A S htab hN hK hP hD hA hS hX hl hret => g_La_make hls S htab hN (Nat.le_refl _) (Nat.le_refl _) ⟨Nat.le_refl _, Nat.le_refl _⟩ D a cI cJ cZ ki co pr pa tw nv sv ou x hK hP hD hA hS hX hl vc
    (fun v ki co pr pa tw nv sv ou ls pc H locs k j hd hk hj hv hP hD hS => by obtain ⟨rfl, rfl, rfl, rfl, rfl, rfl, rfl, rfl, rfl⟩ := hv; exact hret () ls pc H locs k j _ rfl hd hk hj trivial hP hD hS))
theorem c_La_make_1 (l : Launch) (hls : l.stackTraces = false) (D : va_G) (a : Nat → Nat) (cI cJ cZ : ClassId) (ki : Nat → Int32) (co : Nat → Int64) (pr : Nat → Int32) (pa : Nat → Int32) (tw : Nat → Int32) (nv : Int32) (sv : Int32) (ou : Nat → Int64) (x : Int32) (hpre : ¬ nv < 0) (hv1 : ¬ (x = 0 ∨ x = 4 ∨ x = 5)) : Hm (S := Unit) l y_La_make b_La_make 4 (some .int) [(0, 9, 12, 13), (0, 9, 15, 15)] 8 134 [.ref (a 24), .int x, .ref (a 25)] D (tyA cI cJ cZ) (wX a ++ wV a cI cJ ki co pr pa tw nv sv ++ wO a cJ ou) (fun _ => True) (fun _ => some (.int 1)) (fun _ => (wX a ++ wV a cI cJ ki co pr pa tw nv sv ++ wO a cJ ou)) := h_La_make l hls D a cI cJ cZ ki co pr pa tw nv sv ou x 1 ki co pr pa tw nv sv ou (by
  unfold V_La_make
  have h01 : vp_in (0 : Int32) 1 := vp_in_nI (n := 0) (by decide) (by decide)
  refine ⟨hpre, ⟨fun hok => ?_, fun E hbad => ?_⟩⟩
  · first | exact absurd hok hv1 | exact absurd hv1 hok | exact absurd hok.1 hv1 | exact absurd hok.2 hv2 | exact absurd hv2 hok.2 | exact ⟨h01, by simp⟩
  · rcases hbad with ⟨rfl, hb⟩ | ⟨rfl, hb⟩
    · first | exact absurd hb hv1 | exact absurd hb.1 hv1 | exact absurd hb.2 hv2 | exact absurd hb hv2 | exact ⟨fun _ => by simp, fun h => absurd h (by decide), fun h0 h1 => absurd rfl h0⟩
    · first | exact absurd hb hv1 | exact absurd hb.1 hv1 | exact absurd hb.2 hv2 | exact absurd hb hv2 | exact ⟨fun h => absurd h (by decide), fun _ => by simp, fun h0 h1 => absurd rfl h1⟩)
theorem c_La_make_2 (l : Launch) (hls : l.stackTraces = false) (D : va_G) (a : Nat → Nat) (cI cJ cZ : ClassId) (ki : Nat → Int32) (co : Nat → Int64) (pr : Nat → Int32) (pa : Nat → Int32) (tw : Nat → Int32) (nv : Int32) (sv : Int32) (ou : Nat → Int64) (x : Int32) (hpre : ¬ nv < 0) (hv1 : ¬ (¬ (x = 0 ∨ x = 4 ∨ x = 5))) (hv2 : ¬ nv < 40) : Hm (S := Unit) l y_La_make b_La_make 4 (some .int) [(0, 9, 12, 13), (0, 9, 15, 15)] 8 134 [.ref (a 24), .int x, .ref (a 25)] D (tyA cI cJ cZ) (wX a ++ wV a cI cJ ki co pr pa tw nv sv ++ wO a cJ ou) (fun _ => True) (fun _ => some (.int 2)) (fun _ => (wX a ++ wV a cI cJ ki co pr pa tw nv sv ++ wO a cJ ou)) := h_La_make l hls D a cI cJ cZ ki co pr pa tw nv sv ou x 2 ki co pr pa tw nv sv ou (by
  unfold V_La_make
  have h01 : vp_in (0 : Int32) 1 := vp_in_nI (n := 0) (by decide) (by decide)
  refine ⟨hpre, ⟨fun hok => ?_, fun E hbad => ?_⟩⟩
  · first | exact absurd hok hv1 | exact absurd hv1 hok | exact absurd hok.1 hv1 | exact absurd hok.2 hv2 | exact absurd hv2 hok.2 | exact ⟨h01, by simp⟩
  · rcases hbad with ⟨rfl, hb⟩ | ⟨rfl, hb⟩
    · first | exact absurd hb hv1 | exact absurd hb.1 hv1 | exact absurd hb.2 hv2 | exact absurd hb hv2 | exact ⟨fun _ => by simp, fun h => absurd h (by decide), fun h0 h1 => absurd rfl h0⟩
    · first | exact absurd hb hv1 | exact absurd hb.1 hv1 | exact absurd hb.2 hv2 | exact absurd hb hv2 | exact ⟨fun h => absurd h (by decide), fun _ => by simp, fun h0 h1 => absurd rfl h1⟩)
theorem c_La_make_3 (l : Launch) (hls : l.stackTraces = false) (D : va_G) (a : Nat → Nat) (cI cJ cZ : ClassId) (ki : Nat → Int32) (co : Nat → Int64) (pr : Nat → Int32) (pa : Nat → Int32) (tw : Nat → Int32) (nv : Int32) (sv : Int32) (ou : Nat → Int64) (x : Int32) (hpre : ¬ nv < 0) (hv1 : ¬ (¬ (x = 0 ∨ x = 4 ∨ x = 5))) (hv2 : ¬ (¬ nv < 40)) : Hm (S := Unit) l y_La_make b_La_make 4 (some .int) [(0, 9, 12, 13), (0, 9, 15, 15)] 8 134 [.ref (a 24), .int x, .ref (a 25)] D (tyA cI cJ cZ) (wX a ++ wV a cI cJ ki co pr pa tw nv sv ++ wO a cJ ou) (fun _ => True) (fun _ => some (.int 0)) (fun _ => (wX a ++ wV a cI cJ (upd ki nv.toNatClampNeg x) (vp_updL co nv.toNatClampNeg 0) pr pa tw (nv + 1) sv ++ wO a cJ (vp_updL ou 0 ((nv + 1 - 1 : Int32).toInt64)))) := h_La_make l hls D a cI cJ cZ ki co pr pa tw nv sv ou x 0 (upd ki nv.toNatClampNeg x) (vp_updL co nv.toNatClampNeg 0) pr pa tw (nv + 1) sv (vp_updL ou 0 ((nv + 1 - 1 : Int32).toInt64)) (by
  unfold V_La_make
  have h01 : vp_in (0 : Int32) 1 := vp_in_nI (n := 0) (by decide) (by decide)
  refine ⟨hpre, ⟨fun hok => ?_, fun E hbad => ?_⟩⟩
  · first | exact absurd hok hv1 | exact absurd hv1 hok | exact absurd hok.1 hv1 | exact absurd hok.2 hv2 | exact absurd hv2 hok.2 | exact ⟨h01, by simp⟩
  · rcases hbad with ⟨rfl, hb⟩ | ⟨rfl, hb⟩
    · first | exact absurd hb hv1 | exact absurd hb.1 hv1 | exact absurd hb.2 hv2 | exact absurd hb hv2 | exact ⟨fun _ => by simp, fun h => absurd h (by decide), fun h0 h1 => absurd rfl h0⟩
    · first | exact absurd hb hv1 | exact absurd hb.1 hv1 | exact absurd hb.2 hv2 | exact absurd hb hv2 | exact ⟨fun h => absurd h (by decide), fun _ => by simp, fun h0 h1 => absurd rfl h1⟩)
theorem hd_La_make : y_La_make.cls ≠ "java/lang/invoke/MethodHandle" ∧ y_La_make.cls ≠ "java/lang/invoke/VarHandle" ∧ (parseMethodDescriptor y_La_make.desc).map (fun d => d.parameters.length) = some 3 := ⟨by decide, by decide, by decide +kernel⟩
theorem kw_La_truth : Cond.codeWith y_La_truth b_La_truth 4 (some .int) [(0, 9, 12, 15)] ∈ W0 := W0_at 288 (by decide +kernel) (by decide +kernel)
theorem s_La_truth : Cond.static y_La_truth ∈ W0 := W0_at 287 (by decide +kernel) (by decide +kernel)
def V_La_truth (ki : Nat → Int32) (co : Nat → Int64) (pr : Nat → Int32) (pa : Nat → Int32) (tw : Nat → Int32) (nv : Int32) (sv : Int32) (ou : Nat → Int64) (x : Int32) (post : Int32 → (Nat → Int32) → (Nat → Int64) → (Nat → Int32) → (Nat → Int32) → (Nat → Int32) → Int32 → Int32 → (Nat → Int64) → Prop) (px : String → (Nat → Int32) → (Nat → Int64) → (Nat → Int32) → (Nat → Int32) → (Nat → Int32) → Int32 → Int32 → (Nat → Int64) → Prop) : Prop :=
  (¬ nv < 0 ∧ ((nv < 40 → (vp_in 0 1 ∧ post 0 (upd ki nv.toNatClampNeg 1) (vp_updL co nv.toNatClampNeg (if x = 0 then 0 else 1 : Int64)) pr pa tw (nv + 1) sv (vp_updL ou (0 : Int32).toNatClampNeg ((nv + 1 - 1 : Int32).toInt64)))) ∧ (∀ E : String, E = ISE ∧ ¬ nv < 40 → ((E = ISE → post 1 ki co pr pa tw nv sv ou) ∧ (¬ E = ISE → False)))))
set_option maxHeartbeats 4000000 in
set_option maxRecDepth 100000 in
theorem g_La_truth {p : Program} {l : Launch} {e : Env} {R : Room} {s : State} {m : MethodId} {args : Array Value} {below : List Frame} {meth : Method} {c : Code} {H : Heap} {locs : List Loc} {Q : State → Prop} {ls : Array Slot} {A : Nat → Prop} (hls : l.stackTraces = false) (S : CallFix p m c b_La_truth 4 s args W0 "SchemaJudgeLaw") (htab : c.exceptionTable.toList = tableOf [(0, 9, 12, 15)]) (hN : eN s) (hRf : 8 ≤ R.frames) (hRl : 134 ≤ R.locals) (hRc : 0 + 1 ≤ R.cells ∧ 0 + 6 ≤ R.slots) (D : va_G) (a : Nat → Nat) (cI cJ cZ : ClassId) (ki : Nat → Int32) (co : Nat → Int64) (pr : Nat → Int32) (pa : Nat → Int32) (tw : Nat → Int32) (nv : Int32) (sv : Int32) (ou : Nat → Int64) (x : Int32) (hK : va_K D vwCl (tyA cI cJ cZ) s) (hP : va_P D vwCl (wX a ++ wV a cI cJ ki co pr pa tw nv sv ++ wO a cJ ou) H) (hD : va_D A (wX a ++ wV a cI cJ ki co pr pa tw nv sv ++ wO a cJ ou)) (hA : ∀ q, s.heap.size ≤ q → A q) (hS : va_S A s.heap H locs) (hX : eX A s s.heap) (hl : lv_has ls 4 [(0, .ref (a 24)), (1, .int x), (2, .ref (a 25))]) {post : Int32 → (Nat → Int32) → (Nat → Int64) → (Nat → Int32) → (Nat → Int32) → (Nat → Int32) → Int32 → Int32 → (Nat → Int64) → Prop} {px : String → (Nat → Int32) → (Nat → Int64) → (Nat → Int32) → (Nat → Int32) → (Nat → Int32) → Int32 → Int32 → (Nat → Int64) → Prop} (vc : V_La_truth ki co pr pa tw nv sv ou x post px)
    (hret : ∀ (v : Int32) (ki : Nat → Int32) (co : Nat → Int64) (pr : Nat → Int32) (pa : Nat → Int32) (tw : Nat → Int32) (nv : Int32) (sv : Int32) (ou : Nat → Int64) (ls : Array Slot) (pc : Nat) (H : Heap) (locs : List Loc) (k j : Nat), decode b_La_truth pc = .ok (.ireturn, 1) → k ≤ 1 → j ≤ 6 → post v ki co pr pa tw nv sv ou → va_P D vwCl (wX a ++ wV a cI cJ ki co pr pa tw nv sv ++ wO a cJ ou) H → va_D A (wX a ++ wV a cI cJ ki co pr pa tw nv sv ++ wO a cJ ou) → va_S A s.heap H locs → W p l e R s m args below meth c H locs k j Q (F0 m pc ls [.int v])) : W p l e R s m args below meth c H locs 0 0 Q (F0 m 0 ls []) := by
  have hx := S.1
  have hb := S.2.1
  have hown := S.2.2.2.1
  have hts := S.2.2.2.2
  unfold V_La_truth at vc
  refine lv_aload_n hx hb d_La_truth_0 rfl (lv_at hl 2 rfl) ?_
  refine lv_iconst (v := 0) hx hb d_La_truth_1 (by decide) ?_
  refine lv_aload_n hx hb d_La_truth_2 rfl (lv_at hl 0 rfl) ?_
  refine lv_iload_n hx hb d_La_truth_3 rfl (lv_at hl 1 rfl) ?_
  obtain ⟨hpre, vc⟩ := vc
  refine xc_V (As := [.int x]) (rest := [.int 0, .ref (a 25)]) (wr := (wO a cJ ou)) S (c_Sj_truth l hls D a cI cJ cZ ki co pr pa tw nv sv x hpre) k_Sj_truth i_Sj_truth e_Sj_truth o_Sj ml_La_17 hd_Sj_truth (Nat.le_trans (by decide) hRf) (Nat.le_trans (by decide) hRl) hRc (va_recv hK hP (q0 := 0) (ci := 5) rfl rfl) hK hP hD hS hA hX [0, 1, 2, 3, 4, 5, 6] [7] rfl rfl rfl (by decide) (by decide) (by decide) hl.1 rfl (Nat.le_of_ble_eq_true rfl) d_La_truth_4 (fun _ E ce q H locs hbad hce hcv hcl hP hD hS => ?_) (fun _ H locs hok hP hD hS => ?_)
  · have vc := vc.2
    have vc := vc E hbad
    have hP : va_P D vwCl (wX a ++ wV a cI cJ ki co pr pa tw nv sv ++ wO a cJ ou) H := hP.sub [1, 2, 3, 4, 5, 6, 7, 0] rfl
    have hD : va_D A (wX a ++ wV a cI cJ ki co pr pa tw nv sv ++ wO a cJ ou) := hD.sub [1, 2, 3, 4, 5, 6, 7, 0] (by decide) rfl
    by_cases hE0 : E = ISE
    · subst hE0
      have vc := vc.1 rfl
      refine vx_catch (own := "SchemaJudgeLaw") (name := ISE) hown [] ⟨0, 9, 12, 15⟩ [] htab (fun z hz => by cases hz) (by decide) (by decide) (hts _ cl_La_15) (cast_E hX (by decide +kernel)) hce hcv hcl ?_
      refine lv_astore_n hx hb d_La_truth_12 rfl hl (by decide) (lv' := [(3, .ref q), (0, .ref (a 24)), (1, .int x), (2, .ref (a 25))]) rfl (fun ls hl => ?_)
      refine lv_iconst (v := 1) hx hb d_La_truth_13 (by decide) ?_
      exact hret _ _ _ _ _ _ _ _ _ ls _ H locs _ _ d_La_truth_14 (by decide) (by decide) vc hP hD hS
    have vc := vc.2
    exact (vc hE0).elim
  · have vc := vc.1
    have vc := vc hok
    have hP : va_P D vwCl (wX a ++ wV a cI cJ (upd ki nv.toNatClampNeg 1) (vp_updL co nv.toNatClampNeg (if x = 0 then 0 else 1 : Int64)) pr pa tw (nv + 1) sv ++ wO a cJ ou) H := hP.sub [1, 2, 3, 4, 5, 6, 7, 0] rfl
    have hD : va_D A (wX a ++ wV a cI cJ (upd ki nv.toNatClampNeg 1) (vp_updL co nv.toNatClampNeg (if x = 0 then 0 else 1 : Int64)) pr pa tw (nv + 1) sv ++ wO a cJ ou) := hD.sub [1, 2, 3, 4, 5, 6, 7, 0] (by decide) rfl
    refine lv_i2l hx hb d_La_truth_7 rfl ?_
    obtain ⟨vcb, vc⟩ := vc
    refine va_last hx hb hK hP hD hS 7 1 rfl rfl vcb d_La_truth_8 (fun H locs hP hD hS => ?_)
    have hP : va_P D vwCl (wX a ++ wV a cI cJ (upd ki nv.toNatClampNeg 1) (vp_updL co nv.toNatClampNeg (if x = 0 then 0 else 1 : Int64)) pr pa tw (nv + 1) sv ++ wO a cJ (vp_updL ou (0 : Int32).toNatClampNeg ((nv + 1 - 1 : Int32).toInt64))) H := hP
    have hD : va_D A (wX a ++ wV a cI cJ (upd ki nv.toNatClampNeg 1) (vp_updL co nv.toNatClampNeg (if x = 0 then 0 else 1 : Int64)) pr pa tw (nv + 1) sv ++ wO a cJ (vp_updL ou (0 : Int32).toNatClampNeg ((nv + 1 - 1 : Int32).toInt64))) := hD
    refine lv_goto (tgt := 15) hx hb d_La_truth_9 (by decide) ?_
    refine lv_iconst (v := 0) hx hb d_La_truth_15 (by decide) ?_
    exact hret _ _ _ _ _ _ _ _ _ ls _ H locs _ _ d_La_truth_16 (by decide) (by decide) vc hP hD hS
theorem h_La_truth (l : Launch) (hls : l.stackTraces = false) (D : va_G) (a : Nat → Nat) (cI cJ cZ : ClassId) (ki : Nat → Int32) (co : Nat → Int64) (pr : Nat → Int32) (pa : Nat → Int32) (tw : Nat → Int32) (nv : Int32) (sv : Int32) (ou : Nat → Int64) (x : Int32) (r : Int32) (ki' : Nat → Int32) (co' : Nat → Int64) (pr' : Nat → Int32) (pa' : Nat → Int32) (tw' : Nat → Int32) (nv' : Int32) (sv' : Int32) (ou' : Nat → Int64) (vc : V_La_truth ki co pr pa tw nv sv ou x (fun v ki co pr pa tw nv sv ou => v = r ∧ ki = ki' ∧ co = co' ∧ pr = pr' ∧ pa = pa' ∧ tw = tw' ∧ nv = nv' ∧ sv = sv' ∧ ou = ou') (fun _ _ _ _ _ _ _ _ _ => True)) : Hm (S := Unit) l y_La_truth b_La_truth 4 (some .int) [(0, 9, 12, 15)] 8 134 [.ref (a 24), .int x, .ref (a 25)] D (tyA cI cJ cZ) (wX a ++ wV a cI cJ ki co pr pa tw nv sv ++ wO a cJ ou) (fun _ => True) (fun _ => some (.int r)) (fun _ => (wX a ++ wV a cI cJ ki' co' pr' pa' tw' nv' sv' ++ wO a cJ ou')) :=
  hm_of (r := fun _ => r) (by decide) rfl (Nat.le_of_ble_eq_true rfl) (fun p e s m below meth c ls Q A S htab hN hK hP hD hA hS hX hl hret => g_La_truth hls S htab hN (Nat.le_refl _) (Nat.le_refl _) ⟨Nat.le_refl _, Nat.le_refl _⟩ D a cI cJ cZ ki co pr pa tw nv sv ou x hK hP hD hA hS hX hl vc
    (fun v ki co pr pa tw nv sv ou ls pc H locs k j hd hk hj hv hP hD hS => by obtain ⟨rfl, rfl, rfl, rfl, rfl, rfl, rfl, rfl, rfl⟩ := hv; exact hret () ls pc H locs k j _ rfl hd hk hj trivial hP hD hS))
theorem c_La_truth_1 (l : Launch) (hls : l.stackTraces = false) (D : va_G) (a : Nat → Nat) (cI cJ cZ : ClassId) (ki : Nat → Int32) (co : Nat → Int64) (pr : Nat → Int32) (pa : Nat → Int32) (tw : Nat → Int32) (nv : Int32) (sv : Int32) (ou : Nat → Int64) (x : Int32) (hpre : ¬ nv < 0) (hv1 : ¬ nv < 40) : Hm (S := Unit) l y_La_truth b_La_truth 4 (some .int) [(0, 9, 12, 15)] 8 134 [.ref (a 24), .int x, .ref (a 25)] D (tyA cI cJ cZ) (wX a ++ wV a cI cJ ki co pr pa tw nv sv ++ wO a cJ ou) (fun _ => True) (fun _ => some (.int 1)) (fun _ => (wX a ++ wV a cI cJ ki co pr pa tw nv sv ++ wO a cJ ou)) := h_La_truth l hls D a cI cJ cZ ki co pr pa tw nv sv ou x 1 ki co pr pa tw nv sv ou (by
  unfold V_La_truth
  have h01 : vp_in (0 : Int32) 1 := vp_in_nI (n := 0) (by decide) (by decide)
  refine ⟨hpre, ⟨fun hok => ?_, fun E hbad => ?_⟩⟩
  · first | exact absurd hok hv1 | exact absurd hv1 hok | exact absurd hok.1 hv1 | exact absurd hok.2 hv2 | exact absurd hv2 hok.2 | exact ⟨h01, by simp⟩
  · rcases hbad with ⟨rfl, hb⟩
    · first | exact absurd hb hv1 | exact absurd hb.1 hv1 | exact absurd hb.2 hv2 | exact absurd hb hv2 | exact ⟨fun _ => by simp, fun h0 => absurd rfl h0⟩)
theorem c_La_truth_2 (l : Launch) (hls : l.stackTraces = false) (D : va_G) (a : Nat → Nat) (cI cJ cZ : ClassId) (ki : Nat → Int32) (co : Nat → Int64) (pr : Nat → Int32) (pa : Nat → Int32) (tw : Nat → Int32) (nv : Int32) (sv : Int32) (ou : Nat → Int64) (x : Int32) (hpre : ¬ nv < 0) (hv1 : ¬ (¬ nv < 40)) : Hm (S := Unit) l y_La_truth b_La_truth 4 (some .int) [(0, 9, 12, 15)] 8 134 [.ref (a 24), .int x, .ref (a 25)] D (tyA cI cJ cZ) (wX a ++ wV a cI cJ ki co pr pa tw nv sv ++ wO a cJ ou) (fun _ => True) (fun _ => some (.int 0)) (fun _ => (wX a ++ wV a cI cJ (upd ki nv.toNatClampNeg 1) (vp_updL co nv.toNatClampNeg (if x = 0 then 0 else 1 : Int64)) pr pa tw (nv + 1) sv ++ wO a cJ (vp_updL ou 0 ((nv + 1 - 1 : Int32).toInt64)))) := h_La_truth l hls D a cI cJ cZ ki co pr pa tw nv sv ou x 0 (upd ki nv.toNatClampNeg 1) (vp_updL co nv.toNatClampNeg (if x = 0 then 0 else 1 : Int64)) pr pa tw (nv + 1) sv (vp_updL ou 0 ((nv + 1 - 1 : Int32).toInt64)) (by
  unfold V_La_truth
  have h01 : vp_in (0 : Int32) 1 := vp_in_nI (n := 0) (by decide) (by decide)
  refine ⟨hpre, ⟨fun hok => ?_, fun E hbad => ?_⟩⟩
  · first | exact absurd hok hv1 | exact absurd hv1 hok | exact absurd hok.1 hv1 | exact absurd hok.2 hv2 | exact absurd hv2 hok.2 | exact ⟨h01, by simp⟩
  · rcases hbad with ⟨rfl, hb⟩
    · first | exact absurd hb hv1 | exact absurd hb.1 hv1 | exact absurd hb.2 hv2 | exact absurd hb hv2 | exact ⟨fun _ => by simp, fun h0 => absurd rfl h0⟩)
theorem hd_La_truth : y_La_truth.cls ≠ "java/lang/invoke/MethodHandle" ∧ y_La_truth.cls ≠ "java/lang/invoke/VarHandle" ∧ (parseMethodDescriptor y_La_truth.desc).map (fun d => d.parameters.length) = some 3 := ⟨by decide, by decide, by decide +kernel⟩
theorem kw_La_number : Cond.codeWith y_La_number b_La_number 5 (some .int) [(0, 10, 13, 13), (0, 10, 17, 15)] ∈ W0 := W0_at 295 (by decide +kernel) (by decide +kernel)
theorem s_La_number : Cond.static y_La_number ∈ W0 := W0_at 294 (by decide +kernel) (by decide +kernel)
def V_La_number (ki : Nat → Int32) (co : Nat → Int64) (pr : Nat → Int32) (pa : Nat → Int32) (tw : Nat → Int32) (nv : Int32) (sv : Int32) (ou : Nat → Int64) (x : Int32) (y : Int32) (post : Int32 → (Nat → Int32) → (Nat → Int64) → (Nat → Int32) → (Nat → Int32) → (Nat → Int32) → Int32 → Int32 → (Nat → Int64) → Prop) (px : String → (Nat → Int32) → (Nat → Int64) → (Nat → Int32) → (Nat → Int32) → (Nat → Int32) → Int32 → Int32 → (Nat → Int64) → Prop) : Prop :=
  (¬ nv < 0 ∧ (((sIn x (-99999) 99999 && sIn y (-3) 3) = true ∧ nv < 40 → (vp_in 0 1 ∧ post 0 (upd ki nv.toNatClampNeg 2) (vp_updL co nv.toNatClampNeg (x.toInt64 * (thou (y + 3 : Int32).toNatClampNeg).toInt64)) pr pa tw (nv + 1) sv (vp_updL ou (0 : Int32).toNatClampNeg ((nv + 1 - 1 : Int32).toInt64)))) ∧ (∀ E : String, E = IAE ∧ ¬ (sIn x (-99999) 99999 && sIn y (-3) 3) = true ∨ E = ISE ∧ (sIn x (-99999) 99999 && sIn y (-3) 3) = true ∧ ¬ nv < 40 → ((E = IAE → post 1 ki co pr pa tw nv sv ou) ∧ (E = ISE → post 2 ki co pr pa tw nv sv ou) ∧ (¬ E = IAE → ¬ E = ISE → False)))))
set_option maxHeartbeats 4000000 in
set_option maxRecDepth 100000 in
theorem g_La_number {p : Program} {l : Launch} {e : Env} {R : Room} {s : State} {m : MethodId} {args : Array Value} {below : List Frame} {meth : Method} {c : Code} {H : Heap} {locs : List Loc} {Q : State → Prop} {ls : Array Slot} {A : Nat → Prop} (hls : l.stackTraces = false) (S : CallFix p m c b_La_number 5 s args W0 "SchemaJudgeLaw") (htab : c.exceptionTable.toList = tableOf [(0, 10, 13, 13), (0, 10, 17, 15)]) (hN : eN s) (hRf : 8 ≤ R.frames) (hRl : 135 ≤ R.locals) (hRc : 0 + 1 ≤ R.cells ∧ 0 + 6 ≤ R.slots) (D : va_G) (a : Nat → Nat) (cI cJ cZ : ClassId) (ki : Nat → Int32) (co : Nat → Int64) (pr : Nat → Int32) (pa : Nat → Int32) (tw : Nat → Int32) (nv : Int32) (sv : Int32) (ou : Nat → Int64) (x : Int32) (y : Int32) (hK : va_K D vwCl (tyA cI cJ cZ) s) (hP : va_P D vwCl (wX a ++ wV a cI cJ ki co pr pa tw nv sv ++ wO a cJ ou) H) (hD : va_D A (wX a ++ wV a cI cJ ki co pr pa tw nv sv ++ wO a cJ ou)) (hA : ∀ q, s.heap.size ≤ q → A q) (hS : va_S A s.heap H locs) (hX : eX A s s.heap) (hl : lv_has ls 5 [(0, .ref (a 24)), (1, .int x), (2, .int y), (3, .ref (a 25))]) {post : Int32 → (Nat → Int32) → (Nat → Int64) → (Nat → Int32) → (Nat → Int32) → (Nat → Int32) → Int32 → Int32 → (Nat → Int64) → Prop} {px : String → (Nat → Int32) → (Nat → Int64) → (Nat → Int32) → (Nat → Int32) → (Nat → Int32) → Int32 → Int32 → (Nat → Int64) → Prop} (vc : V_La_number ki co pr pa tw nv sv ou x y post px)
    (hret : ∀ (v : Int32) (ki : Nat → Int32) (co : Nat → Int64) (pr : Nat → Int32) (pa : Nat → Int32) (tw : Nat → Int32) (nv : Int32) (sv : Int32) (ou : Nat → Int64) (ls : Array Slot) (pc : Nat) (H : Heap) (locs : List Loc) (k j : Nat), decode b_La_number pc = .ok (.ireturn, 1) → k ≤ 1 → j ≤ 6 → post v ki co pr pa tw nv sv ou → va_P D vwCl (wX a ++ wV a cI cJ ki co pr pa tw nv sv ++ wO a cJ ou) H → va_D A (wX a ++ wV a cI cJ ki co pr pa tw nv sv ++ wO a cJ ou) → va_S A s.heap H locs → W p l e R s m args below meth c H locs k j Q (F0 m pc ls [.int v])) : W p l e R s m args below meth c H locs 0 0 Q (F0 m 0 ls []) := by
  have hx := S.1
  have hb := S.2.1
  have hown := S.2.2.2.1
  have hts := S.2.2.2.2
  unfold V_La_number at vc
  refine lv_aload_n hx hb d_La_number_0 rfl (lv_at hl 3 rfl) ?_
  refine lv_iconst (v := 0) hx hb d_La_number_1 (by decide) ?_
  refine lv_aload_n hx hb d_La_number_2 rfl (lv_at hl 0 rfl) ?_
  refine lv_iload_n hx hb d_La_number_3 rfl (lv_at hl 1 rfl) ?_
  refine lv_iload_n hx hb d_La_number_4 rfl (lv_at hl 2 rfl) ?_
  obtain ⟨hpre, vc⟩ := vc
  refine xc_V (As := [.int x, .int y]) (rest := [.int 0, .ref (a 25)]) (wr := (wO a cJ ou)) S (c_Sj_number l hls D a cI cJ cZ ki co pr pa tw nv sv x y hpre) k_Sj_number i_Sj_number e_Sj_number o_Sj ml_La_21 hd_Sj_number (Nat.le_trans (by decide) hRf) (Nat.le_trans (by decide) hRl) hRc (va_recv hK hP (q0 := 0) (ci := 5) rfl rfl) hK hP hD hS hA hX [0, 1, 2, 3, 4, 5, 6] [7] rfl rfl rfl (by decide) (by decide) (by decide) hl.1 rfl (Nat.le_of_ble_eq_true rfl) d_La_number_5 (fun _ E ce q H locs hbad hce hcv hcl hP hD hS => ?_) (fun _ H locs hok hP hD hS => ?_)
  · have vc := vc.2
    have vc := vc E hbad
    have hP : va_P D vwCl (wX a ++ wV a cI cJ ki co pr pa tw nv sv ++ wO a cJ ou) H := hP.sub [1, 2, 3, 4, 5, 6, 7, 0] rfl
    have hD : va_D A (wX a ++ wV a cI cJ ki co pr pa tw nv sv ++ wO a cJ ou) := hD.sub [1, 2, 3, 4, 5, 6, 7, 0] (by decide) rfl
    by_cases hE0 : E = IAE
    · subst hE0
      have vc := vc.1 rfl
      refine vx_catch (own := "SchemaJudgeLaw") (name := IAE) hown [] ⟨0, 10, 13, 13⟩ [⟨0, 10, 17, 15⟩] htab (fun z hz => by cases hz) (by decide) (by decide) (hts _ cl_La_13) (cast_E hX (by decide +kernel)) hce hcv hcl ?_
      refine lv_astore hx hb d_La_number_13 hl (by decide) (lv' := [(4, .ref q), (0, .ref (a 24)), (1, .int x), (2, .int y), (3, .ref (a 25))]) rfl (fun ls hl => ?_)
      refine lv_iconst (v := 1) hx hb d_La_number_15 (by decide) ?_
      exact hret _ _ _ _ _ _ _ _ _ ls _ H locs _ _ d_La_number_16 (by decide) (by decide) vc hP hD hS
    have vc := vc.2
    by_cases hE1 : E = ISE
    · subst hE1
      have vc := vc.1 rfl
      refine vx_catch (own := "SchemaJudgeLaw") (name := ISE) hown [⟨0, 10, 13, 13⟩] ⟨0, 10, 17, 15⟩ [] htab (fun z hz => by
          rcases List.mem_cons.mp hz with rfl | hz
          · exact Or.inr ⟨by decide, IAE, hts _ cl_La_13, hN.1⟩
          · cases hz) (by decide) (by decide) (hts _ cl_La_15) (cast_E hX (by decide +kernel)) hce hcv hcl ?_
      refine lv_astore hx hb d_La_number_17 hl (by decide) (lv' := [(4, .ref q), (0, .ref (a 24)), (1, .int x), (2, .int y), (3, .ref (a 25))]) rfl (fun ls hl => ?_)
      refine lv_iconst (v := 2) hx hb d_La_number_19 (by decide) ?_
      exact hret _ _ _ _ _ _ _ _ _ ls _ H locs _ _ d_La_number_20 (by decide) (by decide) vc hP hD hS
    have vc := vc.2
    exact (vc hE0 hE1).elim
  · have vc := vc.1
    have vc := vc hok
    have hP : va_P D vwCl (wX a ++ wV a cI cJ (upd ki nv.toNatClampNeg 2) (vp_updL co nv.toNatClampNeg (x.toInt64 * (thou (y + 3 : Int32).toNatClampNeg).toInt64)) pr pa tw (nv + 1) sv ++ wO a cJ ou) H := hP.sub [1, 2, 3, 4, 5, 6, 7, 0] rfl
    have hD : va_D A (wX a ++ wV a cI cJ (upd ki nv.toNatClampNeg 2) (vp_updL co nv.toNatClampNeg (x.toInt64 * (thou (y + 3 : Int32).toNatClampNeg).toInt64)) pr pa tw (nv + 1) sv ++ wO a cJ ou) := hD.sub [1, 2, 3, 4, 5, 6, 7, 0] (by decide) rfl
    refine lv_i2l hx hb d_La_number_8 rfl ?_
    obtain ⟨vcb, vc⟩ := vc
    refine va_last hx hb hK hP hD hS 7 1 rfl rfl vcb d_La_number_9 (fun H locs hP hD hS => ?_)
    have hP : va_P D vwCl (wX a ++ wV a cI cJ (upd ki nv.toNatClampNeg 2) (vp_updL co nv.toNatClampNeg (x.toInt64 * (thou (y + 3 : Int32).toNatClampNeg).toInt64)) pr pa tw (nv + 1) sv ++ wO a cJ (vp_updL ou (0 : Int32).toNatClampNeg ((nv + 1 - 1 : Int32).toInt64))) H := hP
    have hD : va_D A (wX a ++ wV a cI cJ (upd ki nv.toNatClampNeg 2) (vp_updL co nv.toNatClampNeg (x.toInt64 * (thou (y + 3 : Int32).toNatClampNeg).toInt64)) pr pa tw (nv + 1) sv ++ wO a cJ (vp_updL ou (0 : Int32).toNatClampNeg ((nv + 1 - 1 : Int32).toInt64))) := hD
    refine lv_goto (tgt := 21) hx hb d_La_number_10 (by decide) ?_
    refine lv_iconst (v := 0) hx hb d_La_number_21 (by decide) ?_
    exact hret _ _ _ _ _ _ _ _ _ ls _ H locs _ _ d_La_number_22 (by decide) (by decide) vc hP hD hS
theorem h_La_number (l : Launch) (hls : l.stackTraces = false) (D : va_G) (a : Nat → Nat) (cI cJ cZ : ClassId) (ki : Nat → Int32) (co : Nat → Int64) (pr : Nat → Int32) (pa : Nat → Int32) (tw : Nat → Int32) (nv : Int32) (sv : Int32) (ou : Nat → Int64) (x : Int32) (y : Int32) (r : Int32) (ki' : Nat → Int32) (co' : Nat → Int64) (pr' : Nat → Int32) (pa' : Nat → Int32) (tw' : Nat → Int32) (nv' : Int32) (sv' : Int32) (ou' : Nat → Int64) (vc : V_La_number ki co pr pa tw nv sv ou x y (fun v ki co pr pa tw nv sv ou => v = r ∧ ki = ki' ∧ co = co' ∧ pr = pr' ∧ pa = pa' ∧ tw = tw' ∧ nv = nv' ∧ sv = sv' ∧ ou = ou') (fun _ _ _ _ _ _ _ _ _ => True)) : Hm (S := Unit) l y_La_number b_La_number 5 (some .int) [(0, 10, 13, 13), (0, 10, 17, 15)] 8 135 [.ref (a 24), .int x, .int y, .ref (a 25)] D (tyA cI cJ cZ) (wX a ++ wV a cI cJ ki co pr pa tw nv sv ++ wO a cJ ou) (fun _ => True) (fun _ => some (.int r)) (fun _ => (wX a ++ wV a cI cJ ki' co' pr' pa' tw' nv' sv' ++ wO a cJ ou')) :=
  hm_of (r := fun _ => r) (by decide) rfl (Nat.le_of_ble_eq_true rfl) (fun p e s m below meth c ls Q A S htab hN hK hP hD hA hS hX hl hret => g_La_number hls S htab hN (Nat.le_refl _) (Nat.le_refl _) ⟨Nat.le_refl _, Nat.le_refl _⟩ D a cI cJ cZ ki co pr pa tw nv sv ou x y hK hP hD hA hS hX hl vc
    (fun v ki co pr pa tw nv sv ou ls pc H locs k j hd hk hj hv hP hD hS => by obtain ⟨rfl, rfl, rfl, rfl, rfl, rfl, rfl, rfl, rfl⟩ := hv; exact hret () ls pc H locs k j _ rfl hd hk hj trivial hP hD hS))
theorem c_La_number_1 (l : Launch) (hls : l.stackTraces = false) (D : va_G) (a : Nat → Nat) (cI cJ cZ : ClassId) (ki : Nat → Int32) (co : Nat → Int64) (pr : Nat → Int32) (pa : Nat → Int32) (tw : Nat → Int32) (nv : Int32) (sv : Int32) (ou : Nat → Int64) (x : Int32) (y : Int32) (hpre : ¬ nv < 0) (hv1 : ¬ (sIn x (-99999) 99999 && sIn y (-3) 3) = true) : Hm (S := Unit) l y_La_number b_La_number 5 (some .int) [(0, 10, 13, 13), (0, 10, 17, 15)] 8 135 [.ref (a 24), .int x, .int y, .ref (a 25)] D (tyA cI cJ cZ) (wX a ++ wV a cI cJ ki co pr pa tw nv sv ++ wO a cJ ou) (fun _ => True) (fun _ => some (.int 1)) (fun _ => (wX a ++ wV a cI cJ ki co pr pa tw nv sv ++ wO a cJ ou)) := h_La_number l hls D a cI cJ cZ ki co pr pa tw nv sv ou x y 1 ki co pr pa tw nv sv ou (by
  unfold V_La_number
  have h01 : vp_in (0 : Int32) 1 := vp_in_nI (n := 0) (by decide) (by decide)
  refine ⟨hpre, ⟨fun hok => ?_, fun E hbad => ?_⟩⟩
  · first | exact absurd hok hv1 | exact absurd hv1 hok | exact absurd hok.1 hv1 | exact absurd hok.2 hv2 | exact absurd hv2 hok.2 | exact ⟨h01, by simp⟩
  · rcases hbad with ⟨rfl, hb⟩ | ⟨rfl, hb⟩
    · first | exact absurd hb hv1 | exact absurd hb.1 hv1 | exact absurd hb.2 hv2 | exact absurd hb hv2 | exact ⟨fun _ => by simp, fun h => absurd h (by decide), fun h0 h1 => absurd rfl h0⟩
    · first | exact absurd hb hv1 | exact absurd hb.1 hv1 | exact absurd hb.2 hv2 | exact absurd hb hv2 | exact ⟨fun h => absurd h (by decide), fun _ => by simp, fun h0 h1 => absurd rfl h1⟩)
theorem c_La_number_2 (l : Launch) (hls : l.stackTraces = false) (D : va_G) (a : Nat → Nat) (cI cJ cZ : ClassId) (ki : Nat → Int32) (co : Nat → Int64) (pr : Nat → Int32) (pa : Nat → Int32) (tw : Nat → Int32) (nv : Int32) (sv : Int32) (ou : Nat → Int64) (x : Int32) (y : Int32) (hpre : ¬ nv < 0) (hv1 : ¬ (¬ (sIn x (-99999) 99999 && sIn y (-3) 3) = true)) (hv2 : ¬ nv < 40) : Hm (S := Unit) l y_La_number b_La_number 5 (some .int) [(0, 10, 13, 13), (0, 10, 17, 15)] 8 135 [.ref (a 24), .int x, .int y, .ref (a 25)] D (tyA cI cJ cZ) (wX a ++ wV a cI cJ ki co pr pa tw nv sv ++ wO a cJ ou) (fun _ => True) (fun _ => some (.int 2)) (fun _ => (wX a ++ wV a cI cJ ki co pr pa tw nv sv ++ wO a cJ ou)) := h_La_number l hls D a cI cJ cZ ki co pr pa tw nv sv ou x y 2 ki co pr pa tw nv sv ou (by
  unfold V_La_number
  have h01 : vp_in (0 : Int32) 1 := vp_in_nI (n := 0) (by decide) (by decide)
  refine ⟨hpre, ⟨fun hok => ?_, fun E hbad => ?_⟩⟩
  · first | exact absurd hok hv1 | exact absurd hv1 hok | exact absurd hok.1 hv1 | exact absurd hok.2 hv2 | exact absurd hv2 hok.2 | exact ⟨h01, by simp⟩
  · rcases hbad with ⟨rfl, hb⟩ | ⟨rfl, hb⟩
    · first | exact absurd hb hv1 | exact absurd hb.1 hv1 | exact absurd hb.2 hv2 | exact absurd hb hv2 | exact ⟨fun _ => by simp, fun h => absurd h (by decide), fun h0 h1 => absurd rfl h0⟩
    · first | exact absurd hb hv1 | exact absurd hb.1 hv1 | exact absurd hb.2 hv2 | exact absurd hb hv2 | exact ⟨fun h => absurd h (by decide), fun _ => by simp, fun h0 h1 => absurd rfl h1⟩)
theorem c_La_number_3 (l : Launch) (hls : l.stackTraces = false) (D : va_G) (a : Nat → Nat) (cI cJ cZ : ClassId) (ki : Nat → Int32) (co : Nat → Int64) (pr : Nat → Int32) (pa : Nat → Int32) (tw : Nat → Int32) (nv : Int32) (sv : Int32) (ou : Nat → Int64) (x : Int32) (y : Int32) (hpre : ¬ nv < 0) (hv1 : ¬ (¬ (sIn x (-99999) 99999 && sIn y (-3) 3) = true)) (hv2 : ¬ (¬ nv < 40)) : Hm (S := Unit) l y_La_number b_La_number 5 (some .int) [(0, 10, 13, 13), (0, 10, 17, 15)] 8 135 [.ref (a 24), .int x, .int y, .ref (a 25)] D (tyA cI cJ cZ) (wX a ++ wV a cI cJ ki co pr pa tw nv sv ++ wO a cJ ou) (fun _ => True) (fun _ => some (.int 0)) (fun _ => (wX a ++ wV a cI cJ (upd ki nv.toNatClampNeg 2) (vp_updL co nv.toNatClampNeg (x.toInt64 * (thou (y + 3 : Int32).toNatClampNeg).toInt64)) pr pa tw (nv + 1) sv ++ wO a cJ (vp_updL ou 0 ((nv + 1 - 1 : Int32).toInt64)))) := h_La_number l hls D a cI cJ cZ ki co pr pa tw nv sv ou x y 0 (upd ki nv.toNatClampNeg 2) (vp_updL co nv.toNatClampNeg (x.toInt64 * (thou (y + 3 : Int32).toNatClampNeg).toInt64)) pr pa tw (nv + 1) sv (vp_updL ou 0 ((nv + 1 - 1 : Int32).toInt64)) (by
  unfold V_La_number
  have h01 : vp_in (0 : Int32) 1 := vp_in_nI (n := 0) (by decide) (by decide)
  refine ⟨hpre, ⟨fun hok => ?_, fun E hbad => ?_⟩⟩
  · first | exact absurd hok hv1 | exact absurd hv1 hok | exact absurd hok.1 hv1 | exact absurd hok.2 hv2 | exact absurd hv2 hok.2 | exact ⟨h01, by simp⟩
  · rcases hbad with ⟨rfl, hb⟩ | ⟨rfl, hb⟩
    · first | exact absurd hb hv1 | exact absurd hb.1 hv1 | exact absurd hb.2 hv2 | exact absurd hb hv2 | exact ⟨fun _ => by simp, fun h => absurd h (by decide), fun h0 h1 => absurd rfl h0⟩
    · first | exact absurd hb hv1 | exact absurd hb.1 hv1 | exact absurd hb.2 hv2 | exact absurd hb hv2 | exact ⟨fun h => absurd h (by decide), fun _ => by simp, fun h0 h1 => absurd rfl h1⟩)
theorem hd_La_number : y_La_number.cls ≠ "java/lang/invoke/MethodHandle" ∧ y_La_number.cls ≠ "java/lang/invoke/VarHandle" ∧ (parseMethodDescriptor y_La_number.desc).map (fun d => d.parameters.length) = some 4 := ⟨by decide, by decide, by decide +kernel⟩
theorem kw_La_text : Cond.codeWith y_La_text b_La_text 4 (some .int) [(0, 9, 12, 13), (0, 9, 15, 15)] ∈ W0 := W0_at 310 (by decide +kernel) (by decide +kernel)
theorem s_La_text : Cond.static y_La_text ∈ W0 := W0_at 309 (by decide +kernel) (by decide +kernel)
def V_La_text (ki : Nat → Int32) (co : Nat → Int64) (pr : Nat → Int32) (pa : Nat → Int32) (tw : Nat → Int32) (nv : Int32) (sv : Int32) (ou : Nat → Int64) (x : Int32) (post : Int32 → (Nat → Int32) → (Nat → Int64) → (Nat → Int32) → (Nat → Int32) → (Nat → Int32) → Int32 → Int32 → (Nat → Int64) → Prop) (px : String → (Nat → Int32) → (Nat → Int64) → (Nat → Int32) → (Nat → Int32) → (Nat → Int32) → Int32 → Int32 → (Nat → Int64) → Prop) : Prop :=
  (¬ nv < 0 ∧ ((sText x = true ∧ nv < 40 → (vp_in 0 1 ∧ post 0 (upd ki nv.toNatClampNeg 3) (vp_updL co nv.toNatClampNeg x.toInt64) pr pa tw (nv + 1) sv (vp_updL ou (0 : Int32).toNatClampNeg ((nv + 1 - 1 : Int32).toInt64)))) ∧ (∀ E : String, E = IAE ∧ ¬ sText x = true ∨ E = ISE ∧ sText x = true ∧ ¬ nv < 40 → ((E = IAE → post 1 ki co pr pa tw nv sv ou) ∧ (E = ISE → post 2 ki co pr pa tw nv sv ou) ∧ (¬ E = IAE → ¬ E = ISE → False)))))
set_option maxHeartbeats 4000000 in
set_option maxRecDepth 100000 in
theorem g_La_text {p : Program} {l : Launch} {e : Env} {R : Room} {s : State} {m : MethodId} {args : Array Value} {below : List Frame} {meth : Method} {c : Code} {H : Heap} {locs : List Loc} {Q : State → Prop} {ls : Array Slot} {A : Nat → Prop} (hls : l.stackTraces = false) (S : CallFix p m c b_La_text 4 s args W0 "SchemaJudgeLaw") (htab : c.exceptionTable.toList = tableOf [(0, 9, 12, 13), (0, 9, 15, 15)]) (hN : eN s) (hRf : 8 ≤ R.frames) (hRl : 134 ≤ R.locals) (hRc : 0 + 1 ≤ R.cells ∧ 0 + 6 ≤ R.slots) (D : va_G) (a : Nat → Nat) (cI cJ cZ : ClassId) (ki : Nat → Int32) (co : Nat → Int64) (pr : Nat → Int32) (pa : Nat → Int32) (tw : Nat → Int32) (nv : Int32) (sv : Int32) (ou : Nat → Int64) (x : Int32) (hK : va_K D vwCl (tyA cI cJ cZ) s) (hP : va_P D vwCl (wX a ++ wV a cI cJ ki co pr pa tw nv sv ++ wO a cJ ou) H) (hD : va_D A (wX a ++ wV a cI cJ ki co pr pa tw nv sv ++ wO a cJ ou)) (hA : ∀ q, s.heap.size ≤ q → A q) (hS : va_S A s.heap H locs) (hX : eX A s s.heap) (hl : lv_has ls 4 [(0, .ref (a 24)), (1, .int x), (2, .ref (a 25))]) {post : Int32 → (Nat → Int32) → (Nat → Int64) → (Nat → Int32) → (Nat → Int32) → (Nat → Int32) → Int32 → Int32 → (Nat → Int64) → Prop} {px : String → (Nat → Int32) → (Nat → Int64) → (Nat → Int32) → (Nat → Int32) → (Nat → Int32) → Int32 → Int32 → (Nat → Int64) → Prop} (vc : V_La_text ki co pr pa tw nv sv ou x post px)
    (hret : ∀ (v : Int32) (ki : Nat → Int32) (co : Nat → Int64) (pr : Nat → Int32) (pa : Nat → Int32) (tw : Nat → Int32) (nv : Int32) (sv : Int32) (ou : Nat → Int64) (ls : Array Slot) (pc : Nat) (H : Heap) (locs : List Loc) (k j : Nat), decode b_La_text pc = .ok (.ireturn, 1) → k ≤ 1 → j ≤ 6 → post v ki co pr pa tw nv sv ou → va_P D vwCl (wX a ++ wV a cI cJ ki co pr pa tw nv sv ++ wO a cJ ou) H → va_D A (wX a ++ wV a cI cJ ki co pr pa tw nv sv ++ wO a cJ ou) → va_S A s.heap H locs → W p l e R s m args below meth c H locs k j Q (F0 m pc ls [.int v])) : W p l e R s m args below meth c H locs 0 0 Q (F0 m 0 ls []) := by
  have hx := S.1
  have hb := S.2.1
  have hown := S.2.2.2.1
  have hts := S.2.2.2.2
  unfold V_La_text at vc
  refine lv_aload_n hx hb d_La_text_0 rfl (lv_at hl 2 rfl) ?_
  refine lv_iconst (v := 0) hx hb d_La_text_1 (by decide) ?_
  refine lv_aload_n hx hb d_La_text_2 rfl (lv_at hl 0 rfl) ?_
  refine lv_iload_n hx hb d_La_text_3 rfl (lv_at hl 1 rfl) ?_
  obtain ⟨hpre, vc⟩ := vc
  refine xc_V (As := [.int x]) (rest := [.int 0, .ref (a 25)]) (wr := (wO a cJ ou)) S (c_Sj_text l hls D a cI cJ cZ ki co pr pa tw nv sv x hpre) k_Sj_text i_Sj_text e_Sj_text o_Sj ml_La_25 hd_Sj_text (Nat.le_trans (by decide) hRf) (Nat.le_trans (by decide) hRl) hRc (va_recv hK hP (q0 := 0) (ci := 5) rfl rfl) hK hP hD hS hA hX [0, 1, 2, 3, 4, 5, 6] [7] rfl rfl rfl (by decide) (by decide) (by decide) hl.1 rfl (Nat.le_of_ble_eq_true rfl) d_La_text_4 (fun _ E ce q H locs hbad hce hcv hcl hP hD hS => ?_) (fun _ H locs hok hP hD hS => ?_)
  · have vc := vc.2
    have vc := vc E hbad
    have hP : va_P D vwCl (wX a ++ wV a cI cJ ki co pr pa tw nv sv ++ wO a cJ ou) H := hP.sub [1, 2, 3, 4, 5, 6, 7, 0] rfl
    have hD : va_D A (wX a ++ wV a cI cJ ki co pr pa tw nv sv ++ wO a cJ ou) := hD.sub [1, 2, 3, 4, 5, 6, 7, 0] (by decide) rfl
    by_cases hE0 : E = IAE
    · subst hE0
      have vc := vc.1 rfl
      refine vx_catch (own := "SchemaJudgeLaw") (name := IAE) hown [] ⟨0, 9, 12, 13⟩ [⟨0, 9, 15, 15⟩] htab (fun z hz => by cases hz) (by decide) (by decide) (hts _ cl_La_13) (cast_E hX (by decide +kernel)) hce hcv hcl ?_
      refine lv_astore_n hx hb d_La_text_12 rfl hl (by decide) (lv' := [(3, .ref q), (0, .ref (a 24)), (1, .int x), (2, .ref (a 25))]) rfl (fun ls hl => ?_)
      refine lv_iconst (v := 1) hx hb d_La_text_13 (by decide) ?_
      exact hret _ _ _ _ _ _ _ _ _ ls _ H locs _ _ d_La_text_14 (by decide) (by decide) vc hP hD hS
    have vc := vc.2
    by_cases hE1 : E = ISE
    · subst hE1
      have vc := vc.1 rfl
      refine vx_catch (own := "SchemaJudgeLaw") (name := ISE) hown [⟨0, 9, 12, 13⟩] ⟨0, 9, 15, 15⟩ [] htab (fun z hz => by
          rcases List.mem_cons.mp hz with rfl | hz
          · exact Or.inr ⟨by decide, IAE, hts _ cl_La_13, hN.1⟩
          · cases hz) (by decide) (by decide) (hts _ cl_La_15) (cast_E hX (by decide +kernel)) hce hcv hcl ?_
      refine lv_astore_n hx hb d_La_text_15 rfl hl (by decide) (lv' := [(3, .ref q), (0, .ref (a 24)), (1, .int x), (2, .ref (a 25))]) rfl (fun ls hl => ?_)
      refine lv_iconst (v := 2) hx hb d_La_text_16 (by decide) ?_
      exact hret _ _ _ _ _ _ _ _ _ ls _ H locs _ _ d_La_text_17 (by decide) (by decide) vc hP hD hS
    have vc := vc.2
    exact (vc hE0 hE1).elim
  · have vc := vc.1
    have vc := vc hok
    have hP : va_P D vwCl (wX a ++ wV a cI cJ (upd ki nv.toNatClampNeg 3) (vp_updL co nv.toNatClampNeg x.toInt64) pr pa tw (nv + 1) sv ++ wO a cJ ou) H := hP.sub [1, 2, 3, 4, 5, 6, 7, 0] rfl
    have hD : va_D A (wX a ++ wV a cI cJ (upd ki nv.toNatClampNeg 3) (vp_updL co nv.toNatClampNeg x.toInt64) pr pa tw (nv + 1) sv ++ wO a cJ ou) := hD.sub [1, 2, 3, 4, 5, 6, 7, 0] (by decide) rfl
    refine lv_i2l hx hb d_La_text_7 rfl ?_
    obtain ⟨vcb, vc⟩ := vc
    refine va_last hx hb hK hP hD hS 7 1 rfl rfl vcb d_La_text_8 (fun H locs hP hD hS => ?_)
    have hP : va_P D vwCl (wX a ++ wV a cI cJ (upd ki nv.toNatClampNeg 3) (vp_updL co nv.toNatClampNeg x.toInt64) pr pa tw (nv + 1) sv ++ wO a cJ (vp_updL ou (0 : Int32).toNatClampNeg ((nv + 1 - 1 : Int32).toInt64))) H := hP
    have hD : va_D A (wX a ++ wV a cI cJ (upd ki nv.toNatClampNeg 3) (vp_updL co nv.toNatClampNeg x.toInt64) pr pa tw (nv + 1) sv ++ wO a cJ (vp_updL ou (0 : Int32).toNatClampNeg ((nv + 1 - 1 : Int32).toInt64))) := hD
    refine lv_goto (tgt := 18) hx hb d_La_text_9 (by decide) ?_
    refine lv_iconst (v := 0) hx hb d_La_text_18 (by decide) ?_
    exact hret _ _ _ _ _ _ _ _ _ ls _ H locs _ _ d_La_text_19 (by decide) (by decide) vc hP hD hS
theorem h_La_text (l : Launch) (hls : l.stackTraces = false) (D : va_G) (a : Nat → Nat) (cI cJ cZ : ClassId) (ki : Nat → Int32) (co : Nat → Int64) (pr : Nat → Int32) (pa : Nat → Int32) (tw : Nat → Int32) (nv : Int32) (sv : Int32) (ou : Nat → Int64) (x : Int32) (r : Int32) (ki' : Nat → Int32) (co' : Nat → Int64) (pr' : Nat → Int32) (pa' : Nat → Int32) (tw' : Nat → Int32) (nv' : Int32) (sv' : Int32) (ou' : Nat → Int64) (vc : V_La_text ki co pr pa tw nv sv ou x (fun v ki co pr pa tw nv sv ou => v = r ∧ ki = ki' ∧ co = co' ∧ pr = pr' ∧ pa = pa' ∧ tw = tw' ∧ nv = nv' ∧ sv = sv' ∧ ou = ou') (fun _ _ _ _ _ _ _ _ _ => True)) : Hm (S := Unit) l y_La_text b_La_text 4 (some .int) [(0, 9, 12, 13), (0, 9, 15, 15)] 8 134 [.ref (a 24), .int x, .ref (a 25)] D (tyA cI cJ cZ) (wX a ++ wV a cI cJ ki co pr pa tw nv sv ++ wO a cJ ou) (fun _ => True) (fun _ => some (.int r)) (fun _ => (wX a ++ wV a cI cJ ki' co' pr' pa' tw' nv' sv' ++ wO a cJ ou')) :=
  hm_of (r := fun _ => r) (by decide) rfl (Nat.le_of_ble_eq_true rfl) (fun p e s m below meth c ls Q A S htab hN hK hP hD hA hS hX hl hret => g_La_text hls S htab hN (Nat.le_refl _) (Nat.le_refl _) ⟨Nat.le_refl _, Nat.le_refl _⟩ D a cI cJ cZ ki co pr pa tw nv sv ou x hK hP hD hA hS hX hl vc
    (fun v ki co pr pa tw nv sv ou ls pc H locs k j hd hk hj hv hP hD hS => by obtain ⟨rfl, rfl, rfl, rfl, rfl, rfl, rfl, rfl, rfl⟩ := hv; exact hret () ls pc H locs k j _ rfl hd hk hj trivial hP hD hS))
theorem c_La_text_1 (l : Launch) (hls : l.stackTraces = false) (D : va_G) (a : Nat → Nat) (cI cJ cZ : ClassId) (ki : Nat → Int32) (co : Nat → Int64) (pr : Nat → Int32) (pa : Nat → Int32) (tw : Nat → Int32) (nv : Int32) (sv : Int32) (ou : Nat → Int64) (x : Int32) (hpre : ¬ nv < 0) (hv1 : ¬ sText x = true) : Hm (S := Unit) l y_La_text b_La_text 4 (some .int) [(0, 9, 12, 13), (0, 9, 15, 15)] 8 134 [.ref (a 24), .int x, .ref (a 25)] D (tyA cI cJ cZ) (wX a ++ wV a cI cJ ki co pr pa tw nv sv ++ wO a cJ ou) (fun _ => True) (fun _ => some (.int 1)) (fun _ => (wX a ++ wV a cI cJ ki co pr pa tw nv sv ++ wO a cJ ou)) := h_La_text l hls D a cI cJ cZ ki co pr pa tw nv sv ou x 1 ki co pr pa tw nv sv ou (by
  unfold V_La_text
  have h01 : vp_in (0 : Int32) 1 := vp_in_nI (n := 0) (by decide) (by decide)
  refine ⟨hpre, ⟨fun hok => ?_, fun E hbad => ?_⟩⟩
  · first | exact absurd hok hv1 | exact absurd hv1 hok | exact absurd hok.1 hv1 | exact absurd hok.2 hv2 | exact absurd hv2 hok.2 | exact ⟨h01, by simp⟩
  · rcases hbad with ⟨rfl, hb⟩ | ⟨rfl, hb⟩
    · first | exact absurd hb hv1 | exact absurd hb.1 hv1 | exact absurd hb.2 hv2 | exact absurd hb hv2 | exact ⟨fun _ => by simp, fun h => absurd h (by decide), fun h0 h1 => absurd rfl h0⟩
    · first | exact absurd hb hv1 | exact absurd hb.1 hv1 | exact absurd hb.2 hv2 | exact absurd hb hv2 | exact ⟨fun h => absurd h (by decide), fun _ => by simp, fun h0 h1 => absurd rfl h1⟩)
theorem c_La_text_2 (l : Launch) (hls : l.stackTraces = false) (D : va_G) (a : Nat → Nat) (cI cJ cZ : ClassId) (ki : Nat → Int32) (co : Nat → Int64) (pr : Nat → Int32) (pa : Nat → Int32) (tw : Nat → Int32) (nv : Int32) (sv : Int32) (ou : Nat → Int64) (x : Int32) (hpre : ¬ nv < 0) (hv1 : ¬ (¬ sText x = true)) (hv2 : ¬ nv < 40) : Hm (S := Unit) l y_La_text b_La_text 4 (some .int) [(0, 9, 12, 13), (0, 9, 15, 15)] 8 134 [.ref (a 24), .int x, .ref (a 25)] D (tyA cI cJ cZ) (wX a ++ wV a cI cJ ki co pr pa tw nv sv ++ wO a cJ ou) (fun _ => True) (fun _ => some (.int 2)) (fun _ => (wX a ++ wV a cI cJ ki co pr pa tw nv sv ++ wO a cJ ou)) := h_La_text l hls D a cI cJ cZ ki co pr pa tw nv sv ou x 2 ki co pr pa tw nv sv ou (by
  unfold V_La_text
  have h01 : vp_in (0 : Int32) 1 := vp_in_nI (n := 0) (by decide) (by decide)
  refine ⟨hpre, ⟨fun hok => ?_, fun E hbad => ?_⟩⟩
  · first | exact absurd hok hv1 | exact absurd hv1 hok | exact absurd hok.1 hv1 | exact absurd hok.2 hv2 | exact absurd hv2 hok.2 | exact ⟨h01, by simp⟩
  · rcases hbad with ⟨rfl, hb⟩ | ⟨rfl, hb⟩
    · first | exact absurd hb hv1 | exact absurd hb.1 hv1 | exact absurd hb.2 hv2 | exact absurd hb hv2 | exact ⟨fun _ => by simp, fun h => absurd h (by decide), fun h0 h1 => absurd rfl h0⟩
    · first | exact absurd hb hv1 | exact absurd hb.1 hv1 | exact absurd hb.2 hv2 | exact absurd hb hv2 | exact ⟨fun h => absurd h (by decide), fun _ => by simp, fun h0 h1 => absurd rfl h1⟩)
theorem c_La_text_3 (l : Launch) (hls : l.stackTraces = false) (D : va_G) (a : Nat → Nat) (cI cJ cZ : ClassId) (ki : Nat → Int32) (co : Nat → Int64) (pr : Nat → Int32) (pa : Nat → Int32) (tw : Nat → Int32) (nv : Int32) (sv : Int32) (ou : Nat → Int64) (x : Int32) (hpre : ¬ nv < 0) (hv1 : ¬ (¬ sText x = true)) (hv2 : ¬ (¬ nv < 40)) : Hm (S := Unit) l y_La_text b_La_text 4 (some .int) [(0, 9, 12, 13), (0, 9, 15, 15)] 8 134 [.ref (a 24), .int x, .ref (a 25)] D (tyA cI cJ cZ) (wX a ++ wV a cI cJ ki co pr pa tw nv sv ++ wO a cJ ou) (fun _ => True) (fun _ => some (.int 0)) (fun _ => (wX a ++ wV a cI cJ (upd ki nv.toNatClampNeg 3) (vp_updL co nv.toNatClampNeg x.toInt64) pr pa tw (nv + 1) sv ++ wO a cJ (vp_updL ou 0 ((nv + 1 - 1 : Int32).toInt64)))) := h_La_text l hls D a cI cJ cZ ki co pr pa tw nv sv ou x 0 (upd ki nv.toNatClampNeg 3) (vp_updL co nv.toNatClampNeg x.toInt64) pr pa tw (nv + 1) sv (vp_updL ou 0 ((nv + 1 - 1 : Int32).toInt64)) (by
  unfold V_La_text
  have h01 : vp_in (0 : Int32) 1 := vp_in_nI (n := 0) (by decide) (by decide)
  refine ⟨hpre, ⟨fun hok => ?_, fun E hbad => ?_⟩⟩
  · first | exact absurd hok hv1 | exact absurd hv1 hok | exact absurd hok.1 hv1 | exact absurd hok.2 hv2 | exact absurd hv2 hok.2 | exact ⟨h01, by simp⟩
  · rcases hbad with ⟨rfl, hb⟩ | ⟨rfl, hb⟩
    · first | exact absurd hb hv1 | exact absurd hb.1 hv1 | exact absurd hb.2 hv2 | exact absurd hb hv2 | exact ⟨fun _ => by simp, fun h => absurd h (by decide), fun h0 h1 => absurd rfl h0⟩
    · first | exact absurd hb hv1 | exact absurd hb.1 hv1 | exact absurd hb.2 hv2 | exact absurd hb hv2 | exact ⟨fun h => absurd h (by decide), fun _ => by simp, fun h0 h1 => absurd rfl h1⟩)
theorem hd_La_text : y_La_text.cls ≠ "java/lang/invoke/MethodHandle" ∧ y_La_text.cls ≠ "java/lang/invoke/VarHandle" ∧ (parseMethodDescriptor y_La_text.desc).map (fun d => d.parameters.length) = some 3 := ⟨by decide, by decide, by decide +kernel⟩
theorem kw_La_push : Cond.codeWith y_La_push b_La_push 5 (some .int) [(0, 10, 13, 13), (0, 10, 17, 15)] ∈ W0 := W0_at 321 (by decide +kernel) (by decide +kernel)
theorem s_La_push : Cond.static y_La_push ∈ W0 := W0_at 320 (by decide +kernel) (by decide +kernel)
def V_La_push (ki : Nat → Int32) (co : Nat → Int64) (pr : Nat → Int32) (pa : Nat → Int32) (tw : Nat → Int32) (nv : Int32) (sv : Int32) (ou : Nat → Int64) (x : Int32) (y : Int32) (post : Int32 → (Nat → Int32) → (Nat → Int64) → (Nat → Int32) → (Nat → Int32) → (Nat → Int32) → Int32 → Int32 → (Nat → Int64) → Prop) (px : String → (Nat → Int32) → (Nat → Int64) → (Nat → Int32) → (Nat → Int32) → (Nat → Int32) → Int32 → Int32 → (Nat → Int64) → Prop) : Prop :=
  ((nv ≤ 40 ∧ ∀ j : Nat, j < 40 → ∃ b : Nat, b < 4096 ∧ pr j = nI b) ∧ (((sKind ki nv x 4 && sIn y 0 (x - 1)) = true ∧ ¬ 8 ≤ iBits (pr x.toNatClampNeg) → (vp_in 0 1 ∧ post 0 ki co (upd pr x.toNatClampNeg (pr x.toNatClampNeg ||| (1 <<< ((iBits (pr x.toNatClampNeg)) &&& 31)))) (upd pa (x * 12 + iBits (pr x.toNatClampNeg) : Int32).toNatClampNeg y) tw nv (if x < sv then x else sv) (vp_updL ou (0 : Int32).toNatClampNeg ((iBits ((upd pr x.toNatClampNeg (pr x.toNatClampNeg ||| (1 <<< ((iBits (pr x.toNatClampNeg)) &&& 31)))) x.toNatClampNeg) : Int32).toInt64)))) ∧ (∀ E : String, E = IAE ∧ ¬ (sKind ki nv x 4 && sIn y 0 (x - 1)) = true ∨ E = ISE ∧ (sKind ki nv x 4 && sIn y 0 (x - 1)) = true ∧ 8 ≤ iBits (pr x.toNatClampNeg) → ((E = IAE → post 1 ki co pr pa tw nv sv ou) ∧ (E = ISE → post 2 ki co pr pa tw nv sv ou) ∧ (¬ E = IAE → ¬ E = ISE → False)))))
set_option maxHeartbeats 4000000 in
set_option maxRecDepth 100000 in
theorem g_La_push {p : Program} {l : Launch} {e : Env} {R : Room} {s : State} {m : MethodId} {args : Array Value} {below : List Frame} {meth : Method} {c : Code} {H : Heap} {locs : List Loc} {Q : State → Prop} {ls : Array Slot} {A : Nat → Prop} (hls : l.stackTraces = false) (S : CallFix p m c b_La_push 5 s args W0 "SchemaJudgeLaw") (htab : c.exceptionTable.toList = tableOf [(0, 10, 13, 13), (0, 10, 17, 15)]) (hN : eN s) (hRf : 7 ≤ R.frames) (hRl : 112 ≤ R.locals) (hRc : 0 + 1 ≤ R.cells ∧ 0 + 6 ≤ R.slots) (D : va_G) (a : Nat → Nat) (cI cJ cZ : ClassId) (ki : Nat → Int32) (co : Nat → Int64) (pr : Nat → Int32) (pa : Nat → Int32) (tw : Nat → Int32) (nv : Int32) (sv : Int32) (ou : Nat → Int64) (x : Int32) (y : Int32) (hK : va_K D vwCl (tyA cI cJ cZ) s) (hP : va_P D vwCl (wX a ++ wV a cI cJ ki co pr pa tw nv sv ++ wO a cJ ou) H) (hD : va_D A (wX a ++ wV a cI cJ ki co pr pa tw nv sv ++ wO a cJ ou)) (hA : ∀ q, s.heap.size ≤ q → A q) (hS : va_S A s.heap H locs) (hX : eX A s s.heap) (hl : lv_has ls 5 [(0, .ref (a 24)), (1, .int x), (2, .int y), (3, .ref (a 25))]) {post : Int32 → (Nat → Int32) → (Nat → Int64) → (Nat → Int32) → (Nat → Int32) → (Nat → Int32) → Int32 → Int32 → (Nat → Int64) → Prop} {px : String → (Nat → Int32) → (Nat → Int64) → (Nat → Int32) → (Nat → Int32) → (Nat → Int32) → Int32 → Int32 → (Nat → Int64) → Prop} (vc : V_La_push ki co pr pa tw nv sv ou x y post px)
    (hret : ∀ (v : Int32) (ki : Nat → Int32) (co : Nat → Int64) (pr : Nat → Int32) (pa : Nat → Int32) (tw : Nat → Int32) (nv : Int32) (sv : Int32) (ou : Nat → Int64) (ls : Array Slot) (pc : Nat) (H : Heap) (locs : List Loc) (k j : Nat), decode b_La_push pc = .ok (.ireturn, 1) → k ≤ 1 → j ≤ 6 → post v ki co pr pa tw nv sv ou → va_P D vwCl (wX a ++ wV a cI cJ ki co pr pa tw nv sv ++ wO a cJ ou) H → va_D A (wX a ++ wV a cI cJ ki co pr pa tw nv sv ++ wO a cJ ou) → va_S A s.heap H locs → W p l e R s m args below meth c H locs k j Q (F0 m pc ls [.int v])) : W p l e R s m args below meth c H locs 0 0 Q (F0 m 0 ls []) := by
  have hx := S.1
  have hb := S.2.1
  have hown := S.2.2.2.1
  have hts := S.2.2.2.2
  unfold V_La_push at vc
  refine lv_aload_n hx hb d_La_push_0 rfl (lv_at hl 3 rfl) ?_
  refine lv_iconst (v := 0) hx hb d_La_push_1 (by decide) ?_
  refine lv_aload_n hx hb d_La_push_2 rfl (lv_at hl 0 rfl) ?_
  refine lv_iload_n hx hb d_La_push_3 rfl (lv_at hl 1 rfl) ?_
  refine lv_iload_n hx hb d_La_push_4 rfl (lv_at hl 2 rfl) ?_
  obtain ⟨hpre, vc⟩ := vc
  refine xc_V (As := [.int x, .int y]) (rest := [.int 0, .ref (a 25)]) (wr := (wO a cJ ou)) S (c_Sj_push l hls D a cI cJ cZ ki co pr pa tw nv sv x y hpre) k_Sj_push i_Sj_push e_Sj_push o_Sj ml_La_28 hd_Sj_push (Nat.le_trans (by decide) hRf) (Nat.le_trans (by decide) hRl) hRc (va_recv hK hP (q0 := 0) (ci := 5) rfl rfl) hK hP hD hS hA hX [0, 1, 2, 3, 4, 5, 6] [7] rfl rfl rfl (by decide) (by decide) (by decide) hl.1 rfl (Nat.le_of_ble_eq_true rfl) d_La_push_5 (fun _ E ce q H locs hbad hce hcv hcl hP hD hS => ?_) (fun _ H locs hok hP hD hS => ?_)
  · have vc := vc.2
    have vc := vc E hbad
    have hP : va_P D vwCl (wX a ++ wV a cI cJ ki co pr pa tw nv sv ++ wO a cJ ou) H := hP.sub [1, 2, 3, 4, 5, 6, 7, 0] rfl
    have hD : va_D A (wX a ++ wV a cI cJ ki co pr pa tw nv sv ++ wO a cJ ou) := hD.sub [1, 2, 3, 4, 5, 6, 7, 0] (by decide) rfl
    by_cases hE0 : E = IAE
    · subst hE0
      have vc := vc.1 rfl
      refine vx_catch (own := "SchemaJudgeLaw") (name := IAE) hown [] ⟨0, 10, 13, 13⟩ [⟨0, 10, 17, 15⟩] htab (fun z hz => by cases hz) (by decide) (by decide) (hts _ cl_La_13) (cast_E hX (by decide +kernel)) hce hcv hcl ?_
      refine lv_astore hx hb d_La_push_13 hl (by decide) (lv' := [(4, .ref q), (0, .ref (a 24)), (1, .int x), (2, .int y), (3, .ref (a 25))]) rfl (fun ls hl => ?_)
      refine lv_iconst (v := 1) hx hb d_La_push_15 (by decide) ?_
      exact hret _ _ _ _ _ _ _ _ _ ls _ H locs _ _ d_La_push_16 (by decide) (by decide) vc hP hD hS
    have vc := vc.2
    by_cases hE1 : E = ISE
    · subst hE1
      have vc := vc.1 rfl
      refine vx_catch (own := "SchemaJudgeLaw") (name := ISE) hown [⟨0, 10, 13, 13⟩] ⟨0, 10, 17, 15⟩ [] htab (fun z hz => by
          rcases List.mem_cons.mp hz with rfl | hz
          · exact Or.inr ⟨by decide, IAE, hts _ cl_La_13, hN.1⟩
          · cases hz) (by decide) (by decide) (hts _ cl_La_15) (cast_E hX (by decide +kernel)) hce hcv hcl ?_
      refine lv_astore hx hb d_La_push_17 hl (by decide) (lv' := [(4, .ref q), (0, .ref (a 24)), (1, .int x), (2, .int y), (3, .ref (a 25))]) rfl (fun ls hl => ?_)
      refine lv_iconst (v := 2) hx hb d_La_push_19 (by decide) ?_
      exact hret _ _ _ _ _ _ _ _ _ ls _ H locs _ _ d_La_push_20 (by decide) (by decide) vc hP hD hS
    have vc := vc.2
    exact (vc hE0 hE1).elim
  · have vc := vc.1
    have vc := vc hok
    have hP : va_P D vwCl (wX a ++ wV a cI cJ ki co (upd pr x.toNatClampNeg (pr x.toNatClampNeg ||| (1 <<< ((iBits (pr x.toNatClampNeg)) &&& 31)))) (upd pa (x * 12 + iBits (pr x.toNatClampNeg) : Int32).toNatClampNeg y) tw nv (if x < sv then x else sv) ++ wO a cJ ou) H := hP.sub [1, 2, 3, 4, 5, 6, 7, 0] rfl
    have hD : va_D A (wX a ++ wV a cI cJ ki co (upd pr x.toNatClampNeg (pr x.toNatClampNeg ||| (1 <<< ((iBits (pr x.toNatClampNeg)) &&& 31)))) (upd pa (x * 12 + iBits (pr x.toNatClampNeg) : Int32).toNatClampNeg y) tw nv (if x < sv then x else sv) ++ wO a cJ ou) := hD.sub [1, 2, 3, 4, 5, 6, 7, 0] (by decide) rfl
    refine lv_i2l hx hb d_La_push_8 rfl ?_
    obtain ⟨vcb, vc⟩ := vc
    refine va_last hx hb hK hP hD hS 7 1 rfl rfl vcb d_La_push_9 (fun H locs hP hD hS => ?_)
    have hP : va_P D vwCl (wX a ++ wV a cI cJ ki co (upd pr x.toNatClampNeg (pr x.toNatClampNeg ||| (1 <<< ((iBits (pr x.toNatClampNeg)) &&& 31)))) (upd pa (x * 12 + iBits (pr x.toNatClampNeg) : Int32).toNatClampNeg y) tw nv (if x < sv then x else sv) ++ wO a cJ (vp_updL ou (0 : Int32).toNatClampNeg ((iBits ((upd pr x.toNatClampNeg (pr x.toNatClampNeg ||| (1 <<< ((iBits (pr x.toNatClampNeg)) &&& 31)))) x.toNatClampNeg) : Int32).toInt64))) H := hP
    have hD : va_D A (wX a ++ wV a cI cJ ki co (upd pr x.toNatClampNeg (pr x.toNatClampNeg ||| (1 <<< ((iBits (pr x.toNatClampNeg)) &&& 31)))) (upd pa (x * 12 + iBits (pr x.toNatClampNeg) : Int32).toNatClampNeg y) tw nv (if x < sv then x else sv) ++ wO a cJ (vp_updL ou (0 : Int32).toNatClampNeg ((iBits ((upd pr x.toNatClampNeg (pr x.toNatClampNeg ||| (1 <<< ((iBits (pr x.toNatClampNeg)) &&& 31)))) x.toNatClampNeg) : Int32).toInt64))) := hD
    refine lv_goto (tgt := 21) hx hb d_La_push_10 (by decide) ?_
    refine lv_iconst (v := 0) hx hb d_La_push_21 (by decide) ?_
    exact hret _ _ _ _ _ _ _ _ _ ls _ H locs _ _ d_La_push_22 (by decide) (by decide) vc hP hD hS
theorem h_La_push (l : Launch) (hls : l.stackTraces = false) (D : va_G) (a : Nat → Nat) (cI cJ cZ : ClassId) (ki : Nat → Int32) (co : Nat → Int64) (pr : Nat → Int32) (pa : Nat → Int32) (tw : Nat → Int32) (nv : Int32) (sv : Int32) (ou : Nat → Int64) (x : Int32) (y : Int32) (r : Int32) (ki' : Nat → Int32) (co' : Nat → Int64) (pr' : Nat → Int32) (pa' : Nat → Int32) (tw' : Nat → Int32) (nv' : Int32) (sv' : Int32) (ou' : Nat → Int64) (vc : V_La_push ki co pr pa tw nv sv ou x y (fun v ki co pr pa tw nv sv ou => v = r ∧ ki = ki' ∧ co = co' ∧ pr = pr' ∧ pa = pa' ∧ tw = tw' ∧ nv = nv' ∧ sv = sv' ∧ ou = ou') (fun _ _ _ _ _ _ _ _ _ => True)) : Hm (S := Unit) l y_La_push b_La_push 5 (some .int) [(0, 10, 13, 13), (0, 10, 17, 15)] 7 112 [.ref (a 24), .int x, .int y, .ref (a 25)] D (tyA cI cJ cZ) (wX a ++ wV a cI cJ ki co pr pa tw nv sv ++ wO a cJ ou) (fun _ => True) (fun _ => some (.int r)) (fun _ => (wX a ++ wV a cI cJ ki' co' pr' pa' tw' nv' sv' ++ wO a cJ ou')) :=
  hm_of (r := fun _ => r) (by decide) rfl (Nat.le_of_ble_eq_true rfl) (fun p e s m below meth c ls Q A S htab hN hK hP hD hA hS hX hl hret => g_La_push hls S htab hN (Nat.le_refl _) (Nat.le_refl _) ⟨Nat.le_refl _, Nat.le_refl _⟩ D a cI cJ cZ ki co pr pa tw nv sv ou x y hK hP hD hA hS hX hl vc
    (fun v ki co pr pa tw nv sv ou ls pc H locs k j hd hk hj hv hP hD hS => by obtain ⟨rfl, rfl, rfl, rfl, rfl, rfl, rfl, rfl, rfl⟩ := hv; exact hret () ls pc H locs k j _ rfl hd hk hj trivial hP hD hS))
theorem c_La_push_1 (l : Launch) (hls : l.stackTraces = false) (D : va_G) (a : Nat → Nat) (cI cJ cZ : ClassId) (ki : Nat → Int32) (co : Nat → Int64) (pr : Nat → Int32) (pa : Nat → Int32) (tw : Nat → Int32) (nv : Int32) (sv : Int32) (ou : Nat → Int64) (x : Int32) (y : Int32) (hpre : (nv ≤ 40 ∧ ∀ j : Nat, j < 40 → ∃ b : Nat, b < 4096 ∧ pr j = nI b)) (hv1 : ¬ (sKind ki nv x 4 && sIn y 0 (x - 1)) = true) : Hm (S := Unit) l y_La_push b_La_push 5 (some .int) [(0, 10, 13, 13), (0, 10, 17, 15)] 7 112 [.ref (a 24), .int x, .int y, .ref (a 25)] D (tyA cI cJ cZ) (wX a ++ wV a cI cJ ki co pr pa tw nv sv ++ wO a cJ ou) (fun _ => True) (fun _ => some (.int 1)) (fun _ => (wX a ++ wV a cI cJ ki co pr pa tw nv sv ++ wO a cJ ou)) := h_La_push l hls D a cI cJ cZ ki co pr pa tw nv sv ou x y 1 ki co pr pa tw nv sv ou (by
  unfold V_La_push
  have h01 : vp_in (0 : Int32) 1 := vp_in_nI (n := 0) (by decide) (by decide)
  refine ⟨hpre, ⟨fun hok => ?_, fun E hbad => ?_⟩⟩
  · first | exact absurd hok hv1 | exact absurd hv1 hok | exact absurd hok.1 hv1 | exact absurd hok.2 hv2 | exact absurd hv2 hok.2 | exact ⟨h01, by simp⟩
  · rcases hbad with ⟨rfl, hb⟩ | ⟨rfl, hb⟩
    · first | exact absurd hb hv1 | exact absurd hb.1 hv1 | exact absurd hb.2 hv2 | exact absurd hb hv2 | exact ⟨fun _ => by simp, fun h => absurd h (by decide), fun h0 h1 => absurd rfl h0⟩
    · first | exact absurd hb hv1 | exact absurd hb.1 hv1 | exact absurd hb.2 hv2 | exact absurd hb hv2 | exact ⟨fun h => absurd h (by decide), fun _ => by simp, fun h0 h1 => absurd rfl h1⟩)
theorem c_La_push_2 (l : Launch) (hls : l.stackTraces = false) (D : va_G) (a : Nat → Nat) (cI cJ cZ : ClassId) (ki : Nat → Int32) (co : Nat → Int64) (pr : Nat → Int32) (pa : Nat → Int32) (tw : Nat → Int32) (nv : Int32) (sv : Int32) (ou : Nat → Int64) (x : Int32) (y : Int32) (hpre : (nv ≤ 40 ∧ ∀ j : Nat, j < 40 → ∃ b : Nat, b < 4096 ∧ pr j = nI b)) (hv1 : ¬ (¬ (sKind ki nv x 4 && sIn y 0 (x - 1)) = true)) (hv2 : 8 ≤ iBits (pr x.toNatClampNeg)) : Hm (S := Unit) l y_La_push b_La_push 5 (some .int) [(0, 10, 13, 13), (0, 10, 17, 15)] 7 112 [.ref (a 24), .int x, .int y, .ref (a 25)] D (tyA cI cJ cZ) (wX a ++ wV a cI cJ ki co pr pa tw nv sv ++ wO a cJ ou) (fun _ => True) (fun _ => some (.int 2)) (fun _ => (wX a ++ wV a cI cJ ki co pr pa tw nv sv ++ wO a cJ ou)) := h_La_push l hls D a cI cJ cZ ki co pr pa tw nv sv ou x y 2 ki co pr pa tw nv sv ou (by
  unfold V_La_push
  have h01 : vp_in (0 : Int32) 1 := vp_in_nI (n := 0) (by decide) (by decide)
  refine ⟨hpre, ⟨fun hok => ?_, fun E hbad => ?_⟩⟩
  · first | exact absurd hok hv1 | exact absurd hv1 hok | exact absurd hok.1 hv1 | exact absurd hok.2 hv2 | exact absurd hv2 hok.2 | exact ⟨h01, by simp⟩
  · rcases hbad with ⟨rfl, hb⟩ | ⟨rfl, hb⟩
    · first | exact absurd hb hv1 | exact absurd hb.1 hv1 | exact absurd hb.2 hv2 | exact absurd hb hv2 | exact ⟨fun _ => by simp, fun h => absurd h (by decide), fun h0 h1 => absurd rfl h0⟩
    · first | exact absurd hb hv1 | exact absurd hb.1 hv1 | exact absurd hb.2 hv2 | exact absurd hb hv2 | exact ⟨fun h => absurd h (by decide), fun _ => by simp, fun h0 h1 => absurd rfl h1⟩)
theorem c_La_push_3 (l : Launch) (hls : l.stackTraces = false) (D : va_G) (a : Nat → Nat) (cI cJ cZ : ClassId) (ki : Nat → Int32) (co : Nat → Int64) (pr : Nat → Int32) (pa : Nat → Int32) (tw : Nat → Int32) (nv : Int32) (sv : Int32) (ou : Nat → Int64) (x : Int32) (y : Int32) (hpre : (nv ≤ 40 ∧ ∀ j : Nat, j < 40 → ∃ b : Nat, b < 4096 ∧ pr j = nI b)) (hv1 : ¬ (¬ (sKind ki nv x 4 && sIn y 0 (x - 1)) = true)) (hv2 : ¬ (8 ≤ iBits (pr x.toNatClampNeg))) : Hm (S := Unit) l y_La_push b_La_push 5 (some .int) [(0, 10, 13, 13), (0, 10, 17, 15)] 7 112 [.ref (a 24), .int x, .int y, .ref (a 25)] D (tyA cI cJ cZ) (wX a ++ wV a cI cJ ki co pr pa tw nv sv ++ wO a cJ ou) (fun _ => True) (fun _ => some (.int 0)) (fun _ => (wX a ++ wV a cI cJ ki co (upd pr x.toNatClampNeg (pr x.toNatClampNeg ||| (1 <<< ((iBits (pr x.toNatClampNeg)) &&& 31)))) (upd pa (x * 12 + iBits (pr x.toNatClampNeg) : Int32).toNatClampNeg y) tw nv (if x < sv then x else sv) ++ wO a cJ (vp_updL ou 0 ((iBits ((upd pr x.toNatClampNeg (pr x.toNatClampNeg ||| (1 <<< ((iBits (pr x.toNatClampNeg)) &&& 31)))) x.toNatClampNeg) : Int32).toInt64)))) := h_La_push l hls D a cI cJ cZ ki co pr pa tw nv sv ou x y 0 ki co (upd pr x.toNatClampNeg (pr x.toNatClampNeg ||| (1 <<< ((iBits (pr x.toNatClampNeg)) &&& 31)))) (upd pa (x * 12 + iBits (pr x.toNatClampNeg) : Int32).toNatClampNeg y) tw nv (if x < sv then x else sv) (vp_updL ou 0 ((iBits ((upd pr x.toNatClampNeg (pr x.toNatClampNeg ||| (1 <<< ((iBits (pr x.toNatClampNeg)) &&& 31)))) x.toNatClampNeg) : Int32).toInt64)) (by
  unfold V_La_push
  have h01 : vp_in (0 : Int32) 1 := vp_in_nI (n := 0) (by decide) (by decide)
  refine ⟨hpre, ⟨fun hok => ?_, fun E hbad => ?_⟩⟩
  · first | exact absurd hok hv1 | exact absurd hv1 hok | exact absurd hok.1 hv1 | exact absurd hok.2 hv2 | exact absurd hv2 hok.2 | exact ⟨h01, by simp⟩
  · rcases hbad with ⟨rfl, hb⟩ | ⟨rfl, hb⟩
    · first | exact absurd hb hv1 | exact absurd hb.1 hv1 | exact absurd hb.2 hv2 | exact absurd hb hv2 | exact ⟨fun _ => by simp, fun h => absurd h (by decide), fun h0 h1 => absurd rfl h0⟩
    · first | exact absurd hb hv1 | exact absurd hb.1 hv1 | exact absurd hb.2 hv2 | exact absurd hb hv2 | exact ⟨fun h => absurd h (by decide), fun _ => by simp, fun h0 h1 => absurd rfl h1⟩)
theorem hd_La_push : y_La_push.cls ≠ "java/lang/invoke/MethodHandle" ∧ y_La_push.cls ≠ "java/lang/invoke/VarHandle" ∧ (parseMethodDescriptor y_La_push.desc).map (fun d => d.parameters.length) = some 4 := ⟨by decide, by decide, by decide +kernel⟩
theorem kw_La_put : Cond.codeWith y_La_put b_La_put 5 (some .int) [(0, 7, 10, 13)] ∈ W0 := W0_at 358 (by decide +kernel) (by decide +kernel)
theorem s_La_put : Cond.static y_La_put ∈ W0 := W0_at 357 (by decide +kernel) (by decide +kernel)
def V_La_put (ki : Nat → Int32) (co : Nat → Int64) (pr : Nat → Int32) (pa : Nat → Int32) (tw : Nat → Int32) (nv : Int32) (sv : Int32) (x : Int32) (y : Int32) (z : Int32) (post : Int32 → (Nat → Int32) → (Nat → Int64) → (Nat → Int32) → (Nat → Int32) → (Nat → Int32) → Int32 → Int32 → Prop) (px : String → (Nat → Int32) → (Nat → Int64) → (Nat → Int32) → (Nat → Int32) → (Nat → Int32) → Int32 → Int32 → Prop) : Prop :=
  (nv ≤ 40 ∧ (((sKind ki nv x 5 && (sIn y 0 11 && sIn z 0 (x - 1))) = true → post 0 ki co (upd pr x.toNatClampNeg (pr x.toNatClampNeg ||| (1 <<< (y &&& 31)))) (upd pa (x * 12 + y : Int32).toNatClampNeg z) tw nv (if x < sv then x else sv)) ∧ (∀ E : String, E = IAE ∧ ¬ (sKind ki nv x 5 && (sIn y 0 11 && sIn z 0 (x - 1))) = true → ((E = IAE → post 1 ki co pr pa tw nv sv) ∧ (¬ E = IAE → False)))))
set_option maxHeartbeats 4000000 in
set_option maxRecDepth 100000 in
theorem g_La_put {p : Program} {l : Launch} {e : Env} {R : Room} {s : State} {m : MethodId} {args : Array Value} {below : List Frame} {meth : Method} {c : Code} {H : Heap} {locs : List Loc} {Q : State → Prop} {ls : Array Slot} {A : Nat → Prop} (hls : l.stackTraces = false) (S : CallFix p m c b_La_put 5 s args W0 "SchemaJudgeLaw") (htab : c.exceptionTable.toList = tableOf [(0, 7, 10, 13)]) (hN : eN s) (hRf : 7 ≤ R.frames) (hRl : 113 ≤ R.locals) (hRc : 0 + 1 ≤ R.cells ∧ 0 + 6 ≤ R.slots) (D : va_G) (a : Nat → Nat) (cI cJ cZ : ClassId) (ki : Nat → Int32) (co : Nat → Int64) (pr : Nat → Int32) (pa : Nat → Int32) (tw : Nat → Int32) (nv : Int32) (sv : Int32) (x : Int32) (y : Int32) (z : Int32) (hK : va_K D vwCl (tyA cI cJ cZ) s) (hP : va_P D vwCl (wX a ++ wV a cI cJ ki co pr pa tw nv sv) H) (hD : va_D A (wX a ++ wV a cI cJ ki co pr pa tw nv sv)) (hA : ∀ q, s.heap.size ≤ q → A q) (hS : va_S A s.heap H locs) (hX : eX A s s.heap) (hl : lv_has ls 5 [(0, .ref (a 24)), (1, .int x), (2, .int y), (3, .int z)]) {post : Int32 → (Nat → Int32) → (Nat → Int64) → (Nat → Int32) → (Nat → Int32) → (Nat → Int32) → Int32 → Int32 → Prop} {px : String → (Nat → Int32) → (Nat → Int64) → (Nat → Int32) → (Nat → Int32) → (Nat → Int32) → Int32 → Int32 → Prop} (vc : V_La_put ki co pr pa tw nv sv x y z post px)
    (hret : ∀ (v : Int32) (ki : Nat → Int32) (co : Nat → Int64) (pr : Nat → Int32) (pa : Nat → Int32) (tw : Nat → Int32) (nv : Int32) (sv : Int32) (ls : Array Slot) (pc : Nat) (H : Heap) (locs : List Loc) (k j : Nat), decode b_La_put pc = .ok (.ireturn, 1) → k ≤ 1 → j ≤ 6 → post v ki co pr pa tw nv sv → va_P D vwCl (wX a ++ wV a cI cJ ki co pr pa tw nv sv) H → va_D A (wX a ++ wV a cI cJ ki co pr pa tw nv sv) → va_S A s.heap H locs → W p l e R s m args below meth c H locs k j Q (F0 m pc ls [.int v])) : W p l e R s m args below meth c H locs 0 0 Q (F0 m 0 ls []) := by
  have hx := S.1
  have hb := S.2.1
  have hown := S.2.2.2.1
  have hts := S.2.2.2.2
  unfold V_La_put at vc
  refine lv_aload_n hx hb d_La_put_0 rfl (lv_at hl 0 rfl) ?_
  refine lv_iload_n hx hb d_La_put_1 rfl (lv_at hl 1 rfl) ?_
  refine lv_iload_n hx hb d_La_put_2 rfl (lv_at hl 2 rfl) ?_
  refine lv_iload_n hx hb d_La_put_3 rfl (lv_at hl 3 rfl) ?_
  obtain ⟨hpre, vc⟩ := vc
  refine xc_V (As := [.int x, .int y, .int z]) (rest := []) (wr := ([] : va_W)) S (c_Sj_put l hls D a cI cJ cZ ki co pr pa tw nv sv x y z hpre) k_Sj_put i_Sj_put e_Sj_put o_Sj ml_La_31 hd_Sj_put (Nat.le_trans (by decide) hRf) (Nat.le_trans (by decide) hRl) hRc (va_recv hK hP (q0 := 0) (ci := 5) rfl rfl) hK hP hD hS hA hX [0, 1, 2, 3, 4, 5, 6] [] rfl rfl rfl (by decide) (by decide) (by decide) hl.1 rfl (Nat.le_of_ble_eq_true rfl) d_La_put_4 (fun _ E ce q H locs hbad hce hcv hcl hP hD hS => ?_) (fun _ H locs hok hP hD hS => ?_)
  · have vc := vc.2
    have vc := vc E hbad
    have hP : va_P D vwCl (wX a ++ wV a cI cJ ki co pr pa tw nv sv) H := hP
    have hD : va_D A (wX a ++ wV a cI cJ ki co pr pa tw nv sv) := hD
    by_cases hE0 : E = IAE
    · subst hE0
      have vc := vc.1 rfl
      refine vx_catch (own := "SchemaJudgeLaw") (name := IAE) hown [] ⟨0, 7, 10, 13⟩ [] htab (fun z hz => by cases hz) (by decide) (by decide) (hts _ cl_La_13) (cast_E hX (by decide +kernel)) hce hcv hcl ?_
      refine lv_astore hx hb d_La_put_10 hl (by decide) (lv' := [(4, .ref q), (0, .ref (a 24)), (1, .int x), (2, .int y), (3, .int z)]) rfl (fun ls hl => ?_)
      refine lv_iconst (v := 1) hx hb d_La_put_12 (by decide) ?_
      exact hret _ _ _ _ _ _ _ _ ls _ H locs _ _ d_La_put_13 (by decide) (by decide) vc hP hD hS
    have vc := vc.2
    exact (vc hE0).elim
  · have vc := vc.1
    have vc := vc hok
    have hP : va_P D vwCl (wX a ++ wV a cI cJ ki co (upd pr x.toNatClampNeg (pr x.toNatClampNeg ||| (1 <<< (y &&& 31)))) (upd pa (x * 12 + y : Int32).toNatClampNeg z) tw nv (if x < sv then x else sv)) H := hP
    have hD : va_D A (wX a ++ wV a cI cJ ki co (upd pr x.toNatClampNeg (pr x.toNatClampNeg ||| (1 <<< (y &&& 31)))) (upd pa (x * 12 + y : Int32).toNatClampNeg z) tw nv (if x < sv then x else sv)) := hD
    refine lv_goto (tgt := 14) hx hb d_La_put_7 (by decide) ?_
    refine lv_iconst (v := 0) hx hb d_La_put_14 (by decide) ?_
    exact hret _ _ _ _ _ _ _ _ ls _ H locs _ _ d_La_put_15 (by decide) (by decide) vc hP hD hS
theorem h_La_put (l : Launch) (hls : l.stackTraces = false) (D : va_G) (a : Nat → Nat) (cI cJ cZ : ClassId) (ki : Nat → Int32) (co : Nat → Int64) (pr : Nat → Int32) (pa : Nat → Int32) (tw : Nat → Int32) (nv : Int32) (sv : Int32) (x : Int32) (y : Int32) (z : Int32) (r : Int32) (ki' : Nat → Int32) (co' : Nat → Int64) (pr' : Nat → Int32) (pa' : Nat → Int32) (tw' : Nat → Int32) (nv' : Int32) (sv' : Int32) (vc : V_La_put ki co pr pa tw nv sv x y z (fun v ki co pr pa tw nv sv => v = r ∧ ki = ki' ∧ co = co' ∧ pr = pr' ∧ pa = pa' ∧ tw = tw' ∧ nv = nv' ∧ sv = sv') (fun _ _ _ _ _ _ _ _ => True)) : Hm (S := Unit) l y_La_put b_La_put 5 (some .int) [(0, 7, 10, 13)] 7 113 [.ref (a 24), .int x, .int y, .int z] D (tyA cI cJ cZ) (wX a ++ wV a cI cJ ki co pr pa tw nv sv) (fun _ => True) (fun _ => some (.int r)) (fun _ => (wX a ++ wV a cI cJ ki' co' pr' pa' tw' nv' sv')) :=
  hm_of (r := fun _ => r) (by decide) rfl (Nat.le_of_ble_eq_true rfl) (fun p e s m below meth c ls Q A S htab hN hK hP hD hA hS hX hl hret => g_La_put hls S htab hN (Nat.le_refl _) (Nat.le_refl _) ⟨Nat.le_refl _, Nat.le_refl _⟩ D a cI cJ cZ ki co pr pa tw nv sv x y z hK hP hD hA hS hX hl vc
    (fun v ki co pr pa tw nv sv ls pc H locs k j hd hk hj hv hP hD hS => by obtain ⟨rfl, rfl, rfl, rfl, rfl, rfl, rfl, rfl⟩ := hv; exact hret () ls pc H locs k j _ rfl hd hk hj trivial hP hD hS))
theorem c_La_put_1 (l : Launch) (hls : l.stackTraces = false) (D : va_G) (a : Nat → Nat) (cI cJ cZ : ClassId) (ki : Nat → Int32) (co : Nat → Int64) (pr : Nat → Int32) (pa : Nat → Int32) (tw : Nat → Int32) (nv : Int32) (sv : Int32) (x : Int32) (y : Int32) (z : Int32) (hpre : nv ≤ 40) (hv1 : ¬ (sKind ki nv x 5 && (sIn y 0 11 && sIn z 0 (x - 1))) = true) : Hm (S := Unit) l y_La_put b_La_put 5 (some .int) [(0, 7, 10, 13)] 7 113 [.ref (a 24), .int x, .int y, .int z] D (tyA cI cJ cZ) (wX a ++ wV a cI cJ ki co pr pa tw nv sv) (fun _ => True) (fun _ => some (.int 1)) (fun _ => (wX a ++ wV a cI cJ ki co pr pa tw nv sv)) := h_La_put l hls D a cI cJ cZ ki co pr pa tw nv sv x y z 1 ki co pr pa tw nv sv (by
  unfold V_La_put
  have h01 : vp_in (0 : Int32) 1 := vp_in_nI (n := 0) (by decide) (by decide)
  refine ⟨hpre, ⟨fun hok => ?_, fun E hbad => ?_⟩⟩
  · first | exact absurd hok hv1 | exact absurd hv1 hok | exact absurd hok.1 hv1 | exact absurd hok.2 hv2 | exact absurd hv2 hok.2 | simp
  · rcases hbad with ⟨rfl, hb⟩
    · first | exact absurd hb hv1 | exact absurd hb.1 hv1 | exact absurd hb.2 hv2 | exact absurd hb hv2 | exact ⟨fun _ => by simp, fun h0 => absurd rfl h0⟩)
theorem c_La_put_2 (l : Launch) (hls : l.stackTraces = false) (D : va_G) (a : Nat → Nat) (cI cJ cZ : ClassId) (ki : Nat → Int32) (co : Nat → Int64) (pr : Nat → Int32) (pa : Nat → Int32) (tw : Nat → Int32) (nv : Int32) (sv : Int32) (x : Int32) (y : Int32) (z : Int32) (hpre : nv ≤ 40) (hv1 : ¬ (¬ (sKind ki nv x 5 && (sIn y 0 11 && sIn z 0 (x - 1))) = true)) : Hm (S := Unit) l y_La_put b_La_put 5 (some .int) [(0, 7, 10, 13)] 7 113 [.ref (a 24), .int x, .int y, .int z] D (tyA cI cJ cZ) (wX a ++ wV a cI cJ ki co pr pa tw nv sv) (fun _ => True) (fun _ => some (.int 0)) (fun _ => (wX a ++ wV a cI cJ ki co (upd pr x.toNatClampNeg (pr x.toNatClampNeg ||| (1 <<< (y &&& 31)))) (upd pa (x * 12 + y : Int32).toNatClampNeg z) tw nv (if x < sv then x else sv))) := h_La_put l hls D a cI cJ cZ ki co pr pa tw nv sv x y z 0 ki co (upd pr x.toNatClampNeg (pr x.toNatClampNeg ||| (1 <<< (y &&& 31)))) (upd pa (x * 12 + y : Int32).toNatClampNeg z) tw nv (if x < sv then x else sv) (by
  unfold V_La_put
  have h01 : vp_in (0 : Int32) 1 := vp_in_nI (n := 0) (by decide) (by decide)
  refine ⟨hpre, ⟨fun hok => ?_, fun E hbad => ?_⟩⟩
  · first | exact absurd hok hv1 | exact absurd hv1 hok | exact absurd hok.1 hv1 | exact absurd hok.2 hv2 | exact absurd hv2 hok.2 | simp
  · rcases hbad with ⟨rfl, hb⟩
    · first | exact absurd hb hv1 | exact absurd hb.1 hv1 | exact absurd hb.2 hv2 | exact absurd hb hv2 | exact ⟨fun _ => by simp, fun h0 => absurd rfl h0⟩)
theorem hd_La_put : y_La_put.cls ≠ "java/lang/invoke/MethodHandle" ∧ y_La_put.cls ≠ "java/lang/invoke/VarHandle" ∧ (parseMethodDescriptor y_La_put.desc).map (fun d => d.parameters.length) = some 4 := ⟨by decide, by decide, by decide +kernel⟩
theorem kw_La_item : Cond.codeWith y_La_item b_La_item 6 (some .int) [(0, 12, 15, 13), (0, 12, 19, 15)] ∈ W0 := W0_at 369 (by decide +kernel) (by decide +kernel)
theorem s_La_item : Cond.static y_La_item ∈ W0 := W0_at 368 (by decide +kernel) (by decide +kernel)
def V_La_item (pn : Nat → Int32) (pl : Nat → Int32) (po : Nat → Int32) (pf : Nat → Int32) (pt : Nat → Int32) (ou : Nat → Int64) (x : Int32) (y : Int32) (z : Int32) (post : Int32 → (Nat → Int32) → (Nat → Int32) → (Nat → Int32) → (Nat → Int32) → (Nat → Int32) → (Nat → Int64) → Prop) (px : String → (Nat → Int32) → (Nat → Int32) → (Nat → Int32) → (Nat → Int32) → (Nat → Int32) → (Nat → Int64) → Prop) : Prop :=
  ((∀ j : Nat, j < 8 → ∃ b : Nat, b ≤ 6 ∧ pn j = nI b) ∧ (((sHas 8 x && (sIn y 0 15 && sIn z 0 3)) = true ∧ ¬ 6 ≤ pn x.toNatClampNeg → (vp_in 0 1 ∧ post 0 (upd pn x.toNatClampNeg (pn x.toNatClampNeg + 1)) (upd pl (x * 6 + pn x.toNatClampNeg : Int32).toNatClampNeg y) (upd po (x * 6 + pn x.toNatClampNeg : Int32).toNatClampNeg z) pf pt (vp_updL ou (0 : Int32).toNatClampNeg ((pn x.toNatClampNeg + 1 : Int32).toInt64)))) ∧ (∀ E : String, E = IAE ∧ ¬ (sHas 8 x && (sIn y 0 15 && sIn z 0 3)) = true ∨ E = ISE ∧ (sHas 8 x && (sIn y 0 15 && sIn z 0 3)) = true ∧ 6 ≤ pn x.toNatClampNeg → ((E = IAE → post 1 pn pl po pf pt ou) ∧ (E = ISE → post 2 pn pl po pf pt ou) ∧ (¬ E = IAE → ¬ E = ISE → False)))))
set_option maxHeartbeats 4000000 in
set_option maxRecDepth 100000 in
theorem g_La_item {p : Program} {l : Launch} {e : Env} {R : Room} {s : State} {m : MethodId} {args : Array Value} {below : List Frame} {meth : Method} {c : Code} {H : Heap} {locs : List Loc} {Q : State → Prop} {ls : Array Slot} {A : Nat → Prop} (hls : l.stackTraces = false) (S : CallFix p m c b_La_item 6 s args W0 "SchemaJudgeLaw") (htab : c.exceptionTable.toList = tableOf [(0, 12, 15, 13), (0, 12, 19, 15)]) (hN : eN s) (hRf : 7 ≤ R.frames) (hRl : 114 ≤ R.locals) (hRc : 0 + 1 ≤ R.cells ∧ 0 + 6 ≤ R.slots) (D : va_G) (a : Nat → Nat) (cI cJ cZ : ClassId) (pn : Nat → Int32) (pl : Nat → Int32) (po : Nat → Int32) (pf : Nat → Int32) (pt : Nat → Int32) (ou : Nat → Int64) (x : Int32) (y : Int32) (z : Int32) (hK : va_K D vwCl (tyA cI cJ cZ) s) (hP : va_P D vwCl (wX a ++ wP a cI cZ pn pl po pf pt ++ wO a cJ ou) H) (hD : va_D A (wX a ++ wP a cI cZ pn pl po pf pt ++ wO a cJ ou)) (hA : ∀ q, s.heap.size ≤ q → A q) (hS : va_S A s.heap H locs) (hX : eX A s s.heap) (hl : lv_has ls 6 [(0, .ref (a 24)), (1, .int x), (2, .int y), (3, .int z), (4, .ref (a 25))]) {post : Int32 → (Nat → Int32) → (Nat → Int32) → (Nat → Int32) → (Nat → Int32) → (Nat → Int32) → (Nat → Int64) → Prop} {px : String → (Nat → Int32) → (Nat → Int32) → (Nat → Int32) → (Nat → Int32) → (Nat → Int32) → (Nat → Int64) → Prop} (vc : V_La_item pn pl po pf pt ou x y z post px)
    (hret : ∀ (v : Int32) (pn : Nat → Int32) (pl : Nat → Int32) (po : Nat → Int32) (pf : Nat → Int32) (pt : Nat → Int32) (ou : Nat → Int64) (ls : Array Slot) (pc : Nat) (H : Heap) (locs : List Loc) (k j : Nat), decode b_La_item pc = .ok (.ireturn, 1) → k ≤ 1 → j ≤ 6 → post v pn pl po pf pt ou → va_P D vwCl (wX a ++ wP a cI cZ pn pl po pf pt ++ wO a cJ ou) H → va_D A (wX a ++ wP a cI cZ pn pl po pf pt ++ wO a cJ ou) → va_S A s.heap H locs → W p l e R s m args below meth c H locs k j Q (F0 m pc ls [.int v])) : W p l e R s m args below meth c H locs 0 0 Q (F0 m 0 ls []) := by
  have hx := S.1
  have hb := S.2.1
  have hown := S.2.2.2.1
  have hts := S.2.2.2.2
  unfold V_La_item at vc
  refine lv_aload hx hb d_La_item_0 (lv_at hl 4 rfl) ?_
  refine lv_iconst (v := 0) hx hb d_La_item_2 (by decide) ?_
  refine lv_aload_n hx hb d_La_item_3 rfl (lv_at hl 0 rfl) ?_
  refine lv_iload_n hx hb d_La_item_4 rfl (lv_at hl 1 rfl) ?_
  refine lv_iload_n hx hb d_La_item_5 rfl (lv_at hl 2 rfl) ?_
  refine lv_iload_n hx hb d_La_item_6 rfl (lv_at hl 3 rfl) ?_
  obtain ⟨hpre, vc⟩ := vc
  refine xc_V (As := [.int x, .int y, .int z]) (rest := [.int 0, .ref (a 25)]) (wr := (wO a cJ ou)) S (c_Sj_item l hls D a cI cJ cZ pn pl po pf pt x y z hpre) k_Sj_item i_Sj_item e_Sj_item o_Sj ml_La_35 hd_Sj_item (Nat.le_trans (by decide) hRf) (Nat.le_trans (by decide) hRl) hRc (va_recv hK hP (q0 := 0) (ci := 5) rfl rfl) hK hP hD hS hA hX [0, 1, 2, 3, 4, 5, 6] [7] rfl rfl rfl (by decide) (by decide) (by decide) hl.1 rfl (Nat.le_of_ble_eq_true rfl) d_La_item_7 (fun _ E ce q H locs hbad hce hcv hcl hP hD hS => ?_) (fun _ H locs hok hP hD hS => ?_)
  · have vc := vc.2
    have vc := vc E hbad
    have hP : va_P D vwCl (wX a ++ wP a cI cZ pn pl po pf pt ++ wO a cJ ou) H := hP.sub [1, 2, 3, 4, 5, 6, 7, 0] rfl
    have hD : va_D A (wX a ++ wP a cI cZ pn pl po pf pt ++ wO a cJ ou) := hD.sub [1, 2, 3, 4, 5, 6, 7, 0] (by decide) rfl
    by_cases hE0 : E = IAE
    · subst hE0
      have vc := vc.1 rfl
      refine vx_catch (own := "SchemaJudgeLaw") (name := IAE) hown [] ⟨0, 12, 15, 13⟩ [⟨0, 12, 19, 15⟩] htab (fun z hz => by cases hz) (by decide) (by decide) (hts _ cl_La_13) (cast_E hX (by decide +kernel)) hce hcv hcl ?_
      refine lv_astore hx hb d_La_item_15 hl (by decide) (lv' := [(5, .ref q), (0, .ref (a 24)), (1, .int x), (2, .int y), (3, .int z), (4, .ref (a 25))]) rfl (fun ls hl => ?_)
      refine lv_iconst (v := 1) hx hb d_La_item_17 (by decide) ?_
      exact hret _ _ _ _ _ _ _ ls _ H locs _ _ d_La_item_18 (by decide) (by decide) vc hP hD hS
    have vc := vc.2
    by_cases hE1 : E = ISE
    · subst hE1
      have vc := vc.1 rfl
      refine vx_catch (own := "SchemaJudgeLaw") (name := ISE) hown [⟨0, 12, 15, 13⟩] ⟨0, 12, 19, 15⟩ [] htab (fun z hz => by
          rcases List.mem_cons.mp hz with rfl | hz
          · exact Or.inr ⟨by decide, IAE, hts _ cl_La_13, hN.1⟩
          · cases hz) (by decide) (by decide) (hts _ cl_La_15) (cast_E hX (by decide +kernel)) hce hcv hcl ?_
      refine lv_astore hx hb d_La_item_19 hl (by decide) (lv' := [(5, .ref q), (0, .ref (a 24)), (1, .int x), (2, .int y), (3, .int z), (4, .ref (a 25))]) rfl (fun ls hl => ?_)
      refine lv_iconst (v := 2) hx hb d_La_item_21 (by decide) ?_
      exact hret _ _ _ _ _ _ _ ls _ H locs _ _ d_La_item_22 (by decide) (by decide) vc hP hD hS
    have vc := vc.2
    exact (vc hE0 hE1).elim
  · have vc := vc.1
    have vc := vc hok
    have hP : va_P D vwCl (wX a ++ wP a cI cZ (upd pn x.toNatClampNeg (pn x.toNatClampNeg + 1)) (upd pl (x * 6 + pn x.toNatClampNeg : Int32).toNatClampNeg y) (upd po (x * 6 + pn x.toNatClampNeg : Int32).toNatClampNeg z) pf pt ++ wO a cJ ou) H := hP.sub [1, 2, 3, 4, 5, 6, 7, 0] rfl
    have hD : va_D A (wX a ++ wP a cI cZ (upd pn x.toNatClampNeg (pn x.toNatClampNeg + 1)) (upd pl (x * 6 + pn x.toNatClampNeg : Int32).toNatClampNeg y) (upd po (x * 6 + pn x.toNatClampNeg : Int32).toNatClampNeg z) pf pt ++ wO a cJ ou) := hD.sub [1, 2, 3, 4, 5, 6, 7, 0] (by decide) rfl
    refine lv_i2l hx hb d_La_item_10 rfl ?_
    obtain ⟨vcb, vc⟩ := vc
    refine va_last hx hb hK hP hD hS 7 1 rfl rfl vcb d_La_item_11 (fun H locs hP hD hS => ?_)
    have hP : va_P D vwCl (wX a ++ wP a cI cZ (upd pn x.toNatClampNeg (pn x.toNatClampNeg + 1)) (upd pl (x * 6 + pn x.toNatClampNeg : Int32).toNatClampNeg y) (upd po (x * 6 + pn x.toNatClampNeg : Int32).toNatClampNeg z) pf pt ++ wO a cJ (vp_updL ou (0 : Int32).toNatClampNeg ((pn x.toNatClampNeg + 1 : Int32).toInt64))) H := hP
    have hD : va_D A (wX a ++ wP a cI cZ (upd pn x.toNatClampNeg (pn x.toNatClampNeg + 1)) (upd pl (x * 6 + pn x.toNatClampNeg : Int32).toNatClampNeg y) (upd po (x * 6 + pn x.toNatClampNeg : Int32).toNatClampNeg z) pf pt ++ wO a cJ (vp_updL ou (0 : Int32).toNatClampNeg ((pn x.toNatClampNeg + 1 : Int32).toInt64))) := hD
    refine lv_goto (tgt := 23) hx hb d_La_item_12 (by decide) ?_
    refine lv_iconst (v := 0) hx hb d_La_item_23 (by decide) ?_
    exact hret _ _ _ _ _ _ _ ls _ H locs _ _ d_La_item_24 (by decide) (by decide) vc hP hD hS
theorem h_La_item (l : Launch) (hls : l.stackTraces = false) (D : va_G) (a : Nat → Nat) (cI cJ cZ : ClassId) (pn : Nat → Int32) (pl : Nat → Int32) (po : Nat → Int32) (pf : Nat → Int32) (pt : Nat → Int32) (ou : Nat → Int64) (x : Int32) (y : Int32) (z : Int32) (r : Int32) (pn' : Nat → Int32) (pl' : Nat → Int32) (po' : Nat → Int32) (pf' : Nat → Int32) (pt' : Nat → Int32) (ou' : Nat → Int64) (vc : V_La_item pn pl po pf pt ou x y z (fun v pn pl po pf pt ou => v = r ∧ pn = pn' ∧ pl = pl' ∧ po = po' ∧ pf = pf' ∧ pt = pt' ∧ ou = ou') (fun _ _ _ _ _ _ _ => True)) : Hm (S := Unit) l y_La_item b_La_item 6 (some .int) [(0, 12, 15, 13), (0, 12, 19, 15)] 7 114 [.ref (a 24), .int x, .int y, .int z, .ref (a 25)] D (tyA cI cJ cZ) (wX a ++ wP a cI cZ pn pl po pf pt ++ wO a cJ ou) (fun _ => True) (fun _ => some (.int r)) (fun _ => (wX a ++ wP a cI cZ pn' pl' po' pf' pt' ++ wO a cJ ou')) :=
  hm_of (r := fun _ => r) (by decide) rfl (Nat.le_of_ble_eq_true rfl) (fun p e s m below meth c ls Q A S htab hN hK hP hD hA hS hX hl hret => g_La_item hls S htab hN (Nat.le_refl _) (Nat.le_refl _) ⟨Nat.le_refl _, Nat.le_refl _⟩ D a cI cJ cZ pn pl po pf pt ou x y z hK hP hD hA hS hX hl vc
    (fun v pn pl po pf pt ou ls pc H locs k j hd hk hj hv hP hD hS => by obtain ⟨rfl, rfl, rfl, rfl, rfl, rfl, rfl⟩ := hv; exact hret () ls pc H locs k j _ rfl hd hk hj trivial hP hD hS))
theorem c_La_item_1 (l : Launch) (hls : l.stackTraces = false) (D : va_G) (a : Nat → Nat) (cI cJ cZ : ClassId) (pn : Nat → Int32) (pl : Nat → Int32) (po : Nat → Int32) (pf : Nat → Int32) (pt : Nat → Int32) (ou : Nat → Int64) (x : Int32) (y : Int32) (z : Int32) (hpre : (∀ j : Nat, j < 8 → ∃ b : Nat, b ≤ 6 ∧ pn j = nI b)) (hv1 : ¬ (sHas 8 x && (sIn y 0 15 && sIn z 0 3)) = true) : Hm (S := Unit) l y_La_item b_La_item 6 (some .int) [(0, 12, 15, 13), (0, 12, 19, 15)] 7 114 [.ref (a 24), .int x, .int y, .int z, .ref (a 25)] D (tyA cI cJ cZ) (wX a ++ wP a cI cZ pn pl po pf pt ++ wO a cJ ou) (fun _ => True) (fun _ => some (.int 1)) (fun _ => (wX a ++ wP a cI cZ pn pl po pf pt ++ wO a cJ ou)) := h_La_item l hls D a cI cJ cZ pn pl po pf pt ou x y z 1 pn pl po pf pt ou (by
  unfold V_La_item
  have h01 : vp_in (0 : Int32) 1 := vp_in_nI (n := 0) (by decide) (by decide)
  refine ⟨hpre, ⟨fun hok => ?_, fun E hbad => ?_⟩⟩
  · first | exact absurd hok hv1 | exact absurd hv1 hok | exact absurd hok.1 hv1 | exact absurd hok.2 hv2 | exact absurd hv2 hok.2 | exact ⟨h01, by simp⟩
  · rcases hbad with ⟨rfl, hb⟩ | ⟨rfl, hb⟩
    · first | exact absurd hb hv1 | exact absurd hb.1 hv1 | exact absurd hb.2 hv2 | exact absurd hb hv2 | exact ⟨fun _ => by simp, fun h => absurd h (by decide), fun h0 h1 => absurd rfl h0⟩
    · first | exact absurd hb hv1 | exact absurd hb.1 hv1 | exact absurd hb.2 hv2 | exact absurd hb hv2 | exact ⟨fun h => absurd h (by decide), fun _ => by simp, fun h0 h1 => absurd rfl h1⟩)
theorem c_La_item_2 (l : Launch) (hls : l.stackTraces = false) (D : va_G) (a : Nat → Nat) (cI cJ cZ : ClassId) (pn : Nat → Int32) (pl : Nat → Int32) (po : Nat → Int32) (pf : Nat → Int32) (pt : Nat → Int32) (ou : Nat → Int64) (x : Int32) (y : Int32) (z : Int32) (hpre : (∀ j : Nat, j < 8 → ∃ b : Nat, b ≤ 6 ∧ pn j = nI b)) (hv1 : ¬ (¬ (sHas 8 x && (sIn y 0 15 && sIn z 0 3)) = true)) (hv2 : 6 ≤ pn x.toNatClampNeg) : Hm (S := Unit) l y_La_item b_La_item 6 (some .int) [(0, 12, 15, 13), (0, 12, 19, 15)] 7 114 [.ref (a 24), .int x, .int y, .int z, .ref (a 25)] D (tyA cI cJ cZ) (wX a ++ wP a cI cZ pn pl po pf pt ++ wO a cJ ou) (fun _ => True) (fun _ => some (.int 2)) (fun _ => (wX a ++ wP a cI cZ pn pl po pf pt ++ wO a cJ ou)) := h_La_item l hls D a cI cJ cZ pn pl po pf pt ou x y z 2 pn pl po pf pt ou (by
  unfold V_La_item
  have h01 : vp_in (0 : Int32) 1 := vp_in_nI (n := 0) (by decide) (by decide)
  refine ⟨hpre, ⟨fun hok => ?_, fun E hbad => ?_⟩⟩
  · first | exact absurd hok hv1 | exact absurd hv1 hok | exact absurd hok.1 hv1 | exact absurd hok.2 hv2 | exact absurd hv2 hok.2 | exact ⟨h01, by simp⟩
  · rcases hbad with ⟨rfl, hb⟩ | ⟨rfl, hb⟩
    · first | exact absurd hb hv1 | exact absurd hb.1 hv1 | exact absurd hb.2 hv2 | exact absurd hb hv2 | exact ⟨fun _ => by simp, fun h => absurd h (by decide), fun h0 h1 => absurd rfl h0⟩
    · first | exact absurd hb hv1 | exact absurd hb.1 hv1 | exact absurd hb.2 hv2 | exact absurd hb hv2 | exact ⟨fun h => absurd h (by decide), fun _ => by simp, fun h0 h1 => absurd rfl h1⟩)
theorem c_La_item_3 (l : Launch) (hls : l.stackTraces = false) (D : va_G) (a : Nat → Nat) (cI cJ cZ : ClassId) (pn : Nat → Int32) (pl : Nat → Int32) (po : Nat → Int32) (pf : Nat → Int32) (pt : Nat → Int32) (ou : Nat → Int64) (x : Int32) (y : Int32) (z : Int32) (hpre : (∀ j : Nat, j < 8 → ∃ b : Nat, b ≤ 6 ∧ pn j = nI b)) (hv1 : ¬ (¬ (sHas 8 x && (sIn y 0 15 && sIn z 0 3)) = true)) (hv2 : ¬ (6 ≤ pn x.toNatClampNeg)) : Hm (S := Unit) l y_La_item b_La_item 6 (some .int) [(0, 12, 15, 13), (0, 12, 19, 15)] 7 114 [.ref (a 24), .int x, .int y, .int z, .ref (a 25)] D (tyA cI cJ cZ) (wX a ++ wP a cI cZ pn pl po pf pt ++ wO a cJ ou) (fun _ => True) (fun _ => some (.int 0)) (fun _ => (wX a ++ wP a cI cZ (upd pn x.toNatClampNeg (pn x.toNatClampNeg + 1)) (upd pl (x * 6 + pn x.toNatClampNeg : Int32).toNatClampNeg y) (upd po (x * 6 + pn x.toNatClampNeg : Int32).toNatClampNeg z) pf pt ++ wO a cJ (vp_updL ou 0 ((pn x.toNatClampNeg + 1 : Int32).toInt64)))) := h_La_item l hls D a cI cJ cZ pn pl po pf pt ou x y z 0 (upd pn x.toNatClampNeg (pn x.toNatClampNeg + 1)) (upd pl (x * 6 + pn x.toNatClampNeg : Int32).toNatClampNeg y) (upd po (x * 6 + pn x.toNatClampNeg : Int32).toNatClampNeg z) pf pt (vp_updL ou 0 ((pn x.toNatClampNeg + 1 : Int32).toInt64)) (by
  unfold V_La_item
  have h01 : vp_in (0 : Int32) 1 := vp_in_nI (n := 0) (by decide) (by decide)
  refine ⟨hpre, ⟨fun hok => ?_, fun E hbad => ?_⟩⟩
  · first | exact absurd hok hv1 | exact absurd hv1 hok | exact absurd hok.1 hv1 | exact absurd hok.2 hv2 | exact absurd hv2 hok.2 | exact ⟨h01, by simp⟩
  · rcases hbad with ⟨rfl, hb⟩ | ⟨rfl, hb⟩
    · first | exact absurd hb hv1 | exact absurd hb.1 hv1 | exact absurd hb.2 hv2 | exact absurd hb hv2 | exact ⟨fun _ => by simp, fun h => absurd h (by decide), fun h0 h1 => absurd rfl h0⟩
    · first | exact absurd hb hv1 | exact absurd hb.1 hv1 | exact absurd hb.2 hv2 | exact absurd hb hv2 | exact ⟨fun h => absurd h (by decide), fun _ => by simp, fun h0 h1 => absurd rfl h1⟩)
theorem hd_La_item : y_La_item.cls ≠ "java/lang/invoke/MethodHandle" ∧ y_La_item.cls ≠ "java/lang/invoke/VarHandle" ∧ (parseMethodDescriptor y_La_item.desc).map (fun d => d.parameters.length) = some 5 := ⟨by decide, by decide, by decide +kernel⟩
theorem kw_La_bind : Cond.codeWith y_La_bind b_La_bind 5 (some .int) [(0, 7, 10, 13)] ∈ W0 := W0_at 390 (by decide +kernel) (by decide +kernel)
theorem s_La_bind : Cond.static y_La_bind ∈ W0 := W0_at 389 (by decide +kernel) (by decide +kernel)
def V_La_bind (pn : Nat → Int32) (pl : Nat → Int32) (po : Nat → Int32) (pf : Nat → Int32) (pt : Nat → Int32) (x : Int32) (y : Int32) (z : Int32) (post : Int32 → (Nat → Int32) → (Nat → Int32) → (Nat → Int32) → (Nat → Int32) → (Nat → Int32) → Prop) (px : String → (Nat → Int32) → (Nat → Int32) → (Nat → Int32) → (Nat → Int32) → (Nat → Int32) → Prop) : Prop :=
  ((sHas 8 x = true → post 0 pn pl po (upd pf x.toNatClampNeg (vp_nar .boolean y)) (upd pt x.toNatClampNeg (vp_nar .boolean z))) ∧ (∀ E : String, E = IAE ∧ ¬ sHas 8 x = true → ((E = IAE → post 1 pn pl po pf pt) ∧ (¬ E = IAE → False))))
set_option maxHeartbeats 4000000 in
set_option maxRecDepth 100000 in
theorem g_La_bind {p : Program} {l : Launch} {e : Env} {R : Room} {s : State} {m : MethodId} {args : Array Value} {below : List Frame} {meth : Method} {c : Code} {H : Heap} {locs : List Loc} {Q : State → Prop} {ls : Array Slot} {A : Nat → Prop} (hls : l.stackTraces = false) (S : CallFix p m c b_La_bind 5 s args W0 "SchemaJudgeLaw") (htab : c.exceptionTable.toList = tableOf [(0, 7, 10, 13)]) (hN : eN s) (hRf : 7 ≤ R.frames) (hRl : 113 ≤ R.locals) (hRc : 0 + 1 ≤ R.cells ∧ 0 + 6 ≤ R.slots) (D : va_G) (a : Nat → Nat) (cI cJ cZ : ClassId) (pn : Nat → Int32) (pl : Nat → Int32) (po : Nat → Int32) (pf : Nat → Int32) (pt : Nat → Int32) (x : Int32) (y : Int32) (z : Int32) (hK : va_K D vwCl (tyA cI cJ cZ) s) (hP : va_P D vwCl (wX a ++ wP a cI cZ pn pl po pf pt) H) (hD : va_D A (wX a ++ wP a cI cZ pn pl po pf pt)) (hA : ∀ q, s.heap.size ≤ q → A q) (hS : va_S A s.heap H locs) (hX : eX A s s.heap) (hl : lv_has ls 5 [(0, .ref (a 24)), (1, .int x), (2, .int y), (3, .int z)]) {post : Int32 → (Nat → Int32) → (Nat → Int32) → (Nat → Int32) → (Nat → Int32) → (Nat → Int32) → Prop} {px : String → (Nat → Int32) → (Nat → Int32) → (Nat → Int32) → (Nat → Int32) → (Nat → Int32) → Prop} (vc : V_La_bind pn pl po pf pt x y z post px)
    (hret : ∀ (v : Int32) (pn : Nat → Int32) (pl : Nat → Int32) (po : Nat → Int32) (pf : Nat → Int32) (pt : Nat → Int32) (ls : Array Slot) (pc : Nat) (H : Heap) (locs : List Loc) (k j : Nat), decode b_La_bind pc = .ok (.ireturn, 1) → k ≤ 1 → j ≤ 6 → post v pn pl po pf pt → va_P D vwCl (wX a ++ wP a cI cZ pn pl po pf pt) H → va_D A (wX a ++ wP a cI cZ pn pl po pf pt) → va_S A s.heap H locs → W p l e R s m args below meth c H locs k j Q (F0 m pc ls [.int v])) : W p l e R s m args below meth c H locs 0 0 Q (F0 m 0 ls []) := by
  have hx := S.1
  have hb := S.2.1
  have hown := S.2.2.2.1
  have hts := S.2.2.2.2
  unfold V_La_bind at vc
  refine lv_aload_n hx hb d_La_bind_0 rfl (lv_at hl 0 rfl) ?_
  refine lv_iload_n hx hb d_La_bind_1 rfl (lv_at hl 1 rfl) ?_
  refine lv_iload_n hx hb d_La_bind_2 rfl (lv_at hl 2 rfl) ?_
  refine lv_iload_n hx hb d_La_bind_3 rfl (lv_at hl 3 rfl) ?_
  refine xc_V (As := [.int x, .int y, .int z]) (rest := []) (wr := ([] : va_W)) S (c_Sj_bind l hls D a cI cJ cZ pn pl po pf pt x y z) k_Sj_bind i_Sj_bind e_Sj_bind o_Sj ml_La_39 hd_Sj_bind (Nat.le_trans (by decide) hRf) (Nat.le_trans (by decide) hRl) hRc (va_recv hK hP (q0 := 0) (ci := 5) rfl rfl) hK hP hD hS hA hX [0, 1, 2, 3, 4, 5, 6] [] rfl rfl rfl (by decide) (by decide) (by decide) hl.1 rfl (Nat.le_of_ble_eq_true rfl) d_La_bind_4 (fun _ E ce q H locs hbad hce hcv hcl hP hD hS => ?_) (fun _ H locs hok hP hD hS => ?_)
  · have vc := vc.2
    have vc := vc E hbad
    have hP : va_P D vwCl (wX a ++ wP a cI cZ pn pl po pf pt) H := hP
    have hD : va_D A (wX a ++ wP a cI cZ pn pl po pf pt) := hD
    by_cases hE0 : E = IAE
    · subst hE0
      have vc := vc.1 rfl
      refine vx_catch (own := "SchemaJudgeLaw") (name := IAE) hown [] ⟨0, 7, 10, 13⟩ [] htab (fun z hz => by cases hz) (by decide) (by decide) (hts _ cl_La_13) (cast_E hX (by decide +kernel)) hce hcv hcl ?_
      refine lv_astore hx hb d_La_bind_10 hl (by decide) (lv' := [(4, .ref q), (0, .ref (a 24)), (1, .int x), (2, .int y), (3, .int z)]) rfl (fun ls hl => ?_)
      refine lv_iconst (v := 1) hx hb d_La_bind_12 (by decide) ?_
      exact hret _ _ _ _ _ _ ls _ H locs _ _ d_La_bind_13 (by decide) (by decide) vc hP hD hS
    have vc := vc.2
    exact (vc hE0).elim
  · have vc := vc.1
    have vc := vc hok
    have hP : va_P D vwCl (wX a ++ wP a cI cZ pn pl po (upd pf x.toNatClampNeg (vp_nar .boolean y)) (upd pt x.toNatClampNeg (vp_nar .boolean z))) H := hP
    have hD : va_D A (wX a ++ wP a cI cZ pn pl po (upd pf x.toNatClampNeg (vp_nar .boolean y)) (upd pt x.toNatClampNeg (vp_nar .boolean z))) := hD
    refine lv_goto (tgt := 14) hx hb d_La_bind_7 (by decide) ?_
    refine lv_iconst (v := 0) hx hb d_La_bind_14 (by decide) ?_
    exact hret _ _ _ _ _ _ ls _ H locs _ _ d_La_bind_15 (by decide) (by decide) vc hP hD hS
theorem h_La_bind (l : Launch) (hls : l.stackTraces = false) (D : va_G) (a : Nat → Nat) (cI cJ cZ : ClassId) (pn : Nat → Int32) (pl : Nat → Int32) (po : Nat → Int32) (pf : Nat → Int32) (pt : Nat → Int32) (x : Int32) (y : Int32) (z : Int32) (r : Int32) (pn' : Nat → Int32) (pl' : Nat → Int32) (po' : Nat → Int32) (pf' : Nat → Int32) (pt' : Nat → Int32) (vc : V_La_bind pn pl po pf pt x y z (fun v pn pl po pf pt => v = r ∧ pn = pn' ∧ pl = pl' ∧ po = po' ∧ pf = pf' ∧ pt = pt') (fun _ _ _ _ _ _ => True)) : Hm (S := Unit) l y_La_bind b_La_bind 5 (some .int) [(0, 7, 10, 13)] 7 113 [.ref (a 24), .int x, .int y, .int z] D (tyA cI cJ cZ) (wX a ++ wP a cI cZ pn pl po pf pt) (fun _ => True) (fun _ => some (.int r)) (fun _ => (wX a ++ wP a cI cZ pn' pl' po' pf' pt')) :=
  hm_of (r := fun _ => r) (by decide) rfl (Nat.le_of_ble_eq_true rfl) (fun p e s m below meth c ls Q A S htab hN hK hP hD hA hS hX hl hret => g_La_bind hls S htab hN (Nat.le_refl _) (Nat.le_refl _) ⟨Nat.le_refl _, Nat.le_refl _⟩ D a cI cJ cZ pn pl po pf pt x y z hK hP hD hA hS hX hl vc
    (fun v pn pl po pf pt ls pc H locs k j hd hk hj hv hP hD hS => by obtain ⟨rfl, rfl, rfl, rfl, rfl, rfl⟩ := hv; exact hret () ls pc H locs k j _ rfl hd hk hj trivial hP hD hS))
theorem c_La_bind_1 (l : Launch) (hls : l.stackTraces = false) (D : va_G) (a : Nat → Nat) (cI cJ cZ : ClassId) (pn : Nat → Int32) (pl : Nat → Int32) (po : Nat → Int32) (pf : Nat → Int32) (pt : Nat → Int32) (x : Int32) (y : Int32) (z : Int32) (hv1 : ¬ sHas 8 x = true) : Hm (S := Unit) l y_La_bind b_La_bind 5 (some .int) [(0, 7, 10, 13)] 7 113 [.ref (a 24), .int x, .int y, .int z] D (tyA cI cJ cZ) (wX a ++ wP a cI cZ pn pl po pf pt) (fun _ => True) (fun _ => some (.int 1)) (fun _ => (wX a ++ wP a cI cZ pn pl po pf pt)) := h_La_bind l hls D a cI cJ cZ pn pl po pf pt x y z 1 pn pl po pf pt (by
  unfold V_La_bind
  have h01 : vp_in (0 : Int32) 1 := vp_in_nI (n := 0) (by decide) (by decide)
  refine ⟨fun hok => ?_, fun E hbad => ?_⟩
  · first | exact absurd hok hv1 | exact absurd hv1 hok | exact absurd hok.1 hv1 | exact absurd hok.2 hv2 | exact absurd hv2 hok.2 | simp
  · rcases hbad with ⟨rfl, hb⟩
    · first | exact absurd hb hv1 | exact absurd hb.1 hv1 | exact absurd hb.2 hv2 | exact absurd hb hv2 | exact ⟨fun _ => by simp, fun h0 => absurd rfl h0⟩)
theorem c_La_bind_2 (l : Launch) (hls : l.stackTraces = false) (D : va_G) (a : Nat → Nat) (cI cJ cZ : ClassId) (pn : Nat → Int32) (pl : Nat → Int32) (po : Nat → Int32) (pf : Nat → Int32) (pt : Nat → Int32) (x : Int32) (y : Int32) (z : Int32) (hv1 : ¬ (¬ sHas 8 x = true)) : Hm (S := Unit) l y_La_bind b_La_bind 5 (some .int) [(0, 7, 10, 13)] 7 113 [.ref (a 24), .int x, .int y, .int z] D (tyA cI cJ cZ) (wX a ++ wP a cI cZ pn pl po pf pt) (fun _ => True) (fun _ => some (.int 0)) (fun _ => (wX a ++ wP a cI cZ pn pl po (upd pf x.toNatClampNeg (vp_nar .boolean y)) (upd pt x.toNatClampNeg (vp_nar .boolean z)))) := h_La_bind l hls D a cI cJ cZ pn pl po pf pt x y z 0 pn pl po (upd pf x.toNatClampNeg (vp_nar .boolean y)) (upd pt x.toNatClampNeg (vp_nar .boolean z)) (by
  unfold V_La_bind
  have h01 : vp_in (0 : Int32) 1 := vp_in_nI (n := 0) (by decide) (by decide)
  refine ⟨fun hok => ?_, fun E hbad => ?_⟩
  · first | exact absurd hok hv1 | exact absurd hv1 hok | exact absurd hok.1 hv1 | exact absurd hok.2 hv2 | exact absurd hv2 hok.2 | simp
  · rcases hbad with ⟨rfl, hb⟩
    · first | exact absurd hb hv1 | exact absurd hb.1 hv1 | exact absurd hb.2 hv2 | exact absurd hb hv2 | exact ⟨fun _ => by simp, fun h0 => absurd rfl h0⟩)
theorem hd_La_bind : y_La_bind.cls ≠ "java/lang/invoke/MethodHandle" ∧ y_La_bind.cls ≠ "java/lang/invoke/VarHandle" ∧ (parseMethodDescriptor y_La_bind.desc).map (fun d => d.parameters.length) = some 4 := ⟨by decide, by decide, by decide +kernel⟩
theorem kw_La_schema : Cond.codeWith y_La_schema b_La_schema 3 (some .int) [(0, 8, 11, 15)] ∈ W0 := W0_at 402 (by decide +kernel) (by decide +kernel)
theorem s_La_schema : Cond.static y_La_schema ∈ W0 := W0_at 401 (by decide +kernel) (by decide +kernel)
def V_La_schema (ru : Nat → Int32) (le : Nat → Int32) (li : Nat → Int32) (bn : Nat → Int32) (ip : Nat → Int32) (aw : Nat → Int32) (ns : Int32) (ou : Nat → Int64) (post : Int32 → (Nat → Int32) → (Nat → Int32) → (Nat → Int32) → (Nat → Int32) → (Nat → Int32) → (Nat → Int32) → Int32 → (Nat → Int64) → Prop) (px : String → (Nat → Int32) → (Nat → Int32) → (Nat → Int32) → (Nat → Int32) → (Nat → Int32) → (Nat → Int32) → Int32 → (Nat → Int64) → Prop) : Prop :=
  ((¬ 24 ≤ ns → (vp_in 0 1 ∧ post 0 ru le li bn ip aw (ns + 1) (vp_updL ou (0 : Int32).toNatClampNeg ((ns + 1 - 1 : Int32).toInt64)))) ∧ (∀ E : String, E = ISE ∧ 24 ≤ ns → ((E = ISE → post 1 ru le li bn ip aw ns ou) ∧ (¬ E = ISE → False))))
set_option maxHeartbeats 4000000 in
set_option maxRecDepth 100000 in
theorem g_La_schema {p : Program} {l : Launch} {e : Env} {R : Room} {s : State} {m : MethodId} {args : Array Value} {below : List Frame} {meth : Method} {c : Code} {H : Heap} {locs : List Loc} {Q : State → Prop} {ls : Array Slot} {A : Nat → Prop} (hls : l.stackTraces = false) (S : CallFix p m c b_La_schema 3 s args W0 "SchemaJudgeLaw") (htab : c.exceptionTable.toList = tableOf [(0, 8, 11, 15)]) (hN : eN s) (hRf : 7 ≤ R.frames) (hRl : 110 ≤ R.locals) (hRc : 0 + 1 ≤ R.cells ∧ 0 + 6 ≤ R.slots) (D : va_G) (a : Nat → Nat) (cI cJ cZ : ClassId) (ru : Nat → Int32) (le : Nat → Int32) (li : Nat → Int32) (bn : Nat → Int32) (ip : Nat → Int32) (aw : Nat → Int32) (ns : Int32) (ou : Nat → Int64) (hK : va_K D vwCl (tyA cI cJ cZ) s) (hP : va_P D vwCl (wX a ++ wS a cI ru le li bn ip aw ns ++ wO a cJ ou) H) (hD : va_D A (wX a ++ wS a cI ru le li bn ip aw ns ++ wO a cJ ou)) (hA : ∀ q, s.heap.size ≤ q → A q) (hS : va_S A s.heap H locs) (hX : eX A s s.heap) (hl : lv_has ls 3 [(0, .ref (a 24)), (1, .ref (a 25))]) {post : Int32 → (Nat → Int32) → (Nat → Int32) → (Nat → Int32) → (Nat → Int32) → (Nat → Int32) → (Nat → Int32) → Int32 → (Nat → Int64) → Prop} {px : String → (Nat → Int32) → (Nat → Int32) → (Nat → Int32) → (Nat → Int32) → (Nat → Int32) → (Nat → Int32) → Int32 → (Nat → Int64) → Prop} (vc : V_La_schema ru le li bn ip aw ns ou post px)
    (hret : ∀ (v : Int32) (ru : Nat → Int32) (le : Nat → Int32) (li : Nat → Int32) (bn : Nat → Int32) (ip : Nat → Int32) (aw : Nat → Int32) (ns : Int32) (ou : Nat → Int64) (ls : Array Slot) (pc : Nat) (H : Heap) (locs : List Loc) (k j : Nat), decode b_La_schema pc = .ok (.ireturn, 1) → k ≤ 1 → j ≤ 6 → post v ru le li bn ip aw ns ou → va_P D vwCl (wX a ++ wS a cI ru le li bn ip aw ns ++ wO a cJ ou) H → va_D A (wX a ++ wS a cI ru le li bn ip aw ns ++ wO a cJ ou) → va_S A s.heap H locs → W p l e R s m args below meth c H locs k j Q (F0 m pc ls [.int v])) : W p l e R s m args below meth c H locs 0 0 Q (F0 m 0 ls []) := by
  have hx := S.1
  have hb := S.2.1
  have hown := S.2.2.2.1
  have hts := S.2.2.2.2
  unfold V_La_schema at vc
  refine lv_aload_n hx hb d_La_schema_0 rfl (lv_at hl 1 rfl) ?_
  refine lv_iconst (v := 0) hx hb d_La_schema_1 (by decide) ?_
  refine lv_aload_n hx hb d_La_schema_2 rfl (lv_at hl 0 rfl) ?_
  refine xc_V (As := []) (rest := [.int 0, .ref (a 25)]) (wr := (wO a cJ ou)) S (c_Sj_schema l hls D a cI cJ cZ ru le li bn ip aw ns) k_Sj_schema i_Sj_schema e_Sj_schema o_Sj ml_La_43 hd_Sj_schema (Nat.le_trans (by decide) hRf) (Nat.le_trans (by decide) hRl) hRc (va_recv hK hP (q0 := 0) (ci := 5) rfl rfl) hK hP hD hS hA hX [0, 1, 2, 3, 4, 5, 6, 7] [8] rfl rfl rfl (by decide) (by decide) (by decide) hl.1 rfl (Nat.le_of_ble_eq_true rfl) d_La_schema_3 (fun _ E ce q H locs hbad hce hcv hcl hP hD hS => ?_) (fun _ H locs hok hP hD hS => ?_)
  · have vc := vc.2
    have vc := vc E hbad
    have hP : va_P D vwCl (wX a ++ wS a cI ru le li bn ip aw ns ++ wO a cJ ou) H := hP.sub [1, 2, 3, 4, 5, 6, 7, 8, 0] rfl
    have hD : va_D A (wX a ++ wS a cI ru le li bn ip aw ns ++ wO a cJ ou) := hD.sub [1, 2, 3, 4, 5, 6, 7, 8, 0] (by decide) rfl
    by_cases hE0 : E = ISE
    · subst hE0
      have vc := vc.1 rfl
      refine vx_catch (own := "SchemaJudgeLaw") (name := ISE) hown [] ⟨0, 8, 11, 15⟩ [] htab (fun z hz => by cases hz) (by decide) (by decide) (hts _ cl_La_15) (cast_E hX (by decide +kernel)) hce hcv hcl ?_
      refine lv_astore_n hx hb d_La_schema_11 rfl hl (by decide) (lv' := [(2, .ref q), (0, .ref (a 24)), (1, .ref (a 25))]) rfl (fun ls hl => ?_)
      refine lv_iconst (v := 1) hx hb d_La_schema_12 (by decide) ?_
      exact hret _ _ _ _ _ _ _ _ _ ls _ H locs _ _ d_La_schema_13 (by decide) (by decide) vc hP hD hS
    have vc := vc.2
    exact (vc hE0).elim
  · have vc := vc.1
    have vc := vc hok
    have hP : va_P D vwCl (wX a ++ wS a cI ru le li bn ip aw (ns + 1) ++ wO a cJ ou) H := hP.sub [1, 2, 3, 4, 5, 6, 7, 8, 0] rfl
    have hD : va_D A (wX a ++ wS a cI ru le li bn ip aw (ns + 1) ++ wO a cJ ou) := hD.sub [1, 2, 3, 4, 5, 6, 7, 8, 0] (by decide) rfl
    refine lv_i2l hx hb d_La_schema_6 rfl ?_
    obtain ⟨vcb, vc⟩ := vc
    refine va_last hx hb hK hP hD hS 8 1 rfl rfl vcb d_La_schema_7 (fun H locs hP hD hS => ?_)
    have hP : va_P D vwCl (wX a ++ wS a cI ru le li bn ip aw (ns + 1) ++ wO a cJ (vp_updL ou (0 : Int32).toNatClampNeg ((ns + 1 - 1 : Int32).toInt64))) H := hP
    have hD : va_D A (wX a ++ wS a cI ru le li bn ip aw (ns + 1) ++ wO a cJ (vp_updL ou (0 : Int32).toNatClampNeg ((ns + 1 - 1 : Int32).toInt64))) := hD
    refine lv_goto (tgt := 14) hx hb d_La_schema_8 (by decide) ?_
    refine lv_iconst (v := 0) hx hb d_La_schema_14 (by decide) ?_
    exact hret _ _ _ _ _ _ _ _ _ ls _ H locs _ _ d_La_schema_15 (by decide) (by decide) vc hP hD hS
theorem h_La_schema (l : Launch) (hls : l.stackTraces = false) (D : va_G) (a : Nat → Nat) (cI cJ cZ : ClassId) (ru : Nat → Int32) (le : Nat → Int32) (li : Nat → Int32) (bn : Nat → Int32) (ip : Nat → Int32) (aw : Nat → Int32) (ns : Int32) (ou : Nat → Int64) (r : Int32) (ru' : Nat → Int32) (le' : Nat → Int32) (li' : Nat → Int32) (bn' : Nat → Int32) (ip' : Nat → Int32) (aw' : Nat → Int32) (ns' : Int32) (ou' : Nat → Int64) (vc : V_La_schema ru le li bn ip aw ns ou (fun v ru le li bn ip aw ns ou => v = r ∧ ru = ru' ∧ le = le' ∧ li = li' ∧ bn = bn' ∧ ip = ip' ∧ aw = aw' ∧ ns = ns' ∧ ou = ou') (fun _ _ _ _ _ _ _ _ _ => True)) : Hm (S := Unit) l y_La_schema b_La_schema 3 (some .int) [(0, 8, 11, 15)] 7 110 [.ref (a 24), .ref (a 25)] D (tyA cI cJ cZ) (wX a ++ wS a cI ru le li bn ip aw ns ++ wO a cJ ou) (fun _ => True) (fun _ => some (.int r)) (fun _ => (wX a ++ wS a cI ru' le' li' bn' ip' aw' ns' ++ wO a cJ ou')) :=
  hm_of (r := fun _ => r) (by decide) rfl (Nat.le_of_ble_eq_true rfl) (fun p e s m below meth c ls Q A S htab hN hK hP hD hA hS hX hl hret => g_La_schema hls S htab hN (Nat.le_refl _) (Nat.le_refl _) ⟨Nat.le_refl _, Nat.le_refl _⟩ D a cI cJ cZ ru le li bn ip aw ns ou hK hP hD hA hS hX hl vc
    (fun v ru le li bn ip aw ns ou ls pc H locs k j hd hk hj hv hP hD hS => by obtain ⟨rfl, rfl, rfl, rfl, rfl, rfl, rfl, rfl, rfl⟩ := hv; exact hret () ls pc H locs k j _ rfl hd hk hj trivial hP hD hS))
theorem c_La_schema_1 (l : Launch) (hls : l.stackTraces = false) (D : va_G) (a : Nat → Nat) (cI cJ cZ : ClassId) (ru : Nat → Int32) (le : Nat → Int32) (li : Nat → Int32) (bn : Nat → Int32) (ip : Nat → Int32) (aw : Nat → Int32) (ns : Int32) (ou : Nat → Int64) (hv1 : 24 ≤ ns) : Hm (S := Unit) l y_La_schema b_La_schema 3 (some .int) [(0, 8, 11, 15)] 7 110 [.ref (a 24), .ref (a 25)] D (tyA cI cJ cZ) (wX a ++ wS a cI ru le li bn ip aw ns ++ wO a cJ ou) (fun _ => True) (fun _ => some (.int 1)) (fun _ => (wX a ++ wS a cI ru le li bn ip aw ns ++ wO a cJ ou)) := h_La_schema l hls D a cI cJ cZ ru le li bn ip aw ns ou 1 ru le li bn ip aw ns ou (by
  unfold V_La_schema
  have h01 : vp_in (0 : Int32) 1 := vp_in_nI (n := 0) (by decide) (by decide)
  refine ⟨fun hok => ?_, fun E hbad => ?_⟩
  · first | exact absurd hok hv1 | exact absurd hv1 hok | exact absurd hok.1 hv1 | exact absurd hok.2 hv2 | exact absurd hv2 hok.2 | exact ⟨h01, by simp⟩
  · rcases hbad with ⟨rfl, hb⟩
    · first | exact absurd hb hv1 | exact absurd hb.1 hv1 | exact absurd hb.2 hv2 | exact absurd hb hv2 | exact ⟨fun _ => by simp, fun h0 => absurd rfl h0⟩)
theorem c_La_schema_2 (l : Launch) (hls : l.stackTraces = false) (D : va_G) (a : Nat → Nat) (cI cJ cZ : ClassId) (ru : Nat → Int32) (le : Nat → Int32) (li : Nat → Int32) (bn : Nat → Int32) (ip : Nat → Int32) (aw : Nat → Int32) (ns : Int32) (ou : Nat → Int64) (hv1 : ¬ (24 ≤ ns)) : Hm (S := Unit) l y_La_schema b_La_schema 3 (some .int) [(0, 8, 11, 15)] 7 110 [.ref (a 24), .ref (a 25)] D (tyA cI cJ cZ) (wX a ++ wS a cI ru le li bn ip aw ns ++ wO a cJ ou) (fun _ => True) (fun _ => some (.int 0)) (fun _ => (wX a ++ wS a cI ru le li bn ip aw (ns + 1) ++ wO a cJ (vp_updL ou 0 ((ns + 1 - 1 : Int32).toInt64)))) := h_La_schema l hls D a cI cJ cZ ru le li bn ip aw ns ou 0 ru le li bn ip aw (ns + 1) (vp_updL ou 0 ((ns + 1 - 1 : Int32).toInt64)) (by
  unfold V_La_schema
  have h01 : vp_in (0 : Int32) 1 := vp_in_nI (n := 0) (by decide) (by decide)
  refine ⟨fun hok => ?_, fun E hbad => ?_⟩
  · first | exact absurd hok hv1 | exact absurd hv1 hok | exact absurd hok.1 hv1 | exact absurd hok.2 hv2 | exact absurd hv2 hok.2 | exact ⟨h01, by simp⟩
  · rcases hbad with ⟨rfl, hb⟩
    · first | exact absurd hb hv1 | exact absurd hb.1 hv1 | exact absurd hb.2 hv2 | exact absurd hb hv2 | exact ⟨fun _ => by simp, fun h0 => absurd rfl h0⟩)
theorem hd_La_schema : y_La_schema.cls ≠ "java/lang/invoke/MethodHandle" ∧ y_La_schema.cls ≠ "java/lang/invoke/VarHandle" ∧ (parseMethodDescriptor y_La_schema.desc).map (fun d => d.parameters.length) = some 2 := ⟨by decide, by decide, by decide +kernel⟩
theorem kw_La_rule : Cond.codeWith y_La_rule b_La_rule 5 (some .int) [(0, 7, 10, 13)] ∈ W0 := W0_at 418 (by decide +kernel) (by decide +kernel)
theorem s_La_rule : Cond.static y_La_rule ∈ W0 := W0_at 417 (by decide +kernel) (by decide +kernel)
def V_La_rule (ki : Nat → Int32) (co : Nat → Int64) (pr : Nat → Int32) (pa : Nat → Int32) (tw : Nat → Int32) (nv : Int32) (sv : Int32) (pn : Nat → Int32) (pl : Nat → Int32) (po : Nat → Int32) (pf : Nat → Int32) (pt : Nat → Int32) (ru : Nat → Int32) (le : Nat → Int32) (li : Nat → Int32) (bn : Nat → Int32) (ip : Nat → Int32) (aw : Nat → Int32) (ns : Int32) (x : Int32) (y : Int32) (z : Int32) (post : Int32 → (Nat → Int32) → (Nat → Int64) → (Nat → Int32) → (Nat → Int32) → (Nat → Int32) → Int32 → Int32 → (Nat → Int32) → (Nat → Int32) → (Nat → Int32) → (Nat → Int32) → (Nat → Int32) → (Nat → Int32) → (Nat → Int32) → (Nat → Int32) → (Nat → Int32) → (Nat → Int32) → (Nat → Int32) → Int32 → Prop) (px : String → (Nat → Int32) → (Nat → Int64) → (Nat → Int32) → (Nat → Int32) → (Nat → Int32) → Int32 → Int32 → (Nat → Int32) → (Nat → Int32) → (Nat → Int32) → (Nat → Int32) → (Nat → Int32) → (Nat → Int32) → (Nat → Int32) → (Nat → Int32) → (Nat → Int32) → (Nat → Int32) → (Nat → Int32) → Int32 → Prop) : Prop :=
  ((nv ≤ 40 ∧ ns ≤ 24) ∧ (((sHas ns x && (sIn y 0 28)) = true ∧ (z = -1 ∨ sTakes ki co nv ns y z = true) → post 0 ki co pr pa tw nv sv pn pl po pf pt (upd ru (x * 29 + y : Int32).toNatClampNeg z) le li bn ip aw ns) ∧ (∀ E : String, E = IAE ∧ ¬ ((sHas ns x && (sIn y 0 28)) = true ∧ (z = -1 ∨ sTakes ki co nv ns y z = true)) → ((E = IAE → post 1 ki co pr pa tw nv sv pn pl po pf pt ru le li bn ip aw ns) ∧ (¬ E = IAE → False)))))
set_option maxHeartbeats 4000000 in
set_option maxRecDepth 100000 in
theorem g_La_rule {p : Program} {l : Launch} {e : Env} {R : Room} {s : State} {m : MethodId} {args : Array Value} {below : List Frame} {meth : Method} {c : Code} {H : Heap} {locs : List Loc} {Q : State → Prop} {ls : Array Slot} {A : Nat → Prop} (hls : l.stackTraces = false) (S : CallFix p m c b_La_rule 5 s args W0 "SchemaJudgeLaw") (htab : c.exceptionTable.toList = tableOf [(0, 7, 10, 13)]) (hN : eN s) (hRf : 7 ≤ R.frames) (hRl : 113 ≤ R.locals) (hRc : 0 + 1 ≤ R.cells ∧ 0 + 6 ≤ R.slots) (D : va_G) (a : Nat → Nat) (cI cJ cZ : ClassId) (ki : Nat → Int32) (co : Nat → Int64) (pr : Nat → Int32) (pa : Nat → Int32) (tw : Nat → Int32) (nv : Int32) (sv : Int32) (pn : Nat → Int32) (pl : Nat → Int32) (po : Nat → Int32) (pf : Nat → Int32) (pt : Nat → Int32) (ru : Nat → Int32) (le : Nat → Int32) (li : Nat → Int32) (bn : Nat → Int32) (ip : Nat → Int32) (aw : Nat → Int32) (ns : Int32) (x : Int32) (y : Int32) (z : Int32) (hK : va_K D vwCl (tyA cI cJ cZ) s) (hP : va_P D vwCl (wX a ++ wV a cI cJ ki co pr pa tw nv sv ++ wP a cI cZ pn pl po pf pt ++ wS a cI ru le li bn ip aw ns) H) (hD : va_D A (wX a ++ wV a cI cJ ki co pr pa tw nv sv ++ wP a cI cZ pn pl po pf pt ++ wS a cI ru le li bn ip aw ns)) (hA : ∀ q, s.heap.size ≤ q → A q) (hS : va_S A s.heap H locs) (hX : eX A s s.heap) (hl : lv_has ls 5 [(0, .ref (a 24)), (1, .int x), (2, .int y), (3, .int z)]) {post : Int32 → (Nat → Int32) → (Nat → Int64) → (Nat → Int32) → (Nat → Int32) → (Nat → Int32) → Int32 → Int32 → (Nat → Int32) → (Nat → Int32) → (Nat → Int32) → (Nat → Int32) → (Nat → Int32) → (Nat → Int32) → (Nat → Int32) → (Nat → Int32) → (Nat → Int32) → (Nat → Int32) → (Nat → Int32) → Int32 → Prop} {px : String → (Nat → Int32) → (Nat → Int64) → (Nat → Int32) → (Nat → Int32) → (Nat → Int32) → Int32 → Int32 → (Nat → Int32) → (Nat → Int32) → (Nat → Int32) → (Nat → Int32) → (Nat → Int32) → (Nat → Int32) → (Nat → Int32) → (Nat → Int32) → (Nat → Int32) → (Nat → Int32) → (Nat → Int32) → Int32 → Prop} (vc : V_La_rule ki co pr pa tw nv sv pn pl po pf pt ru le li bn ip aw ns x y z post px)
    (hret : ∀ (v : Int32) (ki : Nat → Int32) (co : Nat → Int64) (pr : Nat → Int32) (pa : Nat → Int32) (tw : Nat → Int32) (nv : Int32) (sv : Int32) (pn : Nat → Int32) (pl : Nat → Int32) (po : Nat → Int32) (pf : Nat → Int32) (pt : Nat → Int32) (ru : Nat → Int32) (le : Nat → Int32) (li : Nat → Int32) (bn : Nat → Int32) (ip : Nat → Int32) (aw : Nat → Int32) (ns : Int32) (ls : Array Slot) (pc : Nat) (H : Heap) (locs : List Loc) (k j : Nat), decode b_La_rule pc = .ok (.ireturn, 1) → k ≤ 1 → j ≤ 6 → post v ki co pr pa tw nv sv pn pl po pf pt ru le li bn ip aw ns → va_P D vwCl (wX a ++ wV a cI cJ ki co pr pa tw nv sv ++ wP a cI cZ pn pl po pf pt ++ wS a cI ru le li bn ip aw ns) H → va_D A (wX a ++ wV a cI cJ ki co pr pa tw nv sv ++ wP a cI cZ pn pl po pf pt ++ wS a cI ru le li bn ip aw ns) → va_S A s.heap H locs → W p l e R s m args below meth c H locs k j Q (F0 m pc ls [.int v])) : W p l e R s m args below meth c H locs 0 0 Q (F0 m 0 ls []) := by
  have hx := S.1
  have hb := S.2.1
  have hown := S.2.2.2.1
  have hts := S.2.2.2.2
  unfold V_La_rule at vc
  refine lv_aload_n hx hb d_La_rule_0 rfl (lv_at hl 0 rfl) ?_
  refine lv_iload_n hx hb d_La_rule_1 rfl (lv_at hl 1 rfl) ?_
  refine lv_iload_n hx hb d_La_rule_2 rfl (lv_at hl 2 rfl) ?_
  refine lv_iload_n hx hb d_La_rule_3 rfl (lv_at hl 3 rfl) ?_
  obtain ⟨hpre, vc⟩ := vc
  refine xc_V (As := [.int x, .int y, .int z]) (rest := []) (wr := ([] : va_W)) S (c_Sj_rule l hls D a cI cJ cZ ki co pr pa tw nv sv pn pl po pf pt ru le li bn ip aw ns x y z hpre) k_Sj_rule i_Sj_rule e_Sj_rule o_Sj ml_La_47 hd_Sj_rule (Nat.le_trans (by decide) hRf) (Nat.le_trans (by decide) hRl) hRc (va_recv hK hP (q0 := 0) (ci := 5) rfl rfl) hK hP hD hS hA hX [0, 1, 2, 3, 4, 5, 6, 7, 8, 9, 10, 11, 12, 13, 14, 15, 16, 17, 18, 19] [] rfl rfl rfl (by decide) (by decide) (by decide) hl.1 rfl (Nat.le_of_ble_eq_true rfl) d_La_rule_4 (fun _ E ce q H locs hbad hce hcv hcl hP hD hS => ?_) (fun _ H locs hok hP hD hS => ?_)
  · have vc := vc.2
    have vc := vc E hbad
    have hP : va_P D vwCl (wX a ++ wV a cI cJ ki co pr pa tw nv sv ++ wP a cI cZ pn pl po pf pt ++ wS a cI ru le li bn ip aw ns) H := hP
    have hD : va_D A (wX a ++ wV a cI cJ ki co pr pa tw nv sv ++ wP a cI cZ pn pl po pf pt ++ wS a cI ru le li bn ip aw ns) := hD
    by_cases hE0 : E = IAE
    · subst hE0
      have vc := vc.1 rfl
      refine vx_catch (own := "SchemaJudgeLaw") (name := IAE) hown [] ⟨0, 7, 10, 13⟩ [] htab (fun z hz => by cases hz) (by decide) (by decide) (hts _ cl_La_13) (cast_E hX (by decide +kernel)) hce hcv hcl ?_
      refine lv_astore hx hb d_La_rule_10 hl (by decide) (lv' := [(4, .ref q), (0, .ref (a 24)), (1, .int x), (2, .int y), (3, .int z)]) rfl (fun ls hl => ?_)
      refine lv_iconst (v := 1) hx hb d_La_rule_12 (by decide) ?_
      exact hret _ _ _ _ _ _ _ _ _ _ _ _ _ _ _ _ _ _ _ _ ls _ H locs _ _ d_La_rule_13 (by decide) (by decide) vc hP hD hS
    have vc := vc.2
    exact (vc hE0).elim
  · have vc := vc.1
    have vc := vc hok
    have hP : va_P D vwCl (wX a ++ wV a cI cJ ki co pr pa tw nv sv ++ wP a cI cZ pn pl po pf pt ++ wS a cI (upd ru (x * 29 + y : Int32).toNatClampNeg z) le li bn ip aw ns) H := hP
    have hD : va_D A (wX a ++ wV a cI cJ ki co pr pa tw nv sv ++ wP a cI cZ pn pl po pf pt ++ wS a cI (upd ru (x * 29 + y : Int32).toNatClampNeg z) le li bn ip aw ns) := hD
    refine lv_goto (tgt := 14) hx hb d_La_rule_7 (by decide) ?_
    refine lv_iconst (v := 0) hx hb d_La_rule_14 (by decide) ?_
    exact hret _ _ _ _ _ _ _ _ _ _ _ _ _ _ _ _ _ _ _ _ ls _ H locs _ _ d_La_rule_15 (by decide) (by decide) vc hP hD hS
theorem h_La_rule (l : Launch) (hls : l.stackTraces = false) (D : va_G) (a : Nat → Nat) (cI cJ cZ : ClassId) (ki : Nat → Int32) (co : Nat → Int64) (pr : Nat → Int32) (pa : Nat → Int32) (tw : Nat → Int32) (nv : Int32) (sv : Int32) (pn : Nat → Int32) (pl : Nat → Int32) (po : Nat → Int32) (pf : Nat → Int32) (pt : Nat → Int32) (ru : Nat → Int32) (le : Nat → Int32) (li : Nat → Int32) (bn : Nat → Int32) (ip : Nat → Int32) (aw : Nat → Int32) (ns : Int32) (x : Int32) (y : Int32) (z : Int32) (r : Int32) (ki' : Nat → Int32) (co' : Nat → Int64) (pr' : Nat → Int32) (pa' : Nat → Int32) (tw' : Nat → Int32) (nv' : Int32) (sv' : Int32) (pn' : Nat → Int32) (pl' : Nat → Int32) (po' : Nat → Int32) (pf' : Nat → Int32) (pt' : Nat → Int32) (ru' : Nat → Int32) (le' : Nat → Int32) (li' : Nat → Int32) (bn' : Nat → Int32) (ip' : Nat → Int32) (aw' : Nat → Int32) (ns' : Int32) (vc : V_La_rule ki co pr pa tw nv sv pn pl po pf pt ru le li bn ip aw ns x y z (fun v ki co pr pa tw nv sv pn pl po pf pt ru le li bn ip aw ns => v = r ∧ ki = ki' ∧ co = co' ∧ pr = pr' ∧ pa = pa' ∧ tw = tw' ∧ nv = nv' ∧ sv = sv' ∧ pn = pn' ∧ pl = pl' ∧ po = po' ∧ pf = pf' ∧ pt = pt' ∧ ru = ru' ∧ le = le' ∧ li = li' ∧ bn = bn' ∧ ip = ip' ∧ aw = aw' ∧ ns = ns') (fun _ _ _ _ _ _ _ _ _ _ _ _ _ _ _ _ _ _ _ _ => True)) : Hm (S := Unit) l y_La_rule b_La_rule 5 (some .int) [(0, 7, 10, 13)] 7 113 [.ref (a 24), .int x, .int y, .int z] D (tyA cI cJ cZ) (wX a ++ wV a cI cJ ki co pr pa tw nv sv ++ wP a cI cZ pn pl po pf pt ++ wS a cI ru le li bn ip aw ns) (fun _ => True) (fun _ => some (.int r)) (fun _ => (wX a ++ wV a cI cJ ki' co' pr' pa' tw' nv' sv' ++ wP a cI cZ pn' pl' po' pf' pt' ++ wS a cI ru' le' li' bn' ip' aw' ns')) :=
  hm_of (r := fun _ => r) (by decide) rfl (Nat.le_of_ble_eq_true rfl) (fun p e s m below meth c ls Q A S htab hN hK hP hD hA hS hX hl hret => g_La_rule hls S htab hN (Nat.le_refl _) (Nat.le_refl _) ⟨Nat.le_refl _, Nat.le_refl _⟩ D a cI cJ cZ ki co pr pa tw nv sv pn pl po pf pt ru le li bn ip aw ns x y z hK hP hD hA hS hX hl vc
    (fun v ki co pr pa tw nv sv pn pl po pf pt ru le li bn ip aw ns ls pc H locs k j hd hk hj hv hP hD hS => by obtain ⟨rfl, rfl, rfl, rfl, rfl, rfl, rfl, rfl, rfl, rfl, rfl, rfl, rfl, rfl, rfl, rfl, rfl, rfl, rfl, rfl⟩ := hv; exact hret () ls pc H locs k j _ rfl hd hk hj trivial hP hD hS))
theorem c_La_rule_1 (l : Launch) (hls : l.stackTraces = false) (D : va_G) (a : Nat → Nat) (cI cJ cZ : ClassId) (ki : Nat → Int32) (co : Nat → Int64) (pr : Nat → Int32) (pa : Nat → Int32) (tw : Nat → Int32) (nv : Int32) (sv : Int32) (pn : Nat → Int32) (pl : Nat → Int32) (po : Nat → Int32) (pf : Nat → Int32) (pt : Nat → Int32) (ru : Nat → Int32) (le : Nat → Int32) (li : Nat → Int32) (bn : Nat → Int32) (ip : Nat → Int32) (aw : Nat → Int32) (ns : Int32) (x : Int32) (y : Int32) (z : Int32) (hpre : (nv ≤ 40 ∧ ns ≤ 24)) (hv1 : ¬ ((sHas ns x && (sIn y 0 28)) = true ∧ (z = -1 ∨ sTakes ki co nv ns y z = true))) : Hm (S := Unit) l y_La_rule b_La_rule 5 (some .int) [(0, 7, 10, 13)] 7 113 [.ref (a 24), .int x, .int y, .int z] D (tyA cI cJ cZ) (wX a ++ wV a cI cJ ki co pr pa tw nv sv ++ wP a cI cZ pn pl po pf pt ++ wS a cI ru le li bn ip aw ns) (fun _ => True) (fun _ => some (.int 1)) (fun _ => (wX a ++ wV a cI cJ ki co pr pa tw nv sv ++ wP a cI cZ pn pl po pf pt ++ wS a cI ru le li bn ip aw ns)) := h_La_rule l hls D a cI cJ cZ ki co pr pa tw nv sv pn pl po pf pt ru le li bn ip aw ns x y z 1 ki co pr pa tw nv sv pn pl po pf pt ru le li bn ip aw ns (by
  unfold V_La_rule
  have h01 : vp_in (0 : Int32) 1 := vp_in_nI (n := 0) (by decide) (by decide)
  refine ⟨hpre, ⟨fun hok => ?_, fun E hbad => ?_⟩⟩
  · first | exact absurd hok hv1 | exact absurd hv1 hok | exact absurd hok.1 hv1 | exact absurd hok.2 hv2 | exact absurd hv2 hok.2 | simp
  · rcases hbad with ⟨rfl, hb⟩
    · first | exact absurd hb hv1 | exact absurd hb.1 hv1 | exact absurd hb.2 hv2 | exact absurd hb hv2 | exact ⟨fun _ => by simp, fun h0 => absurd rfl h0⟩)
theorem c_La_rule_2 (l : Launch) (hls : l.stackTraces = false) (D : va_G) (a : Nat → Nat) (cI cJ cZ : ClassId) (ki : Nat → Int32) (co : Nat → Int64) (pr : Nat → Int32) (pa : Nat → Int32) (tw : Nat → Int32) (nv : Int32) (sv : Int32) (pn : Nat → Int32) (pl : Nat → Int32) (po : Nat → Int32) (pf : Nat → Int32) (pt : Nat → Int32) (ru : Nat → Int32) (le : Nat → Int32) (li : Nat → Int32) (bn : Nat → Int32) (ip : Nat → Int32) (aw : Nat → Int32) (ns : Int32) (x : Int32) (y : Int32) (z : Int32) (hpre : (nv ≤ 40 ∧ ns ≤ 24)) (hv1 : ¬ (¬ ((sHas ns x && (sIn y 0 28)) = true ∧ (z = -1 ∨ sTakes ki co nv ns y z = true)))) : Hm (S := Unit) l y_La_rule b_La_rule 5 (some .int) [(0, 7, 10, 13)] 7 113 [.ref (a 24), .int x, .int y, .int z] D (tyA cI cJ cZ) (wX a ++ wV a cI cJ ki co pr pa tw nv sv ++ wP a cI cZ pn pl po pf pt ++ wS a cI ru le li bn ip aw ns) (fun _ => True) (fun _ => some (.int 0)) (fun _ => (wX a ++ wV a cI cJ ki co pr pa tw nv sv ++ wP a cI cZ pn pl po pf pt ++ wS a cI (upd ru (x * 29 + y : Int32).toNatClampNeg z) le li bn ip aw ns)) := h_La_rule l hls D a cI cJ cZ ki co pr pa tw nv sv pn pl po pf pt ru le li bn ip aw ns x y z 0 ki co pr pa tw nv sv pn pl po pf pt (upd ru (x * 29 + y : Int32).toNatClampNeg z) le li bn ip aw ns (by
  unfold V_La_rule
  have h01 : vp_in (0 : Int32) 1 := vp_in_nI (n := 0) (by decide) (by decide)
  refine ⟨hpre, ⟨fun hok => ?_, fun E hbad => ?_⟩⟩
  · first | exact absurd hok hv1 | exact absurd hv1 hok | exact absurd hok.1 hv1 | exact absurd hok.2 hv2 | exact absurd hv2 hok.2 | simp
  · rcases hbad with ⟨rfl, hb⟩
    · first | exact absurd hb hv1 | exact absurd hb.1 hv1 | exact absurd hb.2 hv2 | exact absurd hb hv2 | exact ⟨fun _ => by simp, fun h0 => absurd rfl h0⟩)
theorem hd_La_rule : y_La_rule.cls ≠ "java/lang/invoke/MethodHandle" ∧ y_La_rule.cls ≠ "java/lang/invoke/VarHandle" ∧ (parseMethodDescriptor y_La_rule.desc).map (fun d => d.parameters.length) = some 4 := ⟨by decide, by decide, by decide +kernel⟩
theorem kw_La_list : Cond.codeWith y_La_list b_La_list 6 (some .int) [(0, 12, 15, 13), (0, 12, 19, 15)] ∈ W0 := W0_at 444 (by decide +kernel) (by decide +kernel)
theorem s_La_list : Cond.static y_La_list ∈ W0 := W0_at 443 (by decide +kernel) (by decide +kernel)
def V_La_list (ru : Nat → Int32) (le : Nat → Int32) (li : Nat → Int32) (bn : Nat → Int32) (ip : Nat → Int32) (aw : Nat → Int32) (ns : Int32) (ou : Nat → Int64) (x : Int32) (y : Int32) (z : Int32) (post : Int32 → (Nat → Int32) → (Nat → Int32) → (Nat → Int32) → (Nat → Int32) → (Nat → Int32) → (Nat → Int32) → Int32 → (Nat → Int64) → Prop) (px : String → (Nat → Int32) → (Nat → Int32) → (Nat → Int32) → (Nat → Int32) → (Nat → Int32) → (Nat → Int32) → Int32 → (Nat → Int64) → Prop) : Prop :=
  ((ns ≤ 24 ∧ ∀ j : Nat, j < 96 → ∃ b : Nat, b ≤ 3 ∧ le j = nI b) ∧ (((sHas ns x && (sIn y 29 32 && sHas ns z)) = true ∧ ¬ 3 ≤ le (x * 4 + y - 29 : Int32).toNatClampNeg → (vp_in 0 1 ∧ post 0 ru (upd le (x * 4 + y - 29 : Int32).toNatClampNeg (le (x * 4 + y - 29 : Int32).toNatClampNeg + 1)) (upd li ((x * 4 + y - 29) * 3 + le (x * 4 + y - 29 : Int32).toNatClampNeg : Int32).toNatClampNeg z) bn ip aw ns (vp_updL ou (0 : Int32).toNatClampNeg ((le (x * 4 + y - 29 : Int32).toNatClampNeg + 1 : Int32).toInt64)))) ∧ (∀ E : String, E = IAE ∧ ¬ (sHas ns x && (sIn y 29 32 && sHas ns z)) = true ∨ E = ISE ∧ (sHas ns x && (sIn y 29 32 && sHas ns z)) = true ∧ 3 ≤ le (x * 4 + y - 29 : Int32).toNatClampNeg → ((E = IAE → post 1 ru le li bn ip aw ns ou) ∧ (E = ISE → post 2 ru le li bn ip aw ns ou) ∧ (¬ E = IAE → ¬ E = ISE → False)))))
set_option maxHeartbeats 4000000 in
set_option maxRecDepth 100000 in
theorem g_La_list {p : Program} {l : Launch} {e : Env} {R : Room} {s : State} {m : MethodId} {args : Array Value} {below : List Frame} {meth : Method} {c : Code} {H : Heap} {locs : List Loc} {Q : State → Prop} {ls : Array Slot} {A : Nat → Prop} (hls : l.stackTraces = false) (S : CallFix p m c b_La_list 6 s args W0 "SchemaJudgeLaw") (htab : c.exceptionTable.toList = tableOf [(0, 12, 15, 13), (0, 12, 19, 15)]) (hN : eN s) (hRf : 7 ≤ R.frames) (hRl : 113 ≤ R.locals) (hRc : 0 + 1 ≤ R.cells ∧ 0 + 6 ≤ R.slots) (D : va_G) (a : Nat → Nat) (cI cJ cZ : ClassId) (ru : Nat → Int32) (le : Nat → Int32) (li : Nat → Int32) (bn : Nat → Int32) (ip : Nat → Int32) (aw : Nat → Int32) (ns : Int32) (ou : Nat → Int64) (x : Int32) (y : Int32) (z : Int32) (hK : va_K D vwCl (tyA cI cJ cZ) s) (hP : va_P D vwCl (wX a ++ wS a cI ru le li bn ip aw ns ++ wO a cJ ou) H) (hD : va_D A (wX a ++ wS a cI ru le li bn ip aw ns ++ wO a cJ ou)) (hA : ∀ q, s.heap.size ≤ q → A q) (hS : va_S A s.heap H locs) (hX : eX A s s.heap) (hl : lv_has ls 6 [(0, .ref (a 24)), (1, .int x), (2, .int y), (3, .int z), (4, .ref (a 25))]) {post : Int32 → (Nat → Int32) → (Nat → Int32) → (Nat → Int32) → (Nat → Int32) → (Nat → Int32) → (Nat → Int32) → Int32 → (Nat → Int64) → Prop} {px : String → (Nat → Int32) → (Nat → Int32) → (Nat → Int32) → (Nat → Int32) → (Nat → Int32) → (Nat → Int32) → Int32 → (Nat → Int64) → Prop} (vc : V_La_list ru le li bn ip aw ns ou x y z post px)
    (hret : ∀ (v : Int32) (ru : Nat → Int32) (le : Nat → Int32) (li : Nat → Int32) (bn : Nat → Int32) (ip : Nat → Int32) (aw : Nat → Int32) (ns : Int32) (ou : Nat → Int64) (ls : Array Slot) (pc : Nat) (H : Heap) (locs : List Loc) (k j : Nat), decode b_La_list pc = .ok (.ireturn, 1) → k ≤ 1 → j ≤ 6 → post v ru le li bn ip aw ns ou → va_P D vwCl (wX a ++ wS a cI ru le li bn ip aw ns ++ wO a cJ ou) H → va_D A (wX a ++ wS a cI ru le li bn ip aw ns ++ wO a cJ ou) → va_S A s.heap H locs → W p l e R s m args below meth c H locs k j Q (F0 m pc ls [.int v])) : W p l e R s m args below meth c H locs 0 0 Q (F0 m 0 ls []) := by
  have hx := S.1
  have hb := S.2.1
  have hown := S.2.2.2.1
  have hts := S.2.2.2.2
  unfold V_La_list at vc
  refine lv_aload hx hb d_La_list_0 (lv_at hl 4 rfl) ?_
  refine lv_iconst (v := 0) hx hb d_La_list_2 (by decide) ?_
  refine lv_aload_n hx hb d_La_list_3 rfl (lv_at hl 0 rfl) ?_
  refine lv_iload_n hx hb d_La_list_4 rfl (lv_at hl 1 rfl) ?_
  refine lv_iload_n hx hb d_La_list_5 rfl (lv_at hl 2 rfl) ?_
  refine lv_iload_n hx hb d_La_list_6 rfl (lv_at hl 3 rfl) ?_
  obtain ⟨hpre, vc⟩ := vc
  refine xc_V (As := [.int x, .int y, .int z]) (rest := [.int 0, .ref (a 25)]) (wr := (wO a cJ ou)) S (c_Sj_list l hls D a cI cJ cZ ru le li bn ip aw ns x y z hpre) k_Sj_list i_Sj_list e_Sj_list o_Sj ml_La_50 hd_Sj_list (Nat.le_trans (by decide) hRf) (Nat.le_trans (by decide) hRl) hRc (va_recv hK hP (q0 := 0) (ci := 5) rfl rfl) hK hP hD hS hA hX [0, 1, 2, 3, 4, 5, 6, 7] [8] rfl rfl rfl (by decide) (by decide) (by decide) hl.1 rfl (Nat.le_of_ble_eq_true rfl) d_La_list_7 (fun _ E ce q H locs hbad hce hcv hcl hP hD hS => ?_) (fun _ H locs hok hP hD hS => ?_)
  · have vc := vc.2
    have vc := vc E hbad
    have hP : va_P D vwCl (wX a ++ wS a cI ru le li bn ip aw ns ++ wO a cJ ou) H := hP.sub [1, 2, 3, 4, 5, 6, 7, 8, 0] rfl
    have hD : va_D A (wX a ++ wS a cI ru le li bn ip aw ns ++ wO a cJ ou) := hD.sub [1, 2, 3, 4, 5, 6, 7, 8, 0] (by decide) rfl
    by_cases hE0 : E = IAE
    · subst hE0
      have vc := vc.1 rfl
      refine vx_catch (own := "SchemaJudgeLaw") (name := IAE) hown [] ⟨0, 12, 15, 13⟩ [⟨0, 12, 19, 15⟩] htab (fun z hz => by cases hz) (by decide) (by decide) (hts _ cl_La_13) (cast_E hX (by decide +kernel)) hce hcv hcl ?_
      refine lv_astore hx hb d_La_list_15 hl (by decide) (lv' := [(5, .ref q), (0, .ref (a 24)), (1, .int x), (2, .int y), (3, .int z), (4, .ref (a 25))]) rfl (fun ls hl => ?_)
      refine lv_iconst (v := 1) hx hb d_La_list_17 (by decide) ?_
      exact hret _ _ _ _ _ _ _ _ _ ls _ H locs _ _ d_La_list_18 (by decide) (by decide) vc hP hD hS
    have vc := vc.2
    by_cases hE1 : E = ISE
    · subst hE1
      have vc := vc.1 rfl
      refine vx_catch (own := "SchemaJudgeLaw") (name := ISE) hown [⟨0, 12, 15, 13⟩] ⟨0, 12, 19, 15⟩ [] htab (fun z hz => by
          rcases List.mem_cons.mp hz with rfl | hz
          · exact Or.inr ⟨by decide, IAE, hts _ cl_La_13, hN.1⟩
          · cases hz) (by decide) (by decide) (hts _ cl_La_15) (cast_E hX (by decide +kernel)) hce hcv hcl ?_
      refine lv_astore hx hb d_La_list_19 hl (by decide) (lv' := [(5, .ref q), (0, .ref (a 24)), (1, .int x), (2, .int y), (3, .int z), (4, .ref (a 25))]) rfl (fun ls hl => ?_)
      refine lv_iconst (v := 2) hx hb d_La_list_21 (by decide) ?_
      exact hret _ _ _ _ _ _ _ _ _ ls _ H locs _ _ d_La_list_22 (by decide) (by decide) vc hP hD hS
    have vc := vc.2
    exact (vc hE0 hE1).elim
  · have vc := vc.1
    have vc := vc hok
    have hP : va_P D vwCl (wX a ++ wS a cI ru (upd le (x * 4 + y - 29 : Int32).toNatClampNeg (le (x * 4 + y - 29 : Int32).toNatClampNeg + 1)) (upd li ((x * 4 + y - 29) * 3 + le (x * 4 + y - 29 : Int32).toNatClampNeg : Int32).toNatClampNeg z) bn ip aw ns ++ wO a cJ ou) H := hP.sub [1, 2, 3, 4, 5, 6, 7, 8, 0] rfl
    have hD : va_D A (wX a ++ wS a cI ru (upd le (x * 4 + y - 29 : Int32).toNatClampNeg (le (x * 4 + y - 29 : Int32).toNatClampNeg + 1)) (upd li ((x * 4 + y - 29) * 3 + le (x * 4 + y - 29 : Int32).toNatClampNeg : Int32).toNatClampNeg z) bn ip aw ns ++ wO a cJ ou) := hD.sub [1, 2, 3, 4, 5, 6, 7, 8, 0] (by decide) rfl
    refine lv_i2l hx hb d_La_list_10 rfl ?_
    obtain ⟨vcb, vc⟩ := vc
    refine va_last hx hb hK hP hD hS 8 1 rfl rfl vcb d_La_list_11 (fun H locs hP hD hS => ?_)
    have hP : va_P D vwCl (wX a ++ wS a cI ru (upd le (x * 4 + y - 29 : Int32).toNatClampNeg (le (x * 4 + y - 29 : Int32).toNatClampNeg + 1)) (upd li ((x * 4 + y - 29) * 3 + le (x * 4 + y - 29 : Int32).toNatClampNeg : Int32).toNatClampNeg z) bn ip aw ns ++ wO a cJ (vp_updL ou (0 : Int32).toNatClampNeg ((le (x * 4 + y - 29 : Int32).toNatClampNeg + 1 : Int32).toInt64))) H := hP
    have hD : va_D A (wX a ++ wS a cI ru (upd le (x * 4 + y - 29 : Int32).toNatClampNeg (le (x * 4 + y - 29 : Int32).toNatClampNeg + 1)) (upd li ((x * 4 + y - 29) * 3 + le (x * 4 + y - 29 : Int32).toNatClampNeg : Int32).toNatClampNeg z) bn ip aw ns ++ wO a cJ (vp_updL ou (0 : Int32).toNatClampNeg ((le (x * 4 + y - 29 : Int32).toNatClampNeg + 1 : Int32).toInt64))) := hD
    refine lv_goto (tgt := 23) hx hb d_La_list_12 (by decide) ?_
    refine lv_iconst (v := 0) hx hb d_La_list_23 (by decide) ?_
    exact hret _ _ _ _ _ _ _ _ _ ls _ H locs _ _ d_La_list_24 (by decide) (by decide) vc hP hD hS
theorem h_La_list (l : Launch) (hls : l.stackTraces = false) (D : va_G) (a : Nat → Nat) (cI cJ cZ : ClassId) (ru : Nat → Int32) (le : Nat → Int32) (li : Nat → Int32) (bn : Nat → Int32) (ip : Nat → Int32) (aw : Nat → Int32) (ns : Int32) (ou : Nat → Int64) (x : Int32) (y : Int32) (z : Int32) (r : Int32) (ru' : Nat → Int32) (le' : Nat → Int32) (li' : Nat → Int32) (bn' : Nat → Int32) (ip' : Nat → Int32) (aw' : Nat → Int32) (ns' : Int32) (ou' : Nat → Int64) (vc : V_La_list ru le li bn ip aw ns ou x y z (fun v ru le li bn ip aw ns ou => v = r ∧ ru = ru' ∧ le = le' ∧ li = li' ∧ bn = bn' ∧ ip = ip' ∧ aw = aw' ∧ ns = ns' ∧ ou = ou') (fun _ _ _ _ _ _ _ _ _ => True)) : Hm (S := Unit) l y_La_list b_La_list 6 (some .int) [(0, 12, 15, 13), (0, 12, 19, 15)] 7 113 [.ref (a 24), .int x, .int y, .int z, .ref (a 25)] D (tyA cI cJ cZ) (wX a ++ wS a cI ru le li bn ip aw ns ++ wO a cJ ou) (fun _ => True) (fun _ => some (.int r)) (fun _ => (wX a ++ wS a cI ru' le' li' bn' ip' aw' ns' ++ wO a cJ ou')) :=
  hm_of (r := fun _ => r) (by decide) rfl (Nat.le_of_ble_eq_true rfl) (fun p e s m below meth c ls Q A S htab hN hK hP hD hA hS hX hl hret => g_La_list hls S htab hN (Nat.le_refl _) (Nat.le_refl _) ⟨Nat.le_refl _, Nat.le_refl _⟩ D a cI cJ cZ ru le li bn ip aw ns ou x y z hK hP hD hA hS hX hl vc
    (fun v ru le li bn ip aw ns ou ls pc H locs k j hd hk hj hv hP hD hS => by obtain ⟨rfl, rfl, rfl, rfl, rfl, rfl, rfl, rfl, rfl⟩ := hv; exact hret () ls pc H locs k j _ rfl hd hk hj trivial hP hD hS))
theorem c_La_list_1 (l : Launch) (hls : l.stackTraces = false) (D : va_G) (a : Nat → Nat) (cI cJ cZ : ClassId) (ru : Nat → Int32) (le : Nat → Int32) (li : Nat → Int32) (bn : Nat → Int32) (ip : Nat → Int32) (aw : Nat → Int32) (ns : Int32) (ou : Nat → Int64) (x : Int32) (y : Int32) (z : Int32) (hpre : (ns ≤ 24 ∧ ∀ j : Nat, j < 96 → ∃ b : Nat, b ≤ 3 ∧ le j = nI b)) (hv1 : ¬ (sHas ns x && (sIn y 29 32 && sHas ns z)) = true) : Hm (S := Unit) l y_La_list b_La_list 6 (some .int) [(0, 12, 15, 13), (0, 12, 19, 15)] 7 113 [.ref (a 24), .int x, .int y, .int z, .ref (a 25)] D (tyA cI cJ cZ) (wX a ++ wS a cI ru le li bn ip aw ns ++ wO a cJ ou) (fun _ => True) (fun _ => some (.int 1)) (fun _ => (wX a ++ wS a cI ru le li bn ip aw ns ++ wO a cJ ou)) := h_La_list l hls D a cI cJ cZ ru le li bn ip aw ns ou x y z 1 ru le li bn ip aw ns ou (by
  unfold V_La_list
  have h01 : vp_in (0 : Int32) 1 := vp_in_nI (n := 0) (by decide) (by decide)
  refine ⟨hpre, ⟨fun hok => ?_, fun E hbad => ?_⟩⟩
  · first | exact absurd hok hv1 | exact absurd hv1 hok | exact absurd hok.1 hv1 | exact absurd hok.2 hv2 | exact absurd hv2 hok.2 | exact ⟨h01, by simp⟩
  · rcases hbad with ⟨rfl, hb⟩ | ⟨rfl, hb⟩
    · first | exact absurd hb hv1 | exact absurd hb.1 hv1 | exact absurd hb.2 hv2 | exact absurd hb hv2 | exact ⟨fun _ => by simp, fun h => absurd h (by decide), fun h0 h1 => absurd rfl h0⟩
    · first | exact absurd hb hv1 | exact absurd hb.1 hv1 | exact absurd hb.2 hv2 | exact absurd hb hv2 | exact ⟨fun h => absurd h (by decide), fun _ => by simp, fun h0 h1 => absurd rfl h1⟩)
theorem c_La_list_2 (l : Launch) (hls : l.stackTraces = false) (D : va_G) (a : Nat → Nat) (cI cJ cZ : ClassId) (ru : Nat → Int32) (le : Nat → Int32) (li : Nat → Int32) (bn : Nat → Int32) (ip : Nat → Int32) (aw : Nat → Int32) (ns : Int32) (ou : Nat → Int64) (x : Int32) (y : Int32) (z : Int32) (hpre : (ns ≤ 24 ∧ ∀ j : Nat, j < 96 → ∃ b : Nat, b ≤ 3 ∧ le j = nI b)) (hv1 : ¬ (¬ (sHas ns x && (sIn y 29 32 && sHas ns z)) = true)) (hv2 : 3 ≤ le (x * 4 + y - 29 : Int32).toNatClampNeg) : Hm (S := Unit) l y_La_list b_La_list 6 (some .int) [(0, 12, 15, 13), (0, 12, 19, 15)] 7 113 [.ref (a 24), .int x, .int y, .int z, .ref (a 25)] D (tyA cI cJ cZ) (wX a ++ wS a cI ru le li bn ip aw ns ++ wO a cJ ou) (fun _ => True) (fun _ => some (.int 2)) (fun _ => (wX a ++ wS a cI ru le li bn ip aw ns ++ wO a cJ ou)) := h_La_list l hls D a cI cJ cZ ru le li bn ip aw ns ou x y z 2 ru le li bn ip aw ns ou (by
  unfold V_La_list
  have h01 : vp_in (0 : Int32) 1 := vp_in_nI (n := 0) (by decide) (by decide)
  refine ⟨hpre, ⟨fun hok => ?_, fun E hbad => ?_⟩⟩
  · first | exact absurd hok hv1 | exact absurd hv1 hok | exact absurd hok.1 hv1 | exact absurd hok.2 hv2 | exact absurd hv2 hok.2 | exact ⟨h01, by simp⟩
  · rcases hbad with ⟨rfl, hb⟩ | ⟨rfl, hb⟩
    · first | exact absurd hb hv1 | exact absurd hb.1 hv1 | exact absurd hb.2 hv2 | exact absurd hb hv2 | exact ⟨fun _ => by simp, fun h => absurd h (by decide), fun h0 h1 => absurd rfl h0⟩
    · first | exact absurd hb hv1 | exact absurd hb.1 hv1 | exact absurd hb.2 hv2 | exact absurd hb hv2 | exact ⟨fun h => absurd h (by decide), fun _ => by simp, fun h0 h1 => absurd rfl h1⟩)
theorem c_La_list_3 (l : Launch) (hls : l.stackTraces = false) (D : va_G) (a : Nat → Nat) (cI cJ cZ : ClassId) (ru : Nat → Int32) (le : Nat → Int32) (li : Nat → Int32) (bn : Nat → Int32) (ip : Nat → Int32) (aw : Nat → Int32) (ns : Int32) (ou : Nat → Int64) (x : Int32) (y : Int32) (z : Int32) (hpre : (ns ≤ 24 ∧ ∀ j : Nat, j < 96 → ∃ b : Nat, b ≤ 3 ∧ le j = nI b)) (hv1 : ¬ (¬ (sHas ns x && (sIn y 29 32 && sHas ns z)) = true)) (hv2 : ¬ (3 ≤ le (x * 4 + y - 29 : Int32).toNatClampNeg)) : Hm (S := Unit) l y_La_list b_La_list 6 (some .int) [(0, 12, 15, 13), (0, 12, 19, 15)] 7 113 [.ref (a 24), .int x, .int y, .int z, .ref (a 25)] D (tyA cI cJ cZ) (wX a ++ wS a cI ru le li bn ip aw ns ++ wO a cJ ou) (fun _ => True) (fun _ => some (.int 0)) (fun _ => (wX a ++ wS a cI ru (upd le (x * 4 + y - 29 : Int32).toNatClampNeg (le (x * 4 + y - 29 : Int32).toNatClampNeg + 1)) (upd li ((x * 4 + y - 29) * 3 + le (x * 4 + y - 29 : Int32).toNatClampNeg : Int32).toNatClampNeg z) bn ip aw ns ++ wO a cJ (vp_updL ou 0 ((le (x * 4 + y - 29 : Int32).toNatClampNeg + 1 : Int32).toInt64)))) := h_La_list l hls D a cI cJ cZ ru le li bn ip aw ns ou x y z 0 ru (upd le (x * 4 + y - 29 : Int32).toNatClampNeg (le (x * 4 + y - 29 : Int32).toNatClampNeg + 1)) (upd li ((x * 4 + y - 29) * 3 + le (x * 4 + y - 29 : Int32).toNatClampNeg : Int32).toNatClampNeg z) bn ip aw ns (vp_updL ou 0 ((le (x * 4 + y - 29 : Int32).toNatClampNeg + 1 : Int32).toInt64)) (by
  unfold V_La_list
  have h01 : vp_in (0 : Int32) 1 := vp_in_nI (n := 0) (by decide) (by decide)
  refine ⟨hpre, ⟨fun hok => ?_, fun E hbad => ?_⟩⟩
  · first | exact absurd hok hv1 | exact absurd hv1 hok | exact absurd hok.1 hv1 | exact absurd hok.2 hv2 | exact absurd hv2 hok.2 | exact ⟨h01, by simp⟩
  · rcases hbad with ⟨rfl, hb⟩ | ⟨rfl, hb⟩
    · first | exact absurd hb hv1 | exact absurd hb.1 hv1 | exact absurd hb.2 hv2 | exact absurd hb hv2 | exact ⟨fun _ => by simp, fun h => absurd h (by decide), fun h0 h1 => absurd rfl h0⟩
    · first | exact absurd hb hv1 | exact absurd hb.1 hv1 | exact absurd hb.2 hv2 | exact absurd hb hv2 | exact ⟨fun h => absurd h (by decide), fun _ => by simp, fun h0 h1 => absurd rfl h1⟩)
theorem hd_La_list : y_La_list.cls ≠ "java/lang/invoke/MethodHandle" ∧ y_La_list.cls ≠ "java/lang/invoke/VarHandle" ∧ (parseMethodDescriptor y_La_list.desc).map (fun d => d.parameters.length) = some 5 := ⟨by decide, by decide, by decide +kernel⟩
theorem kw_La_named : Cond.codeWith y_La_named b_La_named 6 (some .int) [(0, 9, 12, 13)] ∈ W0 := W0_at 463 (by decide +kernel) (by decide +kernel)
theorem s_La_named : Cond.static y_La_named ∈ W0 := W0_at 462 (by decide +kernel) (by decide +kernel)
def V_La_named (ru : Nat → Int32) (le : Nat → Int32) (li : Nat → Int32) (bn : Nat → Int32) (ip : Nat → Int32) (aw : Nat → Int32) (ns : Int32) (x : Int32) (y : Int32) (z : Int32) (u : Int32) (post : Int32 → (Nat → Int32) → (Nat → Int32) → (Nat → Int32) → (Nat → Int32) → (Nat → Int32) → (Nat → Int32) → Int32 → Prop) (px : String → (Nat → Int32) → (Nat → Int32) → (Nat → Int32) → (Nat → Int32) → (Nat → Int32) → (Nat → Int32) → Int32 → Prop) : Prop :=
  (ns ≤ 24 ∧ ((((sHas ns x && (sIn y 33 35 && sIn z 0 11)) = true ∧ (u = -1 ∨ (if y = 35 then sIn u 0 4095 else sHas ns u) = true)) → post 0 ru le li (upd bn ((x * 3 + y - 33) * 12 + z : Int32).toNatClampNeg u) ip aw ns) ∧ (∀ E : String, E = IAE ∧ ¬ ((sHas ns x && (sIn y 33 35 && sIn z 0 11)) = true ∧ (u = -1 ∨ (if y = 35 then sIn u 0 4095 else sHas ns u) = true)) → ((E = IAE → post 1 ru le li bn ip aw ns) ∧ (¬ E = IAE → False)))))
set_option maxHeartbeats 4000000 in
set_option maxRecDepth 100000 in
theorem g_La_named {p : Program} {l : Launch} {e : Env} {R : Room} {s : State} {m : MethodId} {args : Array Value} {below : List Frame} {meth : Method} {c : Code} {H : Heap} {locs : List Loc} {Q : State → Prop} {ls : Array Slot} {A : Nat → Prop} (hls : l.stackTraces = false) (S : CallFix p m c b_La_named 6 s args W0 "SchemaJudgeLaw") (htab : c.exceptionTable.toList = tableOf [(0, 9, 12, 13)]) (hN : eN s) (hRf : 7 ≤ R.frames) (hRl : 115 ≤ R.locals) (hRc : 0 + 1 ≤ R.cells ∧ 0 + 6 ≤ R.slots) (D : va_G) (a : Nat → Nat) (cI cJ cZ : ClassId) (ru : Nat → Int32) (le : Nat → Int32) (li : Nat → Int32) (bn : Nat → Int32) (ip : Nat → Int32) (aw : Nat → Int32) (ns : Int32) (x : Int32) (y : Int32) (z : Int32) (u : Int32) (hK : va_K D vwCl (tyA cI cJ cZ) s) (hP : va_P D vwCl (wX a ++ wS a cI ru le li bn ip aw ns) H) (hD : va_D A (wX a ++ wS a cI ru le li bn ip aw ns)) (hA : ∀ q, s.heap.size ≤ q → A q) (hS : va_S A s.heap H locs) (hX : eX A s s.heap) (hl : lv_has ls 6 [(0, .ref (a 24)), (1, .int x), (2, .int y), (3, .int z), (4, .int u)]) {post : Int32 → (Nat → Int32) → (Nat → Int32) → (Nat → Int32) → (Nat → Int32) → (Nat → Int32) → (Nat → Int32) → Int32 → Prop} {px : String → (Nat → Int32) → (Nat → Int32) → (Nat → Int32) → (Nat → Int32) → (Nat → Int32) → (Nat → Int32) → Int32 → Prop} (vc : V_La_named ru le li bn ip aw ns x y z u post px)
    (hret : ∀ (v : Int32) (ru : Nat → Int32) (le : Nat → Int32) (li : Nat → Int32) (bn : Nat → Int32) (ip : Nat → Int32) (aw : Nat → Int32) (ns : Int32) (ls : Array Slot) (pc : Nat) (H : Heap) (locs : List Loc) (k j : Nat), decode b_La_named pc = .ok (.ireturn, 1) → k ≤ 1 → j ≤ 6 → post v ru le li bn ip aw ns → va_P D vwCl (wX a ++ wS a cI ru le li bn ip aw ns) H → va_D A (wX a ++ wS a cI ru le li bn ip aw ns) → va_S A s.heap H locs → W p l e R s m args below meth c H locs k j Q (F0 m pc ls [.int v])) : W p l e R s m args below meth c H locs 0 0 Q (F0 m 0 ls []) := by
  have hx := S.1
  have hb := S.2.1
  have hown := S.2.2.2.1
  have hts := S.2.2.2.2
  unfold V_La_named at vc
  refine lv_aload_n hx hb d_La_named_0 rfl (lv_at hl 0 rfl) ?_
  refine lv_iload_n hx hb d_La_named_1 rfl (lv_at hl 1 rfl) ?_
  refine lv_iload_n hx hb d_La_named_2 rfl (lv_at hl 2 rfl) ?_
  refine lv_iload_n hx hb d_La_named_3 rfl (lv_at hl 3 rfl) ?_
  refine lv_iload hx hb d_La_named_4 (lv_at hl 4 rfl) ?_
  obtain ⟨hpre, vc⟩ := vc
  refine xc_V (As := [.int x, .int y, .int z, .int u]) (rest := []) (wr := ([] : va_W)) S (c_Sj_named l hls D a cI cJ cZ ru le li bn ip aw ns x y z u hpre) k_Sj_named i_Sj_named e_Sj_named o_Sj ml_La_53 hd_Sj_named (Nat.le_trans (by decide) hRf) (Nat.le_trans (by decide) hRl) hRc (va_recv hK hP (q0 := 0) (ci := 5) rfl rfl) hK hP hD hS hA hX [0, 1, 2, 3, 4, 5, 6, 7] [] rfl rfl rfl (by decide) (by decide) (by decide) hl.1 rfl (Nat.le_of_ble_eq_true rfl) d_La_named_6 (fun _ E ce q H locs hbad hce hcv hcl hP hD hS => ?_) (fun _ H locs hok hP hD hS => ?_)
  · have vc := vc.2
    have vc := vc E hbad
    have hP : va_P D vwCl (wX a ++ wS a cI ru le li bn ip aw ns) H := hP
    have hD : va_D A (wX a ++ wS a cI ru le li bn ip aw ns) := hD
    by_cases hE0 : E = IAE
    · subst hE0
      have vc := vc.1 rfl
      refine vx_catch (own := "SchemaJudgeLaw") (name := IAE) hown [] ⟨0, 9, 12, 13⟩ [] htab (fun z hz => by cases hz) (by decide) (by decide) (hts _ cl_La_13) (cast_E hX (by decide +kernel)) hce hcv hcl ?_
      refine lv_astore hx hb d_La_named_12 hl (by decide) (lv' := [(5, .ref q), (0, .ref (a 24)), (1, .int x), (2, .int y), (3, .int z), (4, .int u)]) rfl (fun ls hl => ?_)
      refine lv_iconst (v := 1) hx hb d_La_named_14 (by decide) ?_
      exact hret _ _ _ _ _ _ _ _ ls _ H locs _ _ d_La_named_15 (by decide) (by decide) vc hP hD hS
    have vc := vc.2
    exact (vc hE0).elim
  · have vc := vc.1
    have vc := vc hok
    have hP : va_P D vwCl (wX a ++ wS a cI ru le li (upd bn ((x * 3 + y - 33) * 12 + z : Int32).toNatClampNeg u) ip aw ns) H := hP
    have hD : va_D A (wX a ++ wS a cI ru le li (upd bn ((x * 3 + y - 33) * 12 + z : Int32).toNatClampNeg u) ip aw ns) := hD
    refine lv_goto (tgt := 16) hx hb d_La_named_9 (by decide) ?_
    refine lv_iconst (v := 0) hx hb d_La_named_16 (by decide) ?_
    exact hret _ _ _ _ _ _ _ _ ls _ H locs _ _ d_La_named_17 (by decide) (by decide) vc hP hD hS
theorem h_La_named (l : Launch) (hls : l.stackTraces = false) (D : va_G) (a : Nat → Nat) (cI cJ cZ : ClassId) (ru : Nat → Int32) (le : Nat → Int32) (li : Nat → Int32) (bn : Nat → Int32) (ip : Nat → Int32) (aw : Nat → Int32) (ns : Int32) (x : Int32) (y : Int32) (z : Int32) (u : Int32) (r : Int32) (ru' : Nat → Int32) (le' : Nat → Int32) (li' : Nat → Int32) (bn' : Nat → Int32) (ip' : Nat → Int32) (aw' : Nat → Int32) (ns' : Int32) (vc : V_La_named ru le li bn ip aw ns x y z u (fun v ru le li bn ip aw ns => v = r ∧ ru = ru' ∧ le = le' ∧ li = li' ∧ bn = bn' ∧ ip = ip' ∧ aw = aw' ∧ ns = ns') (fun _ _ _ _ _ _ _ _ => True)) : Hm (S := Unit) l y_La_named b_La_named 6 (some .int) [(0, 9, 12, 13)] 7 115 [.ref (a 24), .int x, .int y, .int z, .int u] D (tyA cI cJ cZ) (wX a ++ wS a cI ru le li bn ip aw ns) (fun _ => True) (fun _ => some (.int r)) (fun _ => (wX a ++ wS a cI ru' le' li' bn' ip' aw' ns')) :=
  hm_of (r := fun _ => r) (by decide) rfl (Nat.le_of_ble_eq_true rfl) (fun p e s m below meth c ls Q A S htab hN hK hP hD hA hS hX hl hret => g_La_named hls S htab hN (Nat.le_refl _) (Nat.le_refl _) ⟨Nat.le_refl _, Nat.le_refl _⟩ D a cI cJ cZ ru le li bn ip aw ns x y z u hK hP hD hA hS hX hl vc
    (fun v ru le li bn ip aw ns ls pc H locs k j hd hk hj hv hP hD hS => by obtain ⟨rfl, rfl, rfl, rfl, rfl, rfl, rfl, rfl⟩ := hv; exact hret () ls pc H locs k j _ rfl hd hk hj trivial hP hD hS))
theorem c_La_named_1 (l : Launch) (hls : l.stackTraces = false) (D : va_G) (a : Nat → Nat) (cI cJ cZ : ClassId) (ru : Nat → Int32) (le : Nat → Int32) (li : Nat → Int32) (bn : Nat → Int32) (ip : Nat → Int32) (aw : Nat → Int32) (ns : Int32) (x : Int32) (y : Int32) (z : Int32) (u : Int32) (hpre : ns ≤ 24) (hv1 : ¬ ((sHas ns x && (sIn y 33 35 && sIn z 0 11)) = true ∧ (u = -1 ∨ (if y = 35 then sIn u 0 4095 else sHas ns u) = true))) : Hm (S := Unit) l y_La_named b_La_named 6 (some .int) [(0, 9, 12, 13)] 7 115 [.ref (a 24), .int x, .int y, .int z, .int u] D (tyA cI cJ cZ) (wX a ++ wS a cI ru le li bn ip aw ns) (fun _ => True) (fun _ => some (.int 1)) (fun _ => (wX a ++ wS a cI ru le li bn ip aw ns)) := h_La_named l hls D a cI cJ cZ ru le li bn ip aw ns x y z u 1 ru le li bn ip aw ns (by
  unfold V_La_named
  have h01 : vp_in (0 : Int32) 1 := vp_in_nI (n := 0) (by decide) (by decide)
  refine ⟨hpre, ⟨fun hok => ?_, fun E hbad => ?_⟩⟩
  · first | exact absurd hok hv1 | exact absurd hv1 hok | exact absurd hok.1 hv1 | exact absurd hok.2 hv2 | exact absurd hv2 hok.2 | simp
  · rcases hbad with ⟨rfl, hb⟩
    · first | exact absurd hb hv1 | exact absurd hb.1 hv1 | exact absurd hb.2 hv2 | exact absurd hb hv2 | exact ⟨fun _ => by simp, fun h0 => absurd rfl h0⟩)
theorem c_La_named_2 (l : Launch) (hls : l.stackTraces = false) (D : va_G) (a : Nat → Nat) (cI cJ cZ : ClassId) (ru : Nat → Int32) (le : Nat → Int32) (li : Nat → Int32) (bn : Nat → Int32) (ip : Nat → Int32) (aw : Nat → Int32) (ns : Int32) (x : Int32) (y : Int32) (z : Int32) (u : Int32) (hpre : ns ≤ 24) (hv1 : ¬ (¬ ((sHas ns x && (sIn y 33 35 && sIn z 0 11)) = true ∧ (u = -1 ∨ (if y = 35 then sIn u 0 4095 else sHas ns u) = true)))) : Hm (S := Unit) l y_La_named b_La_named 6 (some .int) [(0, 9, 12, 13)] 7 115 [.ref (a 24), .int x, .int y, .int z, .int u] D (tyA cI cJ cZ) (wX a ++ wS a cI ru le li bn ip aw ns) (fun _ => True) (fun _ => some (.int 0)) (fun _ => (wX a ++ wS a cI ru le li (upd bn ((x * 3 + y - 33) * 12 + z : Int32).toNatClampNeg u) ip aw ns)) := h_La_named l hls D a cI cJ cZ ru le li bn ip aw ns x y z u 0 ru le li (upd bn ((x * 3 + y - 33) * 12 + z : Int32).toNatClampNeg u) ip aw ns (by
  unfold V_La_named
  have h01 : vp_in (0 : Int32) 1 := vp_in_nI (n := 0) (by decide) (by decide)
  refine ⟨hpre, ⟨fun hok => ?_, fun E hbad => ?_⟩⟩
  · first | exact absurd hok hv1 | exact absurd hv1 hok | exact absurd hok.1 hv1 | exact absurd hok.2 hv2 | exact absurd hv2 hok.2 | simp
  · rcases hbad with ⟨rfl, hb⟩
    · first | exact absurd hb hv1 | exact absurd hb.1 hv1 | exact absurd hb.2 hv2 | exact absurd hb hv2 | exact ⟨fun _ => by simp, fun h0 => absurd rfl h0⟩)
theorem hd_La_named : y_La_named.cls ≠ "java/lang/invoke/MethodHandle" ∧ y_La_named.cls ≠ "java/lang/invoke/VarHandle" ∧ (parseMethodDescriptor y_La_named.desc).map (fun d => d.parameters.length) = some 5 := ⟨by decide, by decide, by decide +kernel⟩
theorem kw_La_marks : Cond.codeWith y_La_marks b_La_marks 5 (some .int) [(0, 10, 13, 13)] ∈ W0 := W0_at 692 (by decide +kernel) (by decide +kernel)
theorem s_La_marks : Cond.static y_La_marks ∈ W0 := W0_at 691 (by decide +kernel) (by decide +kernel)
def V_La_marks (ki : Nat → Int32) (co : Nat → Int64) (pr : Nat → Int32) (pa : Nat → Int32) (tw : Nat → Int32) (nv : Int32) (sv : Int32) (ru : Nat → Int32) (le : Nat → Int32) (li : Nat → Int32) (bn : Nat → Int32) (ip : Nat → Int32) (aw : Nat → Int32) (ns : Int32) (ch : Nat → Int32) (ma : Nat → Int32) (br : Nat → Int64) (tl : Int32) (ou : Nat → Int64) (x : Int32) (y : Int32) (post : Int32 → (Nat → Int32) → (Nat → Int64) → (Nat → Int32) → (Nat → Int32) → (Nat → Int32) → Int32 → Int32 → (Nat → Int32) → (Nat → Int32) → (Nat → Int32) → (Nat → Int32) → (Nat → Int32) → (Nat → Int32) → Int32 → (Nat → Int32) → (Nat → Int32) → (Nat → Int64) → Int32 → (Nat → Int64) → Prop) (px : String → (Nat → Int32) → (Nat → Int64) → (Nat → Int32) → (Nat → Int32) → (Nat → Int32) → Int32 → Int32 → (Nat → Int32) → (Nat → Int32) → (Nat → Int32) → (Nat → Int32) → (Nat → Int32) → (Nat → Int32) → Int32 → (Nat → Int32) → (Nat → Int32) → (Nat → Int64) → Int32 → (Nat → Int64) → Prop) : Prop :=
  ((nv ≤ 40 ∧ ns ≤ 24) ∧ (((sHas ns x && sHas nv y) = true → (vp_in 0 1 ∧ post 0 ki co pr pa tw nv sv ru le li bn ip aw ns ch ma br tl (vp_updL ou (0 : Int32).toNatClampNeg ((if ch (y * 24 + x : Int32).toNatClampNeg = 0 then -1 else ma (y * 24 + x : Int32).toNatClampNeg : Int32).toInt64)))) ∧ (∀ E : String, E = IAE ∧ ¬ (sHas ns x && sHas nv y) = true → ((E = IAE → post 1 ki co pr pa tw nv sv ru le li bn ip aw ns ch ma br tl ou) ∧ (¬ E = IAE → False)))))
set_option maxHeartbeats 4000000 in
set_option maxRecDepth 100000 in
theorem g_La_marks {p : Program} {l : Launch} {e : Env} {R : Room} {s : State} {m : MethodId} {args : Array Value} {below : List Frame} {meth : Method} {c : Code} {H : Heap} {locs : List Loc} {Q : State → Prop} {ls : Array Slot} {A : Nat → Prop} (hls : l.stackTraces = false) (S : CallFix p m c b_La_marks 5 s args W0 "SchemaJudgeLaw") (htab : c.exceptionTable.toList = tableOf [(0, 10, 13, 13)]) (hN : eN s) (hRf : 7 ≤ R.frames) (hRl : 112 ≤ R.locals) (hRc : 0 + 1 ≤ R.cells ∧ 0 + 6 ≤ R.slots) (D : va_G) (a : Nat → Nat) (cI cJ cZ : ClassId) (ki : Nat → Int32) (co : Nat → Int64) (pr : Nat → Int32) (pa : Nat → Int32) (tw : Nat → Int32) (nv : Int32) (sv : Int32) (ru : Nat → Int32) (le : Nat → Int32) (li : Nat → Int32) (bn : Nat → Int32) (ip : Nat → Int32) (aw : Nat → Int32) (ns : Int32) (ch : Nat → Int32) (ma : Nat → Int32) (br : Nat → Int64) (tl : Int32) (ou : Nat → Int64) (x : Int32) (y : Int32) (hK : va_K D vwCl (tyA cI cJ cZ) s) (hP : va_P D vwCl (wX a ++ wV a cI cJ ki co pr pa tw nv sv ++ wS a cI ru le li bn ip aw ns ++ wJ a cI cJ ch ma br tl ++ wO a cJ ou) H) (hD : va_D A (wX a ++ wV a cI cJ ki co pr pa tw nv sv ++ wS a cI ru le li bn ip aw ns ++ wJ a cI cJ ch ma br tl ++ wO a cJ ou)) (hA : ∀ q, s.heap.size ≤ q → A q) (hS : va_S A s.heap H locs) (hX : eX A s s.heap) (hl : lv_has ls 5 [(0, .ref (a 24)), (1, .int x), (2, .int y), (3, .ref (a 25))]) {post : Int32 → (Nat → Int32) → (Nat → Int64) → (Nat → Int32) → (Nat → Int32) → (Nat → Int32) → Int32 → Int32 → (Nat → Int32) → (Nat → Int32) → (Nat → Int32) → (Nat → Int32) → (Nat → Int32) → (Nat → Int32) → Int32 → (Nat → Int32) → (Nat → Int32) → (Nat → Int64) → Int32 → (Nat → Int64) → Prop} {px : String → (Nat → Int32) → (Nat → Int64) → (Nat → Int32) → (Nat → Int32) → (Nat → Int32) → Int32 → Int32 → (Nat → Int32) → (Nat → Int32) → (Nat → Int32) → (Nat → Int32) → (Nat → Int32) → (Nat → Int32) → Int32 → (Nat → Int32) → (Nat → Int32) → (Nat → Int64) → Int32 → (Nat → Int64) → Prop} (vc : V_La_marks ki co pr pa tw nv sv ru le li bn ip aw ns ch ma br tl ou x y post px)
    (hret : ∀ (v : Int32) (ki : Nat → Int32) (co : Nat → Int64) (pr : Nat → Int32) (pa : Nat → Int32) (tw : Nat → Int32) (nv : Int32) (sv : Int32) (ru : Nat → Int32) (le : Nat → Int32) (li : Nat → Int32) (bn : Nat → Int32) (ip : Nat → Int32) (aw : Nat → Int32) (ns : Int32) (ch : Nat → Int32) (ma : Nat → Int32) (br : Nat → Int64) (tl : Int32) (ou : Nat → Int64) (ls : Array Slot) (pc : Nat) (H : Heap) (locs : List Loc) (k j : Nat), decode b_La_marks pc = .ok (.ireturn, 1) → k ≤ 1 → j ≤ 6 → post v ki co pr pa tw nv sv ru le li bn ip aw ns ch ma br tl ou → va_P D vwCl (wX a ++ wV a cI cJ ki co pr pa tw nv sv ++ wS a cI ru le li bn ip aw ns ++ wJ a cI cJ ch ma br tl ++ wO a cJ ou) H → va_D A (wX a ++ wV a cI cJ ki co pr pa tw nv sv ++ wS a cI ru le li bn ip aw ns ++ wJ a cI cJ ch ma br tl ++ wO a cJ ou) → va_S A s.heap H locs → W p l e R s m args below meth c H locs k j Q (F0 m pc ls [.int v])) : W p l e R s m args below meth c H locs 0 0 Q (F0 m 0 ls []) := by
  have hx := S.1
  have hb := S.2.1
  have hown := S.2.2.2.1
  have hts := S.2.2.2.2
  unfold V_La_marks at vc
  refine lv_aload_n hx hb d_La_marks_0 rfl (lv_at hl 3 rfl) ?_
  refine lv_iconst (v := 0) hx hb d_La_marks_1 (by decide) ?_
  refine lv_aload_n hx hb d_La_marks_2 rfl (lv_at hl 0 rfl) ?_
  refine lv_iload_n hx hb d_La_marks_3 rfl (lv_at hl 1 rfl) ?_
  refine lv_iload_n hx hb d_La_marks_4 rfl (lv_at hl 2 rfl) ?_
  obtain ⟨hpre, vc⟩ := vc
  refine xc_V (As := [.int x, .int y]) (rest := [.int 0, .ref (a 25)]) (wr := (wO a cJ ou)) S (c_Sj_marks l hls D a cI cJ cZ ki co pr pa tw nv sv ru le li bn ip aw ns ch ma br tl x y hpre) k_Sj_marks i_Sj_marks e_Sj_marks o_Sj ml_La_63 hd_Sj_marks (Nat.le_trans (by decide) hRf) (Nat.le_trans (by decide) hRl) hRc (va_recv hK hP (q0 := 0) (ci := 5) rfl rfl) hK hP hD hS hA hX [0, 1, 2, 3, 4, 5, 6, 7, 8, 9, 10, 11, 12, 13, 14, 15, 16, 17] [18] rfl rfl rfl (by decide) (by decide) (by decide) hl.1 rfl (Nat.le_of_ble_eq_true rfl) d_La_marks_5 (fun _ E ce q H locs hbad hce hcv hcl hP hD hS => ?_) (fun _ H locs hok hP hD hS => ?_)
  · have vc := vc.2
    have vc := vc E hbad
    have hP : va_P D vwCl (wX a ++ wV a cI cJ ki co pr pa tw nv sv ++ wS a cI ru le li bn ip aw ns ++ wJ a cI cJ ch ma br tl ++ wO a cJ ou) H := hP.sub [1, 2, 3, 4, 5, 6, 7, 8, 9, 10, 11, 12, 13, 14, 15, 16, 17, 18, 0] rfl
    have hD : va_D A (wX a ++ wV a cI cJ ki co pr pa tw nv sv ++ wS a cI ru le li bn ip aw ns ++ wJ a cI cJ ch ma br tl ++ wO a cJ ou) := hD.sub [1, 2, 3, 4, 5, 6, 7, 8, 9, 10, 11, 12, 13, 14, 15, 16, 17, 18, 0] (by decide) rfl
    by_cases hE0 : E = IAE
    · subst hE0
      have vc := vc.1 rfl
      refine vx_catch (own := "SchemaJudgeLaw") (name := IAE) hown [] ⟨0, 10, 13, 13⟩ [] htab (fun z hz => by cases hz) (by decide) (by decide) (hts _ cl_La_13) (cast_E hX (by decide +kernel)) hce hcv hcl ?_
      refine lv_astore hx hb d_La_marks_13 hl (by decide) (lv' := [(4, .ref q), (0, .ref (a 24)), (1, .int x), (2, .int y), (3, .ref (a 25))]) rfl (fun ls hl => ?_)
      refine lv_iconst (v := 1) hx hb d_La_marks_15 (by decide) ?_
      exact hret _ _ _ _ _ _ _ _ _ _ _ _ _ _ _ _ _ _ _ _ ls _ H locs _ _ d_La_marks_16 (by decide) (by decide) vc hP hD hS
    have vc := vc.2
    exact (vc hE0).elim
  · have vc := vc.1
    have vc := vc hok
    have hP : va_P D vwCl (wX a ++ wV a cI cJ ki co pr pa tw nv sv ++ wS a cI ru le li bn ip aw ns ++ wJ a cI cJ ch ma br tl ++ wO a cJ ou) H := hP.sub [1, 2, 3, 4, 5, 6, 7, 8, 9, 10, 11, 12, 13, 14, 15, 16, 17, 18, 0] rfl
    have hD : va_D A (wX a ++ wV a cI cJ ki co pr pa tw nv sv ++ wS a cI ru le li bn ip aw ns ++ wJ a cI cJ ch ma br tl ++ wO a cJ ou) := hD.sub [1, 2, 3, 4, 5, 6, 7, 8, 9, 10, 11, 12, 13, 14, 15, 16, 17, 18, 0] (by decide) rfl
    refine lv_i2l hx hb d_La_marks_8 rfl ?_
    obtain ⟨vcb, vc⟩ := vc
    refine va_last hx hb hK hP hD hS 18 1 rfl rfl vcb d_La_marks_9 (fun H locs hP hD hS => ?_)
    have hP : va_P D vwCl (wX a ++ wV a cI cJ ki co pr pa tw nv sv ++ wS a cI ru le li bn ip aw ns ++ wJ a cI cJ ch ma br tl ++ wO a cJ (vp_updL ou (0 : Int32).toNatClampNeg ((if ch (y * 24 + x : Int32).toNatClampNeg = 0 then -1 else ma (y * 24 + x : Int32).toNatClampNeg : Int32).toInt64))) H := hP
    have hD : va_D A (wX a ++ wV a cI cJ ki co pr pa tw nv sv ++ wS a cI ru le li bn ip aw ns ++ wJ a cI cJ ch ma br tl ++ wO a cJ (vp_updL ou (0 : Int32).toNatClampNeg ((if ch (y * 24 + x : Int32).toNatClampNeg = 0 then -1 else ma (y * 24 + x : Int32).toNatClampNeg : Int32).toInt64))) := hD
    refine lv_goto (tgt := 17) hx hb d_La_marks_10 (by decide) ?_
    refine lv_iconst (v := 0) hx hb d_La_marks_17 (by decide) ?_
    exact hret _ _ _ _ _ _ _ _ _ _ _ _ _ _ _ _ _ _ _ _ ls _ H locs _ _ d_La_marks_18 (by decide) (by decide) vc hP hD hS
theorem h_La_marks (l : Launch) (hls : l.stackTraces = false) (D : va_G) (a : Nat → Nat) (cI cJ cZ : ClassId) (ki : Nat → Int32) (co : Nat → Int64) (pr : Nat → Int32) (pa : Nat → Int32) (tw : Nat → Int32) (nv : Int32) (sv : Int32) (ru : Nat → Int32) (le : Nat → Int32) (li : Nat → Int32) (bn : Nat → Int32) (ip : Nat → Int32) (aw : Nat → Int32) (ns : Int32) (ch : Nat → Int32) (ma : Nat → Int32) (br : Nat → Int64) (tl : Int32) (ou : Nat → Int64) (x : Int32) (y : Int32) (r : Int32) (ki' : Nat → Int32) (co' : Nat → Int64) (pr' : Nat → Int32) (pa' : Nat → Int32) (tw' : Nat → Int32) (nv' : Int32) (sv' : Int32) (ru' : Nat → Int32) (le' : Nat → Int32) (li' : Nat → Int32) (bn' : Nat → Int32) (ip' : Nat → Int32) (aw' : Nat → Int32) (ns' : Int32) (ch' : Nat → Int32) (ma' : Nat → Int32) (br' : Nat → Int64) (tl' : Int32) (ou' : Nat → Int64) (vc : V_La_marks ki co pr pa tw nv sv ru le li bn ip aw ns ch ma br tl ou x y (fun v ki co pr pa tw nv sv ru le li bn ip aw ns ch ma br tl ou => v = r ∧ ki = ki' ∧ co = co' ∧ pr = pr' ∧ pa = pa' ∧ tw = tw' ∧ nv = nv' ∧ sv = sv' ∧ ru = ru' ∧ le = le' ∧ li = li' ∧ bn = bn' ∧ ip = ip' ∧ aw = aw' ∧ ns = ns' ∧ ch = ch' ∧ ma = ma' ∧ br = br' ∧ tl = tl' ∧ ou = ou') (fun _ _ _ _ _ _ _ _ _ _ _ _ _ _ _ _ _ _ _ _ => True)) : Hm (S := Unit) l y_La_marks b_La_marks 5 (some .int) [(0, 10, 13, 13)] 7 112 [.ref (a 24), .int x, .int y, .ref (a 25)] D (tyA cI cJ cZ) (wX a ++ wV a cI cJ ki co pr pa tw nv sv ++ wS a cI ru le li bn ip aw ns ++ wJ a cI cJ ch ma br tl ++ wO a cJ ou) (fun _ => True) (fun _ => some (.int r)) (fun _ => (wX a ++ wV a cI cJ ki' co' pr' pa' tw' nv' sv' ++ wS a cI ru' le' li' bn' ip' aw' ns' ++ wJ a cI cJ ch' ma' br' tl' ++ wO a cJ ou')) :=
  hm_of (r := fun _ => r) (by decide) rfl (Nat.le_of_ble_eq_true rfl) (fun p e s m below meth c ls Q A S htab hN hK hP hD hA hS hX hl hret => g_La_marks hls S htab hN (Nat.le_refl _) (Nat.le_refl _) ⟨Nat.le_refl _, Nat.le_refl _⟩ D a cI cJ cZ ki co pr pa tw nv sv ru le li bn ip aw ns ch ma br tl ou x y hK hP hD hA hS hX hl vc
    (fun v ki co pr pa tw nv sv ru le li bn ip aw ns ch ma br tl ou ls pc H locs k j hd hk hj hv hP hD hS => by obtain ⟨rfl, rfl, rfl, rfl, rfl, rfl, rfl, rfl, rfl, rfl, rfl, rfl, rfl, rfl, rfl, rfl, rfl, rfl, rfl, rfl⟩ := hv; exact hret () ls pc H locs k j _ rfl hd hk hj trivial hP hD hS))
theorem c_La_marks_1 (l : Launch) (hls : l.stackTraces = false) (D : va_G) (a : Nat → Nat) (cI cJ cZ : ClassId) (ki : Nat → Int32) (co : Nat → Int64) (pr : Nat → Int32) (pa : Nat → Int32) (tw : Nat → Int32) (nv : Int32) (sv : Int32) (ru : Nat → Int32) (le : Nat → Int32) (li : Nat → Int32) (bn : Nat → Int32) (ip : Nat → Int32) (aw : Nat → Int32) (ns : Int32) (ch : Nat → Int32) (ma : Nat → Int32) (br : Nat → Int64) (tl : Int32) (ou : Nat → Int64) (x : Int32) (y : Int32) (hpre : (nv ≤ 40 ∧ ns ≤ 24)) (hv1 : ¬ (sHas ns x && sHas nv y) = true) : Hm (S := Unit) l y_La_marks b_La_marks 5 (some .int) [(0, 10, 13, 13)] 7 112 [.ref (a 24), .int x, .int y, .ref (a 25)] D (tyA cI cJ cZ) (wX a ++ wV a cI cJ ki co pr pa tw nv sv ++ wS a cI ru le li bn ip aw ns ++ wJ a cI cJ ch ma br tl ++ wO a cJ ou) (fun _ => True) (fun _ => some (.int 1)) (fun _ => (wX a ++ wV a cI cJ ki co pr pa tw nv sv ++ wS a cI ru le li bn ip aw ns ++ wJ a cI cJ ch ma br tl ++ wO a cJ ou)) := h_La_marks l hls D a cI cJ cZ ki co pr pa tw nv sv ru le li bn ip aw ns ch ma br tl ou x y 1 ki co pr pa tw nv sv ru le li bn ip aw ns ch ma br tl ou (by
  unfold V_La_marks
  have h01 : vp_in (0 : Int32) 1 := vp_in_nI (n := 0) (by decide) (by decide)
  refine ⟨hpre, ⟨fun hok => ?_, fun E hbad => ?_⟩⟩
  · first | exact absurd hok hv1 | exact absurd hv1 hok | exact absurd hok.1 hv1 | exact absurd hok.2 hv2 | exact absurd hv2 hok.2 | exact ⟨h01, by simp⟩
  · rcases hbad with ⟨rfl, hb⟩
    · first | exact absurd hb hv1 | exact absurd hb.1 hv1 | exact absurd hb.2 hv2 | exact absurd hb hv2 | exact ⟨fun _ => by simp, fun h0 => absurd rfl h0⟩)
theorem c_La_marks_2 (l : Launch) (hls : l.stackTraces = false) (D : va_G) (a : Nat → Nat) (cI cJ cZ : ClassId) (ki : Nat → Int32) (co : Nat → Int64) (pr : Nat → Int32) (pa : Nat → Int32) (tw : Nat → Int32) (nv : Int32) (sv : Int32) (ru : Nat → Int32) (le : Nat → Int32) (li : Nat → Int32) (bn : Nat → Int32) (ip : Nat → Int32) (aw : Nat → Int32) (ns : Int32) (ch : Nat → Int32) (ma : Nat → Int32) (br : Nat → Int64) (tl : Int32) (ou : Nat → Int64) (x : Int32) (y : Int32) (hpre : (nv ≤ 40 ∧ ns ≤ 24)) (hv1 : ¬ (¬ (sHas ns x && sHas nv y) = true)) : Hm (S := Unit) l y_La_marks b_La_marks 5 (some .int) [(0, 10, 13, 13)] 7 112 [.ref (a 24), .int x, .int y, .ref (a 25)] D (tyA cI cJ cZ) (wX a ++ wV a cI cJ ki co pr pa tw nv sv ++ wS a cI ru le li bn ip aw ns ++ wJ a cI cJ ch ma br tl ++ wO a cJ ou) (fun _ => True) (fun _ => some (.int 0)) (fun _ => (wX a ++ wV a cI cJ ki co pr pa tw nv sv ++ wS a cI ru le li bn ip aw ns ++ wJ a cI cJ ch ma br tl ++ wO a cJ (vp_updL ou 0 ((if ch (y * 24 + x : Int32).toNatClampNeg = 0 then -1 else ma (y * 24 + x : Int32).toNatClampNeg : Int32).toInt64)))) := h_La_marks l hls D a cI cJ cZ ki co pr pa tw nv sv ru le li bn ip aw ns ch ma br tl ou x y 0 ki co pr pa tw nv sv ru le li bn ip aw ns ch ma br tl (vp_updL ou 0 ((if ch (y * 24 + x : Int32).toNatClampNeg = 0 then -1 else ma (y * 24 + x : Int32).toNatClampNeg : Int32).toInt64)) (by
  unfold V_La_marks
  have h01 : vp_in (0 : Int32) 1 := vp_in_nI (n := 0) (by decide) (by decide)
  refine ⟨hpre, ⟨fun hok => ?_, fun E hbad => ?_⟩⟩
  · first | exact absurd hok hv1 | exact absurd hv1 hok | exact absurd hok.1 hv1 | exact absurd hok.2 hv2 | exact absurd hv2 hok.2 | exact ⟨h01, by simp⟩
  · rcases hbad with ⟨rfl, hb⟩
    · first | exact absurd hb hv1 | exact absurd hb.1 hv1 | exact absurd hb.2 hv2 | exact absurd hb hv2 | exact ⟨fun _ => by simp, fun h0 => absurd rfl h0⟩)
theorem hd_La_marks : y_La_marks.cls ≠ "java/lang/invoke/MethodHandle" ∧ y_La_marks.cls ≠ "java/lang/invoke/VarHandle" ∧ (parseMethodDescriptor y_La_marks.desc).map (fun d => d.parameters.length) = some 4 := ⟨by decide, by decide, by decide +kernel⟩
theorem kw_La_judge : Cond.codeWith y_La_judge b_La_judge 5 (some .int) [(0, 17, 20, 13), (0, 17, 24, 15), (0, 17, 28, 61)] ∈ W0 := W0_at 478 (by decide +kernel) (by decide +kernel)
theorem s_La_judge : Cond.static y_La_judge ∈ W0 := W0_at 477 (by decide +kernel) (by decide +kernel)
def V_La_judge (ki : Nat → Int32) (co : Nat → Int64) (pr : Nat → Int32) (pa : Nat → Int32) (tw : Nat → Int32) (nv : Int32) (sv : Int32) (ru : Nat → Int32) (le : Nat → Int32) (li : Nat → Int32) (bn : Nat → Int32) (ip : Nat → Int32) (aw : Nat → Int32) (ns : Int32) (ch : Nat → Int32) (ma : Nat → Int32) (br : Nat → Int64) (tl : Int32) (ou : Nat → Int64) (x : Int32) (y : Int32) (post : Int32 → (Nat → Int32) → (Nat → Int64) → (Nat → Int32) → (Nat → Int32) → (Nat → Int32) → Int32 → Int32 → (Nat → Int32) → (Nat → Int32) → (Nat → Int32) → (Nat → Int32) → (Nat → Int32) → (Nat → Int32) → Int32 → (Nat → Int32) → (Nat → Int32) → (Nat → Int64) → Int32 → (Nat → Int64) → Prop) (px : String → (Nat → Int32) → (Nat → Int64) → (Nat → Int32) → (Nat → Int32) → (Nat → Int32) → Int32 → Int32 → (Nat → Int32) → (Nat → Int32) → (Nat → Int32) → (Nat → Int32) → (Nat → Int32) → (Nat → Int32) → Int32 → (Nat → Int32) → (Nat → Int32) → (Nat → Int64) → Int32 → (Nat → Int64) → Prop) : Prop :=
  (¬ (sHas ns x && sHas nv y) = true ∧ ((False → (((bI false) = 0 → (vp_in 0 1 ∧ post 0 ki co pr pa tw nv sv ru le li bn ip aw ns ch ma br tl (vp_updL ou (0 : Int32).toNatClampNeg 0))) ∧ (¬ (bI false) = 0 → (vp_in 0 1 ∧ post 0 ki co pr pa tw nv sv ru le li bn ip aw ns ch ma br tl (vp_updL ou (0 : Int32).toNatClampNeg 1))))) ∧ (∀ E : String, E = IAE → ((E = IAE → post 1 ki co pr pa tw nv sv ru le li bn ip aw ns ch ma br tl ou) ∧ (E = ISE → post 2 ki co pr pa tw nv sv ru le li bn ip aw ns ch ma br tl ou) ∧ (E = UOE → post 3 ki co pr pa tw nv sv ru le li bn ip aw ns ch ma br tl ou) ∧ (¬ E = IAE → ¬ E = ISE → ¬ E = UOE → False)))))
set_option maxHeartbeats 4000000 in
set_option maxRecDepth 100000 in
theorem g_La_judge {p : Program} {l : Launch} {e : Env} {R : Room} {s : State} {m : MethodId} {args : Array Value} {below : List Frame} {meth : Method} {c : Code} {H : Heap} {locs : List Loc} {Q : State → Prop} {ls : Array Slot} {A : Nat → Prop} (hls : l.stackTraces = false) (S : CallFix p m c b_La_judge 5 s args W0 "SchemaJudgeLaw") (htab : c.exceptionTable.toList = tableOf [(0, 17, 20, 13), (0, 17, 24, 15), (0, 17, 28, 61)]) (hN : eN s) (hRf : 7 ≤ R.frames) (hRl : 112 ≤ R.locals) (hRc : 0 + 1 ≤ R.cells ∧ 0 + 6 ≤ R.slots) (D : va_G) (a : Nat → Nat) (cI cJ cZ : ClassId) (ki : Nat → Int32) (co : Nat → Int64) (pr : Nat → Int32) (pa : Nat → Int32) (tw : Nat → Int32) (nv : Int32) (sv : Int32) (ru : Nat → Int32) (le : Nat → Int32) (li : Nat → Int32) (bn : Nat → Int32) (ip : Nat → Int32) (aw : Nat → Int32) (ns : Int32) (ch : Nat → Int32) (ma : Nat → Int32) (br : Nat → Int64) (tl : Int32) (ou : Nat → Int64) (x : Int32) (y : Int32) (hK : va_K D vwCl (tyA cI cJ cZ) s) (hP : va_P D vwCl (wX a ++ wV a cI cJ ki co pr pa tw nv sv ++ wS a cI ru le li bn ip aw ns ++ wJ a cI cJ ch ma br tl ++ wO a cJ ou) H) (hD : va_D A (wX a ++ wV a cI cJ ki co pr pa tw nv sv ++ wS a cI ru le li bn ip aw ns ++ wJ a cI cJ ch ma br tl ++ wO a cJ ou)) (hA : ∀ q, s.heap.size ≤ q → A q) (hS : va_S A s.heap H locs) (hX : eX A s s.heap) (hl : lv_has ls 5 [(0, .ref (a 24)), (1, .int x), (2, .int y), (3, .ref (a 25))]) {post : Int32 → (Nat → Int32) → (Nat → Int64) → (Nat → Int32) → (Nat → Int32) → (Nat → Int32) → Int32 → Int32 → (Nat → Int32) → (Nat → Int32) → (Nat → Int32) → (Nat → Int32) → (Nat → Int32) → (Nat → Int32) → Int32 → (Nat → Int32) → (Nat → Int32) → (Nat → Int64) → Int32 → (Nat → Int64) → Prop} {px : String → (Nat → Int32) → (Nat → Int64) → (Nat → Int32) → (Nat → Int32) → (Nat → Int32) → Int32 → Int32 → (Nat → Int32) → (Nat → Int32) → (Nat → Int32) → (Nat → Int32) → (Nat → Int32) → (Nat → Int32) → Int32 → (Nat → Int32) → (Nat → Int32) → (Nat → Int64) → Int32 → (Nat → Int64) → Prop} (vc : V_La_judge ki co pr pa tw nv sv ru le li bn ip aw ns ch ma br tl ou x y post px)
    (hret : ∀ (v : Int32) (ki : Nat → Int32) (co : Nat → Int64) (pr : Nat → Int32) (pa : Nat → Int32) (tw : Nat → Int32) (nv : Int32) (sv : Int32) (ru : Nat → Int32) (le : Nat → Int32) (li : Nat → Int32) (bn : Nat → Int32) (ip : Nat → Int32) (aw : Nat → Int32) (ns : Int32) (ch : Nat → Int32) (ma : Nat → Int32) (br : Nat → Int64) (tl : Int32) (ou : Nat → Int64) (ls : Array Slot) (pc : Nat) (H : Heap) (locs : List Loc) (k j : Nat), decode b_La_judge pc = .ok (.ireturn, 1) → k ≤ 1 → j ≤ 6 → post v ki co pr pa tw nv sv ru le li bn ip aw ns ch ma br tl ou → va_P D vwCl (wX a ++ wV a cI cJ ki co pr pa tw nv sv ++ wS a cI ru le li bn ip aw ns ++ wJ a cI cJ ch ma br tl ++ wO a cJ ou) H → va_D A (wX a ++ wV a cI cJ ki co pr pa tw nv sv ++ wS a cI ru le li bn ip aw ns ++ wJ a cI cJ ch ma br tl ++ wO a cJ ou) → va_S A s.heap H locs → W p l e R s m args below meth c H locs k j Q (F0 m pc ls [.int v])) : W p l e R s m args below meth c H locs 0 0 Q (F0 m 0 ls []) := by
  have hx := S.1
  have hb := S.2.1
  have hown := S.2.2.2.1
  have hts := S.2.2.2.2
  unfold V_La_judge at vc
  refine lv_aload_n hx hb d_La_judge_0 rfl (lv_at hl 3 rfl) ?_
  refine lv_iconst (v := 0) hx hb d_La_judge_1 (by decide) ?_
  refine lv_aload_n hx hb d_La_judge_2 rfl (lv_at hl 0 rfl) ?_
  refine lv_iload_n hx hb d_La_judge_3 rfl (lv_at hl 1 rfl) ?_
  refine lv_iload_n hx hb d_La_judge_4 rfl (lv_at hl 2 rfl) ?_
  obtain ⟨hpre, vc⟩ := vc
  refine xc_V (As := [.int x, .int y]) (rest := [.int 0, .ref (a 25)]) (wr := (wO a cJ ou)) S (c_Sj_judge l hls D a cI cJ cZ ki co pr pa tw nv sv ru le li bn ip aw ns ch ma br tl x y hpre) k_Sj_judge i_Sj_judge e_Sj_judge o_Sj ml_La_57 hd_Sj_judge (Nat.le_trans (by decide) hRf) (Nat.le_trans (by decide) hRl) hRc (va_recv hK hP (q0 := 0) (ci := 5) rfl rfl) hK hP hD hS hA hX [0, 1, 2, 3, 4, 5, 6, 7, 8, 9, 10, 11, 12, 13, 14, 15, 16, 17] [18] rfl rfl rfl (by decide) (by decide) (by decide) hl.1 rfl (Nat.le_of_ble_eq_true rfl) d_La_judge_5 (fun _ E ce q H locs hbad hce hcv hcl hP hD hS => ?_) (fun _ H locs hok hP hD hS => ?_)
  · have vc := vc.2
    have vc := vc E hbad
    have hP : va_P D vwCl (wX a ++ wV a cI cJ ki co pr pa tw nv sv ++ wS a cI ru le li bn ip aw ns ++ wJ a cI cJ ch ma br tl ++ wO a cJ ou) H := hP.sub [1, 2, 3, 4, 5, 6, 7, 8, 9, 10, 11, 12, 13, 14, 15, 16, 17, 18, 0] rfl
    have hD : va_D A (wX a ++ wV a cI cJ ki co pr pa tw nv sv ++ wS a cI ru le li bn ip aw ns ++ wJ a cI cJ ch ma br tl ++ wO a cJ ou) := hD.sub [1, 2, 3, 4, 5, 6, 7, 8, 9, 10, 11, 12, 13, 14, 15, 16, 17, 18, 0] (by decide) rfl
    by_cases hE0 : E = IAE
    · subst hE0
      have vc := vc.1 rfl
      refine vx_catch (own := "SchemaJudgeLaw") (name := IAE) hown [] ⟨0, 17, 20, 13⟩ [⟨0, 17, 24, 15⟩, ⟨0, 17, 28, 61⟩] htab (fun z hz => by cases hz) (by decide) (by decide) (hts _ cl_La_13) (cast_E hX (by decide +kernel)) hce hcv hcl ?_
      refine lv_astore hx hb d_La_judge_20 hl (by decide) (lv' := [(4, .ref q), (0, .ref (a 24)), (1, .int x), (2, .int y), (3, .ref (a 25))]) rfl (fun ls hl => ?_)
      refine lv_iconst (v := 1) hx hb d_La_judge_22 (by decide) ?_
      exact hret _ _ _ _ _ _ _ _ _ _ _ _ _ _ _ _ _ _ _ _ ls _ H locs _ _ d_La_judge_23 (by decide) (by decide) vc hP hD hS
    have vc := vc.2
    by_cases hE1 : E = ISE
    · subst hE1
      have vc := vc.1 rfl
      refine vx_catch (own := "SchemaJudgeLaw") (name := ISE) hown [⟨0, 17, 20, 13⟩] ⟨0, 17, 24, 15⟩ [⟨0, 17, 28, 61⟩] htab (fun z hz => by
          rcases List.mem_cons.mp hz with rfl | hz
          · exact Or.inr ⟨by decide, IAE, hts _ cl_La_13, hN.1⟩
          · cases hz) (by decide) (by decide) (hts _ cl_La_15) (cast_E hX (by decide +kernel)) hce hcv hcl ?_
      refine lv_astore hx hb d_La_judge_24 hl (by decide) (lv' := [(4, .ref q), (0, .ref (a 24)), (1, .int x), (2, .int y), (3, .ref (a 25))]) rfl (fun ls hl => ?_)
      refine lv_iconst (v := 2) hx hb d_La_judge_26 (by decide) ?_
      exact hret _ _ _ _ _ _ _ _ _ _ _ _ _ _ _ _ _ _ _ _ ls _ H locs _ _ d_La_judge_27 (by decide) (by decide) vc hP hD hS
    have vc := vc.2
    by_cases hE2 : E = UOE
    · subst hE2
      have vc := vc.1 rfl
      refine vx_catch (own := "SchemaJudgeLaw") (name := UOE) hown [⟨0, 17, 20, 13⟩, ⟨0, 17, 24, 15⟩] ⟨0, 17, 28, 61⟩ [] htab (fun z hz => by
          rcases List.mem_cons.mp hz with rfl | hz
          · exact Or.inr ⟨by decide, IAE, hts _ cl_La_13, hN.2.1⟩
          · rcases List.mem_cons.mp hz with rfl | hz
            · exact Or.inr ⟨by decide, ISE, hts _ cl_La_15, hN.2.2⟩
            · cases hz) (by decide) (by decide) (hts _ cl_La_61) (cast_E hX (by decide +kernel)) hce hcv hcl ?_
      refine lv_astore hx hb d_La_judge_28 hl (by decide) (lv' := [(4, .ref q), (0, .ref (a 24)), (1, .int x), (2, .int y), (3, .ref (a 25))]) rfl (fun ls hl => ?_)
      refine lv_iconst (v := 3) hx hb d_La_judge_30 (by decide) ?_
      exact hret _ _ _ _ _ _ _ _ _ _ _ _ _ _ _ _ _ _ _ _ ls _ H locs _ _ d_La_judge_31 (by decide) (by decide) vc hP hD hS
    have vc := vc.2
    exact (vc hE0 hE1 hE2).elim
  · have vc := vc.1
    have vc := vc hok
    have hP : va_P D vwCl (wX a ++ wV a cI cJ ki co pr pa tw nv sv ++ wS a cI ru le li bn ip aw ns ++ wJ a cI cJ ch ma br tl ++ wO a cJ ou) H := hP.sub [1, 2, 3, 4, 5, 6, 7, 8, 9, 10, 11, 12, 13, 14, 15, 16, 17, 18, 0] rfl
    have hD : va_D A (wX a ++ wV a cI cJ ki co pr pa tw nv sv ++ wS a cI ru le li bn ip aw ns ++ wJ a cI cJ ch ma br tl ++ wO a cJ ou) := hD.sub [1, 2, 3, 4, 5, 6, 7, 8, 9, 10, 11, 12, 13, 14, 15, 16, 17, 18, 0] (by decide) rfl
    refine lv_if_eq (tgt := 15) hx hb d_La_judge_8 (by decide) (fun h => ?_) (fun h => ?_)
    · have vc := vc.1 h
      refine lv_lconst (v := 0) hx hb d_La_judge_15 (by decide) ?_
      obtain ⟨vcb, vc⟩ := vc
      refine va_last hx hb hK hP hD hS 18 1 rfl rfl vcb d_La_judge_16 (fun H locs hP hD hS => ?_)
      have hP : va_P D vwCl (wX a ++ wV a cI cJ ki co pr pa tw nv sv ++ wS a cI ru le li bn ip aw ns ++ wJ a cI cJ ch ma br tl ++ wO a cJ (vp_updL ou (0 : Int32).toNatClampNeg 0)) H := hP
      have hD : va_D A (wX a ++ wV a cI cJ ki co pr pa tw nv sv ++ wS a cI ru le li bn ip aw ns ++ wJ a cI cJ ch ma br tl ++ wO a cJ (vp_updL ou (0 : Int32).toNatClampNeg 0)) := hD
      refine lv_goto (tgt := 32) hx hb d_La_judge_17 (by decide) ?_
      refine lv_iconst (v := 0) hx hb d_La_judge_32 (by decide) ?_
      exact hret _ _ _ _ _ _ _ _ _ _ _ _ _ _ _ _ _ _ _ _ ls _ H locs _ _ d_La_judge_33 (by decide) (by decide) vc hP hD hS
    · have vc := vc.2 h
      refine lv_lconst (v := 1) hx hb d_La_judge_11 (by decide) ?_
      refine lv_goto (tgt := 16) hx hb d_La_judge_12 (by decide) ?_
      obtain ⟨vcb, vc⟩ := vc
      refine va_last hx hb hK hP hD hS 18 1 rfl rfl vcb d_La_judge_16 (fun H locs hP hD hS => ?_)
      have hP : va_P D vwCl (wX a ++ wV a cI cJ ki co pr pa tw nv sv ++ wS a cI ru le li bn ip aw ns ++ wJ a cI cJ ch ma br tl ++ wO a cJ (vp_updL ou (0 : Int32).toNatClampNeg 1)) H := hP
      have hD : va_D A (wX a ++ wV a cI cJ ki co pr pa tw nv sv ++ wS a cI ru le li bn ip aw ns ++ wJ a cI cJ ch ma br tl ++ wO a cJ (vp_updL ou (0 : Int32).toNatClampNeg 1)) := hD
      refine lv_goto (tgt := 32) hx hb d_La_judge_17 (by decide) ?_
      refine lv_iconst (v := 0) hx hb d_La_judge_32 (by decide) ?_
      exact hret _ _ _ _ _ _ _ _ _ _ _ _ _ _ _ _ _ _ _ _ ls _ H locs _ _ d_La_judge_33 (by decide) (by decide) vc hP hD hS
theorem h_La_judge (l : Launch) (hls : l.stackTraces = false) (D : va_G) (a : Nat → Nat) (cI cJ cZ : ClassId) (ki : Nat → Int32) (co : Nat → Int64) (pr : Nat → Int32) (pa : Nat → Int32) (tw : Nat → Int32) (nv : Int32) (sv : Int32) (ru : Nat → Int32) (le : Nat → Int32) (li : Nat → Int32) (bn : Nat → Int32) (ip : Nat → Int32) (aw : Nat → Int32) (ns : Int32) (ch : Nat → Int32) (ma : Nat → Int32) (br : Nat → Int64) (tl : Int32) (ou : Nat → Int64) (x : Int32) (y : Int32) (r : Int32) (ki' : Nat → Int32) (co' : Nat → Int64) (pr' : Nat → Int32) (pa' : Nat → Int32) (tw' : Nat → Int32) (nv' : Int32) (sv' : Int32) (ru' : Nat → Int32) (le' : Nat → Int32) (li' : Nat → Int32) (bn' : Nat → Int32) (ip' : Nat → Int32) (aw' : Nat → Int32) (ns' : Int32) (ch' : Nat → Int32) (ma' : Nat → Int32) (br' : Nat → Int64) (tl' : Int32) (ou' : Nat → Int64) (vc : V_La_judge ki co pr pa tw nv sv ru le li bn ip aw ns ch ma br tl ou x y (fun v ki co pr pa tw nv sv ru le li bn ip aw ns ch ma br tl ou => v = r ∧ ki = ki' ∧ co = co' ∧ pr = pr' ∧ pa = pa' ∧ tw = tw' ∧ nv = nv' ∧ sv = sv' ∧ ru = ru' ∧ le = le' ∧ li = li' ∧ bn = bn' ∧ ip = ip' ∧ aw = aw' ∧ ns = ns' ∧ ch = ch' ∧ ma = ma' ∧ br = br' ∧ tl = tl' ∧ ou = ou') (fun _ _ _ _ _ _ _ _ _ _ _ _ _ _ _ _ _ _ _ _ => True)) : Hm (S := Unit) l y_La_judge b_La_judge 5 (some .int) [(0, 17, 20, 13), (0, 17, 24, 15), (0, 17, 28, 61)] 7 112 [.ref (a 24), .int x, .int y, .ref (a 25)] D (tyA cI cJ cZ) (wX a ++ wV a cI cJ ki co pr pa tw nv sv ++ wS a cI ru le li bn ip aw ns ++ wJ a cI cJ ch ma br tl ++ wO a cJ ou) (fun _ => True) (fun _ => some (.int r)) (fun _ => (wX a ++ wV a cI cJ ki' co' pr' pa' tw' nv' sv' ++ wS a cI ru' le' li' bn' ip' aw' ns' ++ wJ a cI cJ ch' ma' br' tl' ++ wO a cJ ou')) :=
  hm_of (r := fun _ => r) (by decide) rfl (Nat.le_of_ble_eq_true rfl) (fun p e s m below meth c ls Q A S htab hN hK hP hD hA hS hX hl hret => g_La_judge hls S htab hN (Nat.le_refl _) (Nat.le_refl _) ⟨Nat.le_refl _, Nat.le_refl _⟩ D a cI cJ cZ ki co pr pa tw nv sv ru le li bn ip aw ns ch ma br tl ou x y hK hP hD hA hS hX hl vc
    (fun v ki co pr pa tw nv sv ru le li bn ip aw ns ch ma br tl ou ls pc H locs k j hd hk hj hv hP hD hS => by obtain ⟨rfl, rfl, rfl, rfl, rfl, rfl, rfl, rfl, rfl, rfl, rfl, rfl, rfl, rfl, rfl, rfl, rfl, rfl, rfl, rfl⟩ := hv; exact hret () ls pc H locs k j _ rfl hd hk hj trivial hP hD hS))
theorem c_La_judge_1 (l : Launch) (hls : l.stackTraces = false) (D : va_G) (a : Nat → Nat) (cI cJ cZ : ClassId) (ki : Nat → Int32) (co : Nat → Int64) (pr : Nat → Int32) (pa : Nat → Int32) (tw : Nat → Int32) (nv : Int32) (sv : Int32) (ru : Nat → Int32) (le : Nat → Int32) (li : Nat → Int32) (bn : Nat → Int32) (ip : Nat → Int32) (aw : Nat → Int32) (ns : Int32) (ch : Nat → Int32) (ma : Nat → Int32) (br : Nat → Int64) (tl : Int32) (ou : Nat → Int64) (x : Int32) (y : Int32) (hv1 : ¬ (sHas ns x && sHas nv y) = true) : Hm (S := Unit) l y_La_judge b_La_judge 5 (some .int) [(0, 17, 20, 13), (0, 17, 24, 15), (0, 17, 28, 61)] 7 112 [.ref (a 24), .int x, .int y, .ref (a 25)] D (tyA cI cJ cZ) (wX a ++ wV a cI cJ ki co pr pa tw nv sv ++ wS a cI ru le li bn ip aw ns ++ wJ a cI cJ ch ma br tl ++ wO a cJ ou) (fun _ => True) (fun _ => some (.int 1)) (fun _ => (wX a ++ wV a cI cJ ki co pr pa tw nv sv ++ wS a cI ru le li bn ip aw ns ++ wJ a cI cJ ch ma br tl ++ wO a cJ ou)) := h_La_judge l hls D a cI cJ cZ ki co pr pa tw nv sv ru le li bn ip aw ns ch ma br tl ou x y 1 ki co pr pa tw nv sv ru le li bn ip aw ns ch ma br tl ou (by
  unfold V_La_judge
  have h01 : vp_in (0 : Int32) 1 := vp_in_nI (n := 0) (by decide) (by decide)
  refine ⟨hv1, fun h => h.elim, fun E hE => ?_⟩
  subst hE
  exact ⟨fun _ => by simp, fun h => absurd h (by decide), fun h => absurd h (by decide), fun h0 h1 h2 => absurd rfl h0⟩)
theorem hd_La_judge : y_La_judge.cls ≠ "java/lang/invoke/MethodHandle" ∧ y_La_judge.cls ≠ "java/lang/invoke/VarHandle" ∧ (parseMethodDescriptor y_La_judge.desc).map (fun d => d.parameters.length) = some 4 := ⟨by decide, by decide, by decide +kernel⟩
theorem kw_La_equal : Cond.codeWith y_La_equal b_La_equal 5 (some .int) [(0, 17, 20, 13)] ∈ W0 := W0_at 741 (by decide +kernel) (by decide +kernel)
theorem s_La_equal : Cond.static y_La_equal ∈ W0 := W0_at 740 (by decide +kernel) (by decide +kernel)
def V_La_equal (ki : Nat → Int32) (co : Nat → Int64) (pr : Nat → Int32) (pa : Nat → Int32) (tw : Nat → Int32) (nv : Int32) (sv : Int32) (ou : Nat → Int64) (x : Int32) (y : Int32) (post : Int32 → (Nat → Int32) → (Nat → Int64) → (Nat → Int32) → (Nat → Int32) → (Nat → Int32) → Int32 → Int32 → (Nat → Int64) → Prop) (px : String → (Nat → Int32) → (Nat → Int64) → (Nat → Int32) → (Nat → Int32) → (Nat → Int32) → Int32 → Int32 → (Nat → Int64) → Prop) : Prop :=
  (¬ (sHas nv x && sHas nv y) = true ∧ ((False → (((bI false) = 0 → (vp_in 0 1 ∧ post 0 ki co pr pa tw nv sv (vp_updL ou (0 : Int32).toNatClampNeg 0))) ∧ (¬ (bI false) = 0 → (vp_in 0 1 ∧ post 0 ki co pr pa tw nv sv (vp_updL ou (0 : Int32).toNatClampNeg 1))))) ∧ (∀ E : String, E = IAE → ((E = IAE → post 1 ki co pr pa tw nv sv ou) ∧ (¬ E = IAE → False)))))
set_option maxHeartbeats 4000000 in
set_option maxRecDepth 100000 in
theorem g_La_equal {p : Program} {l : Launch} {e : Env} {R : Room} {s : State} {m : MethodId} {args : Array Value} {below : List Frame} {meth : Method} {c : Code} {H : Heap} {locs : List Loc} {Q : State → Prop} {ls : Array Slot} {A : Nat → Prop} (hls : l.stackTraces = false) (S : CallFix p m c b_La_equal 5 s args W0 "SchemaJudgeLaw") (htab : c.exceptionTable.toList = tableOf [(0, 17, 20, 13)]) (hN : eN s) (hRf : 7 ≤ R.frames) (hRl : 112 ≤ R.locals) (hRc : 0 + 1 ≤ R.cells ∧ 0 + 6 ≤ R.slots) (D : va_G) (a : Nat → Nat) (cI cJ cZ : ClassId) (ki : Nat → Int32) (co : Nat → Int64) (pr : Nat → Int32) (pa : Nat → Int32) (tw : Nat → Int32) (nv : Int32) (sv : Int32) (ou : Nat → Int64) (x : Int32) (y : Int32) (hK : va_K D vwCl (tyA cI cJ cZ) s) (hP : va_P D vwCl (wX a ++ wV a cI cJ ki co pr pa tw nv sv ++ wO a cJ ou) H) (hD : va_D A (wX a ++ wV a cI cJ ki co pr pa tw nv sv ++ wO a cJ ou)) (hA : ∀ q, s.heap.size ≤ q → A q) (hS : va_S A s.heap H locs) (hX : eX A s s.heap) (hl : lv_has ls 5 [(0, .ref (a 24)), (1, .int x), (2, .int y), (3, .ref (a 25))]) {post : Int32 → (Nat → Int32) → (Nat → Int64) → (Nat → Int32) → (Nat → Int32) → (Nat → Int32) → Int32 → Int32 → (Nat → Int64) → Prop} {px : String → (Nat → Int32) → (Nat → Int64) → (Nat → Int32) → (Nat → Int32) → (Nat → Int32) → Int32 → Int32 → (Nat → Int64) → Prop} (vc : V_La_equal ki co pr pa tw nv sv ou x y post px)
    (hret : ∀ (v : Int32) (ki : Nat → Int32) (co : Nat → Int64) (pr : Nat → Int32) (pa : Nat → Int32) (tw : Nat → Int32) (nv : Int32) (sv : Int32) (ou : Nat → Int64) (ls : Array Slot) (pc : Nat) (H : Heap) (locs : List Loc) (k j : Nat), decode b_La_equal pc = .ok (.ireturn, 1) → k ≤ 1 → j ≤ 6 → post v ki co pr pa tw nv sv ou → va_P D vwCl (wX a ++ wV a cI cJ ki co pr pa tw nv sv ++ wO a cJ ou) H → va_D A (wX a ++ wV a cI cJ ki co pr pa tw nv sv ++ wO a cJ ou) → va_S A s.heap H locs → W p l e R s m args below meth c H locs k j Q (F0 m pc ls [.int v])) : W p l e R s m args below meth c H locs 0 0 Q (F0 m 0 ls []) := by
  have hx := S.1
  have hb := S.2.1
  have hown := S.2.2.2.1
  have hts := S.2.2.2.2
  unfold V_La_equal at vc
  refine lv_aload_n hx hb d_La_equal_0 rfl (lv_at hl 3 rfl) ?_
  refine lv_iconst (v := 0) hx hb d_La_equal_1 (by decide) ?_
  refine lv_aload_n hx hb d_La_equal_2 rfl (lv_at hl 0 rfl) ?_
  refine lv_iload_n hx hb d_La_equal_3 rfl (lv_at hl 1 rfl) ?_
  refine lv_iload_n hx hb d_La_equal_4 rfl (lv_at hl 2 rfl) ?_
  obtain ⟨hpre, vc⟩ := vc
  refine xc_V (As := [.int x, .int y]) (rest := [.int 0, .ref (a 25)]) (wr := (wO a cJ ou)) S (c_Sj_equal l hls D a cI cJ cZ ki co pr pa tw nv sv x y hpre) k_Sj_equal i_Sj_equal e_Sj_equal o_Sj ml_La_71 hd_Sj_equal (Nat.le_trans (by decide) hRf) (Nat.le_trans (by decide) hRl) hRc (va_recv hK hP (q0 := 0) (ci := 5) rfl rfl) hK hP hD hS hA hX [0, 1, 2, 3, 4, 5, 6] [7] rfl rfl rfl (by decide) (by decide) (by decide) hl.1 rfl (Nat.le_of_ble_eq_true rfl) d_La_equal_5 (fun _ E ce q H locs hbad hce hcv hcl hP hD hS => ?_) (fun _ H locs hok hP hD hS => ?_)
  · have vc := vc.2
    have vc := vc E hbad
    have hP : va_P D vwCl (wX a ++ wV a cI cJ ki co pr pa tw nv sv ++ wO a cJ ou) H := hP.sub [1, 2, 3, 4, 5, 6, 7, 0] rfl
    have hD : va_D A (wX a ++ wV a cI cJ ki co pr pa tw nv sv ++ wO a cJ ou) := hD.sub [1, 2, 3, 4, 5, 6, 7, 0] (by decide) rfl
    by_cases hE0 : E = IAE
    · subst hE0
      have vc := vc.1 rfl
      refine vx_catch (own := "SchemaJudgeLaw") (name := IAE) hown [] ⟨0, 17, 20, 13⟩ [] htab (fun z hz => by cases hz) (by decide) (by decide) (hts _ cl_La_13) (cast_E hX (by decide +kernel)) hce hcv hcl ?_
      refine lv_astore hx hb d_La_equal_20 hl (by decide) (lv' := [(4, .ref q), (0, .ref (a 24)), (1, .int x), (2, .int y), (3, .ref (a 25))]) rfl (fun ls hl => ?_)
      refine lv_iconst (v := 1) hx hb d_La_equal_22 (by decide) ?_
      exact hret _ _ _ _ _ _ _ _ _ ls _ H locs _ _ d_La_equal_23 (by decide) (by decide) vc hP hD hS
    have vc := vc.2
    exact (vc hE0).elim
  · have vc := vc.1
    have vc := vc hok
    have hP : va_P D vwCl (wX a ++ wV a cI cJ ki co pr pa tw nv sv ++ wO a cJ ou) H := hP.sub [1, 2, 3, 4, 5, 6, 7, 0] rfl
    have hD : va_D A (wX a ++ wV a cI cJ ki co pr pa tw nv sv ++ wO a cJ ou) := hD.sub [1, 2, 3, 4, 5, 6, 7, 0] (by decide) rfl
    refine lv_if_eq (tgt := 15) hx hb d_La_equal_8 (by decide) (fun h => ?_) (fun h => ?_)
    · have vc := vc.1 h
      refine lv_lconst (v := 0) hx hb d_La_equal_15 (by decide) ?_
      obtain ⟨vcb, vc⟩ := vc
      refine va_last hx hb hK hP hD hS 7 1 rfl rfl vcb d_La_equal_16 (fun H locs hP hD hS => ?_)
      have hP : va_P D vwCl (wX a ++ wV a cI cJ ki co pr pa tw nv sv ++ wO a cJ (vp_updL ou (0 : Int32).toNatClampNeg 0)) H := hP
      have hD : va_D A (wX a ++ wV a cI cJ ki co pr pa tw nv sv ++ wO a cJ (vp_updL ou (0 : Int32).toNatClampNeg 0)) := hD
      refine lv_goto (tgt := 24) hx hb d_La_equal_17 (by decide) ?_
      refine lv_iconst (v := 0) hx hb d_La_equal_24 (by decide) ?_
      exact hret _ _ _ _ _ _ _ _ _ ls _ H locs _ _ d_La_equal_25 (by decide) (by decide) vc hP hD hS
    · have vc := vc.2 h
      refine lv_lconst (v := 1) hx hb d_La_equal_11 (by decide) ?_
      refine lv_goto (tgt := 16) hx hb d_La_equal_12 (by decide) ?_
      obtain ⟨vcb, vc⟩ := vc
      refine va_last hx hb hK hP hD hS 7 1 rfl rfl vcb d_La_equal_16 (fun H locs hP hD hS => ?_)
      have hP : va_P D vwCl (wX a ++ wV a cI cJ ki co pr pa tw nv sv ++ wO a cJ (vp_updL ou (0 : Int32).toNatClampNeg 1)) H := hP
      have hD : va_D A (wX a ++ wV a cI cJ ki co pr pa tw nv sv ++ wO a cJ (vp_updL ou (0 : Int32).toNatClampNeg 1)) := hD
      refine lv_goto (tgt := 24) hx hb d_La_equal_17 (by decide) ?_
      refine lv_iconst (v := 0) hx hb d_La_equal_24 (by decide) ?_
      exact hret _ _ _ _ _ _ _ _ _ ls _ H locs _ _ d_La_equal_25 (by decide) (by decide) vc hP hD hS
theorem h_La_equal (l : Launch) (hls : l.stackTraces = false) (D : va_G) (a : Nat → Nat) (cI cJ cZ : ClassId) (ki : Nat → Int32) (co : Nat → Int64) (pr : Nat → Int32) (pa : Nat → Int32) (tw : Nat → Int32) (nv : Int32) (sv : Int32) (ou : Nat → Int64) (x : Int32) (y : Int32) (r : Int32) (ki' : Nat → Int32) (co' : Nat → Int64) (pr' : Nat → Int32) (pa' : Nat → Int32) (tw' : Nat → Int32) (nv' : Int32) (sv' : Int32) (ou' : Nat → Int64) (vc : V_La_equal ki co pr pa tw nv sv ou x y (fun v ki co pr pa tw nv sv ou => v = r ∧ ki = ki' ∧ co = co' ∧ pr = pr' ∧ pa = pa' ∧ tw = tw' ∧ nv = nv' ∧ sv = sv' ∧ ou = ou') (fun _ _ _ _ _ _ _ _ _ => True)) : Hm (S := Unit) l y_La_equal b_La_equal 5 (some .int) [(0, 17, 20, 13)] 7 112 [.ref (a 24), .int x, .int y, .ref (a 25)] D (tyA cI cJ cZ) (wX a ++ wV a cI cJ ki co pr pa tw nv sv ++ wO a cJ ou) (fun _ => True) (fun _ => some (.int r)) (fun _ => (wX a ++ wV a cI cJ ki' co' pr' pa' tw' nv' sv' ++ wO a cJ ou')) :=
  hm_of (r := fun _ => r) (by decide) rfl (Nat.le_of_ble_eq_true rfl) (fun p e s m below meth c ls Q A S htab hN hK hP hD hA hS hX hl hret => g_La_equal hls S htab hN (Nat.le_refl _) (Nat.le_refl _) ⟨Nat.le_refl _, Nat.le_refl _⟩ D a cI cJ cZ ki co pr pa tw nv sv ou x y hK hP hD hA hS hX hl vc
    (fun v ki co pr pa tw nv sv ou ls pc H locs k j hd hk hj hv hP hD hS => by obtain ⟨rfl, rfl, rfl, rfl, rfl, rfl, rfl, rfl, rfl⟩ := hv; exact hret () ls pc H locs k j _ rfl hd hk hj trivial hP hD hS))
theorem c_La_equal_1 (l : Launch) (hls : l.stackTraces = false) (D : va_G) (a : Nat → Nat) (cI cJ cZ : ClassId) (ki : Nat → Int32) (co : Nat → Int64) (pr : Nat → Int32) (pa : Nat → Int32) (tw : Nat → Int32) (nv : Int32) (sv : Int32) (ou : Nat → Int64) (x : Int32) (y : Int32) (hv1 : ¬ (sHas nv x && sHas nv y) = true) : Hm (S := Unit) l y_La_equal b_La_equal 5 (some .int) [(0, 17, 20, 13)] 7 112 [.ref (a 24), .int x, .int y, .ref (a 25)] D (tyA cI cJ cZ) (wX a ++ wV a cI cJ ki co pr pa tw nv sv ++ wO a cJ ou) (fun _ => True) (fun _ => some (.int 1)) (fun _ => (wX a ++ wV a cI cJ ki co pr pa tw nv sv ++ wO a cJ ou)) := h_La_equal l hls D a cI cJ cZ ki co pr pa tw nv sv ou x y 1 ki co pr pa tw nv sv ou (by
  unfold V_La_equal
  have h01 : vp_in (0 : Int32) 1 := vp_in_nI (n := 0) (by decide) (by decide)
  refine ⟨hv1, fun h => h.elim, fun E hE => ?_⟩
  subst hE
  exact ⟨fun _ => by simp, fun h0 => absurd rfl h0⟩)
theorem hd_La_equal : y_La_equal.cls ≠ "java/lang/invoke/MethodHandle" ∧ y_La_equal.cls ≠ "java/lang/invoke/VarHandle" ∧ (parseMethodDescriptor y_La_equal.desc).map (fun d => d.parameters.length) = some 4 := ⟨by decide, by decide, by decide +kernel⟩
theorem kw_La_fault : Cond.codeWith y_La_fault b_La_fault 4 (some .int) [(0, 9, 12, 69)] ∈ W0 := W0_at 703 (by decide +kernel) (by decide +kernel)
theorem s_La_fault : Cond.static y_La_fault ∈ W0 := W0_at 702 (by decide +kernel) (by decide +kernel)
def V_La_fault (ch : Nat → Int32) (ma : Nat → Int32) (br : Nat → Int64) (tl : Int32) (ou : Nat → Int64) (x : Int32) (post : Int32 → (Nat → Int32) → (Nat → Int32) → (Nat → Int64) → Int32 → (Nat → Int64) → Prop) (px : String → (Nat → Int32) → (Nat → Int32) → (Nat → Int64) → Int32 → (Nat → Int64) → Prop) : Prop :=
  (¬ sIn x 0 (cntL br 960 - 1) = true ∧ ((False → (vp_in 0 1 ∧ post 0 ch ma br tl (vp_updL ou (0 : Int32).toNatClampNeg ((0 : Int32).toInt64)))) ∧ (∀ E : String, E = IOB → ((E = IOB → post 1 ch ma br tl ou) ∧ (¬ E = IOB → False)))))
set_option maxHeartbeats 4000000 in
set_option maxRecDepth 100000 in
theorem g_La_fault {p : Program} {l : Launch} {e : Env} {R : Room} {s : State} {m : MethodId} {args : Array Value} {below : List Frame} {meth : Method} {c : Code} {H : Heap} {locs : List Loc} {Q : State → Prop} {ls : Array Slot} {A : Nat → Prop} (hls : l.stackTraces = false) (S : CallFix p m c b_La_fault 4 s args W0 "SchemaJudgeLaw") (htab : c.exceptionTable.toList = tableOf [(0, 9, 12, 69)]) (hN : eN s) (hRf : 7 ≤ R.frames) (hRl : 111 ≤ R.locals) (hRc : 0 + 1 ≤ R.cells ∧ 0 + 6 ≤ R.slots) (D : va_G) (a : Nat → Nat) (cI cJ cZ : ClassId) (ch : Nat → Int32) (ma : Nat → Int32) (br : Nat → Int64) (tl : Int32) (ou : Nat → Int64) (x : Int32) (hK : va_K D vwCl (tyA cI cJ cZ) s) (hP : va_P D vwCl (wX a ++ wJ a cI cJ ch ma br tl ++ wO a cJ ou) H) (hD : va_D A (wX a ++ wJ a cI cJ ch ma br tl ++ wO a cJ ou)) (hA : ∀ q, s.heap.size ≤ q → A q) (hS : va_S A s.heap H locs) (hX : eX A s s.heap) (hl : lv_has ls 4 [(0, .ref (a 24)), (1, .int x), (2, .ref (a 25))]) {post : Int32 → (Nat → Int32) → (Nat → Int32) → (Nat → Int64) → Int32 → (Nat → Int64) → Prop} {px : String → (Nat → Int32) → (Nat → Int32) → (Nat → Int64) → Int32 → (Nat → Int64) → Prop} (vc : V_La_fault ch ma br tl ou x post px)
    (hret : ∀ (v : Int32) (ch : Nat → Int32) (ma : Nat → Int32) (br : Nat → Int64) (tl : Int32) (ou : Nat → Int64) (ls : Array Slot) (pc : Nat) (H : Heap) (locs : List Loc) (k j : Nat), decode b_La_fault pc = .ok (.ireturn, 1) → k ≤ 1 → j ≤ 6 → post v ch ma br tl ou → va_P D vwCl (wX a ++ wJ a cI cJ ch ma br tl ++ wO a cJ ou) H → va_D A (wX a ++ wJ a cI cJ ch ma br tl ++ wO a cJ ou) → va_S A s.heap H locs → W p l e R s m args below meth c H locs k j Q (F0 m pc ls [.int v])) : W p l e R s m args below meth c H locs 0 0 Q (F0 m 0 ls []) := by
  have hx := S.1
  have hb := S.2.1
  have hown := S.2.2.2.1
  have hts := S.2.2.2.2
  unfold V_La_fault at vc
  refine lv_aload_n hx hb d_La_fault_0 rfl (lv_at hl 2 rfl) ?_
  refine lv_iconst (v := 0) hx hb d_La_fault_1 (by decide) ?_
  refine lv_aload_n hx hb d_La_fault_2 rfl (lv_at hl 0 rfl) ?_
  refine lv_iload_n hx hb d_La_fault_3 rfl (lv_at hl 1 rfl) ?_
  obtain ⟨hpre, vc⟩ := vc
  refine xc_V (As := [.int x]) (rest := [.int 0, .ref (a 25)]) (wr := (wO a cJ ou)) S (c_Sj_fault l hls D a cI cJ cZ ch ma br tl x hpre) k_Sj_fault i_Sj_fault e_Sj_fault o_Sj ml_La_66 hd_Sj_fault (Nat.le_trans (by decide) hRf) (Nat.le_trans (by decide) hRl) hRc (va_recv hK hP (q0 := 0) (ci := 5) rfl rfl) hK hP hD hS hA hX [0, 1, 2, 3, 4] [5] rfl rfl rfl (by decide) (by decide) (by decide) hl.1 rfl (Nat.le_of_ble_eq_true rfl) d_La_fault_4 (fun _ E ce q H locs hbad hce hcv hcl hP hD hS => ?_) (fun _ H locs hok hP hD hS => ?_)
  · have vc := vc.2
    have vc := vc E hbad
    have hP : va_P D vwCl (wX a ++ wJ a cI cJ ch ma br tl ++ wO a cJ ou) H := hP.sub [1, 2, 3, 4, 5, 0] rfl
    have hD : va_D A (wX a ++ wJ a cI cJ ch ma br tl ++ wO a cJ ou) := hD.sub [1, 2, 3, 4, 5, 0] (by decide) rfl
    by_cases hE0 : E = IOB
    · subst hE0
      have vc := vc.1 rfl
      refine vx_catch (own := "SchemaJudgeLaw") (name := IOB) hown [] ⟨0, 9, 12, 69⟩ [] htab (fun z hz => by cases hz) (by decide) (by decide) (hts _ cl_La_69) (cast_E hX (by decide +kernel)) hce hcv hcl ?_
      refine lv_astore_n hx hb d_La_fault_12 rfl hl (by decide) (lv' := [(3, .ref q), (0, .ref (a 24)), (1, .int x), (2, .ref (a 25))]) rfl (fun ls hl => ?_)
      refine lv_iconst (v := 1) hx hb d_La_fault_13 (by decide) ?_
      exact hret _ _ _ _ _ _ ls _ H locs _ _ d_La_fault_14 (by decide) (by decide) vc hP hD hS
    have vc := vc.2
    exact (vc hE0).elim
  · have vc := vc.1
    have vc := vc hok
    have hP : va_P D vwCl (wX a ++ wJ a cI cJ ch ma br tl ++ wO a cJ ou) H := hP.sub [1, 2, 3, 4, 5, 0] rfl
    have hD : va_D A (wX a ++ wJ a cI cJ ch ma br tl ++ wO a cJ ou) := hD.sub [1, 2, 3, 4, 5, 0] (by decide) rfl
    refine lv_i2l hx hb d_La_fault_7 rfl ?_
    obtain ⟨vcb, vc⟩ := vc
    refine va_last hx hb hK hP hD hS 5 1 rfl rfl vcb d_La_fault_8 (fun H locs hP hD hS => ?_)
    have hP : va_P D vwCl (wX a ++ wJ a cI cJ ch ma br tl ++ wO a cJ (vp_updL ou (0 : Int32).toNatClampNeg ((0 : Int32).toInt64))) H := hP
    have hD : va_D A (wX a ++ wJ a cI cJ ch ma br tl ++ wO a cJ (vp_updL ou (0 : Int32).toNatClampNeg ((0 : Int32).toInt64))) := hD
    refine lv_goto (tgt := 15) hx hb d_La_fault_9 (by decide) ?_
    refine lv_iconst (v := 0) hx hb d_La_fault_15 (by decide) ?_
    exact hret _ _ _ _ _ _ ls _ H locs _ _ d_La_fault_16 (by decide) (by decide) vc hP hD hS
theorem h_La_fault (l : Launch) (hls : l.stackTraces = false) (D : va_G) (a : Nat → Nat) (cI cJ cZ : ClassId) (ch : Nat → Int32) (ma : Nat → Int32) (br : Nat → Int64) (tl : Int32) (ou : Nat → Int64) (x : Int32) (r : Int32) (ch' : Nat → Int32) (ma' : Nat → Int32) (br' : Nat → Int64) (tl' : Int32) (ou' : Nat → Int64) (vc : V_La_fault ch ma br tl ou x (fun v ch ma br tl ou => v = r ∧ ch = ch' ∧ ma = ma' ∧ br = br' ∧ tl = tl' ∧ ou = ou') (fun _ _ _ _ _ _ => True)) : Hm (S := Unit) l y_La_fault b_La_fault 4 (some .int) [(0, 9, 12, 69)] 7 111 [.ref (a 24), .int x, .ref (a 25)] D (tyA cI cJ cZ) (wX a ++ wJ a cI cJ ch ma br tl ++ wO a cJ ou) (fun _ => True) (fun _ => some (.int r)) (fun _ => (wX a ++ wJ a cI cJ ch' ma' br' tl' ++ wO a cJ ou')) :=
  hm_of (r := fun _ => r) (by decide) rfl (Nat.le_of_ble_eq_true rfl) (fun p e s m below meth c ls Q A S htab hN hK hP hD hA hS hX hl hret => g_La_fault hls S htab hN (Nat.le_refl _) (Nat.le_refl _) ⟨Nat.le_refl _, Nat.le_refl _⟩ D a cI cJ cZ ch ma br tl ou x hK hP hD hA hS hX hl vc
    (fun v ch ma br tl ou ls pc H locs k j hd hk hj hv hP hD hS => by obtain ⟨rfl, rfl, rfl, rfl, rfl, rfl⟩ := hv; exact hret () ls pc H locs k j _ rfl hd hk hj trivial hP hD hS))
theorem c_La_fault_1 (l : Launch) (hls : l.stackTraces = false) (D : va_G) (a : Nat → Nat) (cI cJ cZ : ClassId) (ch : Nat → Int32) (ma : Nat → Int32) (br : Nat → Int64) (tl : Int32) (ou : Nat → Int64) (x : Int32) (hv1 : ¬ sIn x 0 (cntL br 960 - 1) = true) : Hm (S := Unit) l y_La_fault b_La_fault 4 (some .int) [(0, 9, 12, 69)] 7 111 [.ref (a 24), .int x, .ref (a 25)] D (tyA cI cJ cZ) (wX a ++ wJ a cI cJ ch ma br tl ++ wO a cJ ou) (fun _ => True) (fun _ => some (.int 1)) (fun _ => (wX a ++ wJ a cI cJ ch ma br tl ++ wO a cJ ou)) := h_La_fault l hls D a cI cJ cZ ch ma br tl ou x 1 ch ma br tl ou (by
  unfold V_La_fault
  have h01 : vp_in (0 : Int32) 1 := vp_in_nI (n := 0) (by decide) (by decide)
  refine ⟨hv1, fun h => h.elim, fun E hE => ?_⟩
  subst hE
  exact ⟨fun _ => by simp, fun h0 => absurd rfl h0⟩)
theorem hd_La_fault : y_La_fault.cls ≠ "java/lang/invoke/MethodHandle" ∧ y_La_fault.cls ≠ "java/lang/invoke/VarHandle" ∧ (parseMethodDescriptor y_La_fault.desc).map (fun d => d.parameters.length) = some 3 := ⟨by decide, by decide, by decide +kernel⟩
