def V_Ju_weighInPlace (z : Nat) (ch : Nat → Int32) (ma : Nat → Int32) (br : Nat → Int64) (tl : Int32) (ki : Nat → Int32) (co : Nat → Int64) (pr : Nat → Int32) (pa : Nat → Int32) (tw : Nat → Int32) (nv : Int32) (sv : Int32) (ru : Nat → Int32) (le : Nat → Int32) (li : Nat → Int32) (bn : Nat → Int32) (ip : Nat → Int32) (aw : Nat → Int32) (ns : Int32) (pn : Nat → Int32) (pl : Nat → Int32) (po : Nat → Int32) (pf : Nat → Int32) (pt : Nat → Int32) (xs : Int32) (xv : Int32) (xd : Int32) (post : (Nat → Int32) → (Nat → Int32) → (Nat → Int64) → Int32 → (Nat → Int32) → (Nat → Int64) → (Nat → Int32) → (Nat → Int32) → (Nat → Int32) → Int32 → Int32 → (Nat → Int32) → (Nat → Int32) → (Nat → Int32) → (Nat → Int32) → (Nat → Int32) → (Nat → Int32) → Int32 → (Nat → Int32) → (Nat → Int32) → (Nat → Int32) → (Nat → Int32) → (Nat → Int32) → Prop) : Prop :=
  (vp_in (xs * 29 + 17) 696 ∧ (∃ J1 : (Nat → Int32) → (Nat → Int32) → (Nat → Int64) → Int32 → Prop, (((ru (xs * 29 + 17 : Int32).toNatClampNeg) = (-1) → J1 ch ma br tl) ∧ (¬ (ru (xs * 29 + 17 : Int32).toNatClampNeg) = (-1) → ((∃ n0 m0 s0 v0 d0 : Nat, JP ki co pr pa pn po ru le li bn nv ns tl z xs xv xd n0 m0 s0 v0 d0 ∧ (∃ x0 : Nat, x0 < m0 ∧ ru (xs * 29 + 17 : Int32).toNatClampNeg = nI x0) ∧ ∃ w0 : Nat, w0 < n0 ∧ xv = nI w0) ∧ (∀ (t2 : Bool) (f3 : Nat → Int32) (f4 : Nat → Int32) (f5 : Nat → Int64) (u6 : Int32), (((u6 = 0 ∨ u6 = 1) ∧ (tl = 1 → u6 = 1) ∧ ∀ (G : Sp) (R : Nat → Nat → Prop) (lv : Nat → Nat), (∃ va mk, G = gC ki co pr pa tw pn pl po pf pt ru le li bn nv.toNatClampNeg va mk) → Ctx G R lv → Ask G xs.toNatClampNeg xv.toNatClampNeg (ru (xs * 29 + 17 : Int32).toNatClampNeg : Int32).toNatClampNeg xv.toNatClampNeg → Ef G R lv xs.toNatClampNeg xv.toNatClampNeg xd.toNatClampNeg (fun x' w' => x' = (ru (xs * 29 + 17 : Int32).toNatClampNeg : Int32).toNatClampNeg ∧ w' = xv.toNatClampNeg) (fun _ => False) (fun _ => False) ((t2 = true ↔ gVa G (ru (xs * 29 + 17 : Int32).toNatClampNeg : Int32).toNatClampNeg xv.toNatClampNeg) ∧ ∀ i, i < 32 → (bt (f4 (xv.toNatClampNeg * 24 + (ru (xs * 29 + 17 : Int32).toNatClampNeg : Int32).toNatClampNeg)) i = true ↔ gMk G (ru (xs * 29 + 17 : Int32).toNatClampNeg : Int32).toNatClampNeg xv.toNatClampNeg i)) ch ma br tl f3 f4 f5 u6)) → (((bI t2) = 0 → J1 f3 f4 f5 u6) ∧ (¬ (bI t2) = 0 → (vp_in (xv * 24 + xs) 960 ∧ J1 f3 f4 (vp_updL f5 (xv * 24 + xs : Int32).toNatClampNeg ((f5 (xv * 24 + xs : Int32).toNatClampNeg) ||| (1 <<< ((17 : Int32).toInt64 &&& 63)))) u6))))))) ∧ (∀ (f8 : Nat → Int32) (f9 : Nat → Int32) (f10 : Nat → Int64) (u11 : Int32), J1 f8 f9 f10 u11 → (vp_in (xs * 29 + 18) 696 ∧ (∃ J12 : (Nat → Int32) → (Nat → Int32) → (Nat → Int64) → Int32 → Prop, (((ru (xs * 29 + 18 : Int32).toNatClampNeg) = (-1) → J12 f8 f9 f10 u11) ∧ (¬ (ru (xs * 29 + 18 : Int32).toNatClampNeg) = (-1) → ((∃ n0 m0 s0 v0 d0 : Nat, JP ki co pr pa pn po ru le li bn nv ns u11 z xs xv xd n0 m0 s0 v0 d0 ∧ ∃ x0 : Nat, x0 < m0 ∧ ru (xs * 29 + 18 : Int32).toNatClampNeg = nI x0) ∧ (∀ (t13 : Bool) (f14 : Nat → Int32) (f15 : Nat → Int32) (f16 : Nat → Int64) (u17 : Int32), (((u17 = 0 ∨ u17 = 1) ∧ (u11 = 1 → u17 = 1) ∧ ∀ (G : Sp) (R : Nat → Nat → Prop) (lv : Nat → Nat), (∃ va mk, G = gC ki co pr pa tw pn pl po pf pt ru le li bn nv.toNatClampNeg va mk) → Ctx G R lv → Ask G xs.toNatClampNeg xv.toNatClampNeg (ru (xs * 29 + 18 : Int32).toNatClampNeg : Int32).toNatClampNeg xv.toNatClampNeg → Ef G R lv xs.toNatClampNeg xv.toNatClampNeg xd.toNatClampNeg (fun x' w' => x' = (ru (xs * 29 + 18 : Int32).toNatClampNeg : Int32).toNatClampNeg ∧ w' = xv.toNatClampNeg) (fun _ => False) (fun i => gMk G (ru (xs * 29 + 18 : Int32).toNatClampNeg : Int32).toNatClampNeg xv.toNatClampNeg i) (t13 = true ↔ gVa G (ru (xs * 29 + 18 : Int32).toNatClampNeg : Int32).toNatClampNeg xv.toNatClampNeg) f8 f9 f10 u11 f14 f15 f16 u17)) → (∃ J18 : Int32 → Prop, (((bI t13) = 0 → J18 20) ∧ (¬ (bI t13) = 0 → J18 19)) ∧ (∀ (x19 : Int32), J18 x19 → ((∃ n0 m0 s0 v0 d0 : Nat, JP ki co pr pa pn po ru le li bn nv ns u17 z xs xv xd n0 m0 s0 v0 d0 ∧ ∃ k0 : Nat, (k0 = 19 ∨ k0 = 20 ∨ k0 = 21) ∧ x19 = nI k0) ∧ (∀ (f20 : Nat → Int32) (f21 : Nat → Int32) (f22 : Nat → Int64) (u23 : Int32), (((u23 = 0 ∨ u23 = 1) ∧ (u17 = 1 → u23 = 1) ∧ ∀ (G : Sp) (R : Nat → Nat → Prop) (lv : Nat → Nat), (∃ va mk, G = gC ki co pr pa tw pn pl po pf pt ru le li bn nv.toNatClampNeg va mk) → Ctx G R lv → (∀ x w, AskS G xs.toNatClampNeg xv.toNatClampNeg x19.toNatClampNeg x w → Ask G xs.toNatClampNeg xv.toNatClampNeg x w) → Ef G R lv xs.toNatClampNeg xv.toNatClampNeg xd.toNatClampNeg (AskS G xs.toNatClampNeg xv.toNatClampNeg x19.toNatClampNeg) (BadS G xs.toNatClampNeg xv.toNatClampNeg x19.toNatClampNeg) (MrkS G xs.toNatClampNeg xv.toNatClampNeg x19.toNatClampNeg) True f14 f15 f16 u17 f20 f21 f22 u23)) → J12 f20 f21 f22 u23)))))))) ∧ (∀ (f24 : Nat → Int32) (f25 : Nat → Int32) (f26 : Nat → Int64) (u27 : Int32), J12 f24 f25 f26 u27 → ((∃ n0 m0 s0 v0 d0 : Nat, JP ki co pr pa pn po ru le li bn nv ns u27 z xs xv xd n0 m0 s0 v0 d0 ∧ ∃ k0 : Nat, (k0 = 19 ∨ k0 = 20 ∨ k0 = 21) ∧ 21 = nI k0) ∧ (∀ (f28 : Nat → Int32) (f29 : Nat → Int32) (f30 : Nat → Int64) (u31 : Int32), (((u31 = 0 ∨ u31 = 1) ∧ (u27 = 1 → u31 = 1) ∧ ∀ (G : Sp) (R : Nat → Nat → Prop) (lv : Nat → Nat), (∃ va mk, G = gC ki co pr pa tw pn pl po pf pt ru le li bn nv.toNatClampNeg va mk) → Ctx G R lv → (∀ x w, AskS G xs.toNatClampNeg xv.toNatClampNeg (21 : Int32).toNatClampNeg x w → Ask G xs.toNatClampNeg xv.toNatClampNeg x w) → Ef G R lv xs.toNatClampNeg xv.toNatClampNeg xd.toNatClampNeg (AskS G xs.toNatClampNeg xv.toNatClampNeg (21 : Int32).toNatClampNeg) (BadS G xs.toNatClampNeg xv.toNatClampNeg (21 : Int32).toNatClampNeg) (MrkS G xs.toNatClampNeg xv.toNatClampNeg (21 : Int32).toNatClampNeg) True f24 f25 f26 u27 f28 f29 f30 u31)) → (∃ (I42 : Int32 → (Nat → Int32) → (Nat → Int32) → (Nat → Int64) → Int32 → Prop) (mI42 : Int32 → (Nat → Int32) → (Nat → Int32) → (Nat → Int64) → Int32 → Nat), I42 29 f28 f29 f30 u31 ∧ (∀ (x37 : Int32) (f38 : Nat → Int32) (f39 : Nat → Int32) (f40 : Nat → Int64) (u41 : Int32), I42 x37 f38 f39 f40 u41 → ((31 < x37 → post f38 f39 f40 u41 ki co pr pa tw nv sv ru le li bn ip aw ns pn pl po pf pt) ∧ (¬ 31 < x37 → ((∃ n0 m0 s0 v0 d0 : Nat, JP ki co pr pa pn po ru le li bn nv ns u41 z xs xv xd n0 m0 s0 v0 d0 ∧ ∃ k0 : Nat, k0 < 3 ∧ x37 = nI (29 + k0)) ∧ (∀ (f43 : Nat → Int32) (f44 : Nat → Int32) (f45 : Nat → Int64) (u46 : Int32), (((u46 = 0 ∨ u46 = 1) ∧ (u41 = 1 → u46 = 1) ∧ ∀ (G : Sp) (R : Nat → Nat → Prop) (lv : Nat → Nat), (∃ va mk, G = gC ki co pr pa tw pn pl po pf pt ru le li bn nv.toNatClampNeg va mk) → Ctx G R lv → Ef G R lv xs.toNatClampNeg xv.toNatClampNeg xd.toNatClampNeg (AskL G xs.toNatClampNeg xv.toNatClampNeg (x37.toNatClampNeg - 29)) (BadL G xs.toNatClampNeg xv.toNatClampNeg (x37.toNatClampNeg - 29)) (MrkL G xs.toNatClampNeg xv.toNatClampNeg (x37.toNatClampNeg - 29)) True f38 f39 f40 u41 f43 f44 f45 u46)) → (I42 (x37 + 1) f43 f44 f45 u46 ∧ mI42 (x37 + 1) f43 f44 f45 u46 < mI42 x37 f38 f39 f40 u41)))))))))))))))
set_option maxHeartbeats 4000000 in
set_option maxRecDepth 100000 in
theorem g_Ju_weighInPlace {p : Program} {l : Launch} {e : Env} {R : Room} {s : State} {m : MethodId} {args : Array Value} {below : List Frame} {meth : Method} {c : Code} {H : Heap} {locs : List Loc} {cells slots : Nat} {Q : State → Prop} {ls : Array Slot} {A : Nat → Prop} {z : Nat} (S : CallFix p m c b_Ju_weighInPlace 7 s args W0 R_Ju) (hRf : 5 * z + 13 ≤ R.frames) (hRl : 200 * z + 180 ≤ R.locals) (hRc : cells ≤ R.cells ∧ slots ≤ R.slots) (D : va_G) (a : Nat → Nat) (cI cJ cZ : ClassId) (HW : WQ l D a cI cJ cZ z) (ch : Nat → Int32) (ma : Nat → Int32) (br : Nat → Int64) (tl : Int32) (ki : Nat → Int32) (co : Nat → Int64) (pr : Nat → Int32) (pa : Nat → Int32) (tw : Nat → Int32) (nv : Int32) (sv : Int32) (ru : Nat → Int32) (le : Nat → Int32) (li : Nat → Int32) (bn : Nat → Int32) (ip : Nat → Int32) (aw : Nat → Int32) (ns : Int32) (pn : Nat → Int32) (pl : Nat → Int32) (po : Nat → Int32) (pf : Nat → Int32) (pt : Nat → Int32) (xs : Int32) (xv : Int32) (xd : Int32) (hK : va_K D vwCl (tyA cI cJ cZ) s) (hP : va_P D vwCl (wJ a cI cJ ch ma br tl ++ wV a cI cJ ki co pr pa tw nv sv ++ wS a cI ru le li bn ip aw ns ++ wL a ++ wP a cI cZ pn pl po pf pt) H) (hD : va_D A (wJ a cI cJ ch ma br tl ++ wV a cI cJ ki co pr pa tw nv sv ++ wS a cI ru le li bn ip aw ns ++ wL a ++ wP a cI cZ pn pl po pf pt)) (hA : ∀ q, s.heap.size ≤ q → A q) (hS : va_S A s.heap H locs) (hX : eX A s s.heap) (hl : lv_has ls 7 [(0, .ref (a 20)), (1, .int xs), (2, .int xv), (3, .int xd)]) {post : (Nat → Int32) → (Nat → Int32) → (Nat → Int64) → Int32 → (Nat → Int32) → (Nat → Int64) → (Nat → Int32) → (Nat → Int32) → (Nat → Int32) → Int32 → Int32 → (Nat → Int32) → (Nat → Int32) → (Nat → Int32) → (Nat → Int32) → (Nat → Int32) → (Nat → Int32) → Int32 → (Nat → Int32) → (Nat → Int32) → (Nat → Int32) → (Nat → Int32) → (Nat → Int32) → Prop} (vc : V_Ju_weighInPlace z ch ma br tl ki co pr pa tw nv sv ru le li bn ip aw ns pn pl po pf pt xs xv xd post)
    (hret : ∀ (ch : Nat → Int32) (ma : Nat → Int32) (br : Nat → Int64) (tl : Int32) (ki : Nat → Int32) (co : Nat → Int64) (pr : Nat → Int32) (pa : Nat → Int32) (tw : Nat → Int32) (nv : Int32) (sv : Int32) (ru : Nat → Int32) (le : Nat → Int32) (li : Nat → Int32) (bn : Nat → Int32) (ip : Nat → Int32) (aw : Nat → Int32) (ns : Int32) (pn : Nat → Int32) (pl : Nat → Int32) (po : Nat → Int32) (pf : Nat → Int32) (pt : Nat → Int32) (ls : Array Slot) (pc : Nat) (H : Heap) (locs : List Loc), decode b_Ju_weighInPlace pc = .ok (.return_, 1) → post ch ma br tl ki co pr pa tw nv sv ru le li bn ip aw ns pn pl po pf pt → va_P D vwCl (wJ a cI cJ ch ma br tl ++ wV a cI cJ ki co pr pa tw nv sv ++ wS a cI ru le li bn ip aw ns ++ wL a ++ wP a cI cZ pn pl po pf pt) H → va_D A (wJ a cI cJ ch ma br tl ++ wV a cI cJ ki co pr pa tw nv sv ++ wS a cI ru le li bn ip aw ns ++ wL a ++ wP a cI cZ pn pl po pf pt) → va_S A s.heap H locs → W p l e R s m args below meth c H locs cells slots Q (F0 m pc ls [])) : W p l e R s m args below meth c H locs cells slots Q (F0 m 0 ls []) := by
  have hx := S.1
  have hb := S.2.1
  have hown := S.2.2.2.1
  have hts := S.2.2.2.2
  unfold V_Ju_weighInPlace at vc
  refine lv_aload_n hx hb d_Ju_weighInPlace_0 rfl (lv_at hl 0 rfl) ?_
  refine va_get (D := D) (ci := 0) (v := .ref (a 12)) (C := R_Ju) (T := F_Ju) (N := 7) hx hb hts in_Ju hown hK hP 0 rfl rfl 1 (by decide) (hts _ fl_Ju_17) (fun _ h => h) rfl d_Ju_weighInPlace_1 ?_
  refine lv_iload_n hx hb d_Ju_weighInPlace_4 rfl (lv_at hl 1 rfl) ?_
  refine lv_bipush (v := 17) hx hb d_Ju_weighInPlace_5 (by decide) ?_
  obtain ⟨hpre, vc⟩ := vc
  refine pc_V (As := [.int xs, .int 17]) (rest := []) S (c_Sc_ruleOf l D a cI cJ cZ ru le li bn ip aw ns xs 17 hpre) wB_blind k_Sc_ruleOf i_Sc_ruleOf e_Sc_ruleOf o_Sc ml_Ju_78 hd_Sc_ruleOf (Nat.le_trans (by omega) hRf) (Nat.le_trans (by omega) hRl) hRc (va_recv hK hP (q0 := 10) (ci := 3) rfl rfl) (wB_at (hP.sub (ws' := (wS a cI ru le li bn ip aw ns)) [10, 11, 12, 13, 14, 15, 16] rfl) hK) hl.1 rfl (Nat.le_of_ble_eq_true rfl) d_Ju_weighInPlace_7 ?_
  refine lv_istore hx hb d_Ju_weighInPlace_10 hl (by decide) (lv' := [(4, .int (ru (xs * 29 + 17 : Int32).toNatClampNeg)), (0, .ref (a 20)), (1, .int xs), (2, .int xv), (3, .int xd)]) rfl (fun ls hl => ?_)
  refine lv_iload hx hb d_Ju_weighInPlace_12 (lv_at hl 0 rfl) ?_
  refine lv_iconst (v := (-1)) hx hb d_Ju_weighInPlace_14 (by decide) ?_
  obtain ⟨J1, vc, vc2⟩ := vc
  have jJ1 : ∀ (f8 : Nat → Int32) (f9 : Nat → Int32) (f10 : Nat → Int64) (u11 : Int32) (ls : Array Slot) (H : Heap) (locs : List Loc), J1 f8 f9 f10 u11 → lv_has ls 7 [(0, .ref (a 20)), (1, .int xs), (2, .int xv), (3, .int xd), (4, .int (ru (xs * 29 + 17 : Int32).toNatClampNeg))] → va_P D vwCl (wJ a cI cJ f8 f9 f10 u11 ++ wV a cI cJ ki co pr pa tw nv sv ++ wS a cI ru le li bn ip aw ns ++ wL a ++ wP a cI cZ pn pl po pf pt) H → va_D A (wJ a cI cJ f8 f9 f10 u11 ++ wV a cI cJ ki co pr pa tw nv sv ++ wS a cI ru le li bn ip aw ns ++ wL a ++ wP a cI cZ pn pl po pf pt) → va_S A s.heap H locs → W p l e R s m args below meth c H locs cells slots Q (F0 m 39 ls []) := by
    intro f8 f9 f10 u11 ls H locs vc hl hP hD hS
    have vc := vc2 f8 f9 f10 u11 vc
    refine lv_aload_n hx hb d_Ju_weighInPlace_39 rfl (lv_at hl 0 rfl) ?_
    refine va_get (D := D) (ci := 0) (v := .ref (a 12)) (C := R_Ju) (T := F_Ju) (N := 7) hx hb hts in_Ju hown hK hP 0 rfl rfl 1 (by decide) (hts _ fl_Ju_17) (fun _ h => h) rfl d_Ju_weighInPlace_40 ?_
    refine lv_iload_n hx hb d_Ju_weighInPlace_43 rfl (lv_at hl 1 rfl) ?_
    refine lv_bipush (v := 18) hx hb d_Ju_weighInPlace_44 (by decide) ?_
    obtain ⟨hpre, vc⟩ := vc
    refine pc_V (As := [.int xs, .int 18]) (rest := []) S (c_Sc_ruleOf l D a cI cJ cZ ru le li bn ip aw ns xs 18 hpre) wB_blind k_Sc_ruleOf i_Sc_ruleOf e_Sc_ruleOf o_Sc ml_Ju_78 hd_Sc_ruleOf (Nat.le_trans (by omega) hRf) (Nat.le_trans (by omega) hRl) hRc (va_recv hK hP (q0 := 10) (ci := 3) rfl rfl) (wB_at (hP.sub (ws' := (wS a cI ru le li bn ip aw ns)) [10, 11, 12, 13, 14, 15, 16] rfl) hK) hl.1 rfl (Nat.le_of_ble_eq_true rfl) d_Ju_weighInPlace_46 ?_
    refine lv_istore hx hb d_Ju_weighInPlace_49 hl (by decide) (lv' := [(5, .int (ru (xs * 29 + 18 : Int32).toNatClampNeg)), (0, .ref (a 20)), (1, .int xs), (2, .int xv), (3, .int xd), (4, .int (ru (xs * 29 + 17 : Int32).toNatClampNeg))]) rfl (fun ls hl => ?_)
    refine lv_iload hx hb d_Ju_weighInPlace_51 (lv_at hl 0 rfl) ?_
    refine lv_iconst (v := (-1)) hx hb d_Ju_weighInPlace_53 (by decide) ?_
    obtain ⟨J12, vc, vc2⟩ := vc
    have jJ12 : ∀ (f24 : Nat → Int32) (f25 : Nat → Int32) (f26 : Nat → Int64) (u27 : Int32) (ls : Array Slot) (H : Heap) (locs : List Loc), J12 f24 f25 f26 u27 → lv_has ls 7 [(0, .ref (a 20)), (1, .int xs), (2, .int xv), (3, .int xd), (4, .int (ru (xs * 29 + 17 : Int32).toNatClampNeg)), (5, .int (ru (xs * 29 + 18 : Int32).toNatClampNeg))] → va_P D vwCl (wJ a cI cJ f24 f25 f26 u27 ++ wV a cI cJ ki co pr pa tw nv sv ++ wS a cI ru le li bn ip aw ns ++ wL a ++ wP a cI cZ pn pl po pf pt) H → va_D A (wJ a cI cJ f24 f25 f26 u27 ++ wV a cI cJ ki co pr pa tw nv sv ++ wS a cI ru le li bn ip aw ns ++ wL a ++ wP a cI cZ pn pl po pf pt) → va_S A s.heap H locs → W p l e R s m args below meth c H locs cells slots Q (F0 m 83 ls []) := by
      intro f24 f25 f26 u27 ls H locs vc hl hP hD hS
      have vc := vc2 f24 f25 f26 u27 vc
      refine lv_aload_n hx hb d_Ju_weighInPlace_83 rfl (lv_at hl 0 rfl) ?_
      refine lv_iload_n hx hb d_Ju_weighInPlace_84 rfl (lv_at hl 1 rfl) ?_
      refine lv_iload_n hx hb d_Ju_weighInPlace_85 rfl (lv_at hl 2 rfl) ?_
      refine lv_bipush (v := 21) hx hb d_Ju_weighInPlace_86 (by decide) ?_
      refine lv_iload_n hx hb d_Ju_weighInPlace_88 rfl (lv_at hl 3 rfl) ?_
      obtain ⟨hpre, vc⟩ := vc
      refine ec_V (As := [.int xs, .int xv, .int 21, .int xd]) (rest := []) (wr := ([] : va_W)) S (c_Ju_weighSame l D a cI cJ cZ z HW f24 f25 f26 u27 ki co pr pa tw nv sv ru le li bn ip aw ns pn pl po pf pt xs xv 21 xd hpre) k_Ju_weighSame i_Ju_weighSame e_Ju_weighSame o_Ju ml_Ju_120 hd_Ju_weighSame (Nat.le_trans (by omega) hRf) (Nat.le_trans (by omega) hRl) hRc (va_recv hK hP (q0 := 0) (ci := 0) rfl rfl) hK hP hD hS hA hX [0, 1, 2, 3, 4, 5, 6, 7, 8, 9, 10, 11, 12, 13, 14, 15, 16, 17, 18, 19, 20, 21, 22, 23] [] rfl rfl rfl (by decide) (by decide) (by decide) hl.1 rfl (Nat.le_of_ble_eq_true rfl) d_Ju_weighInPlace_89 (fun u H locs hu hP hD hS => ?_)
      obtain ⟨f28, f29, f30, u31⟩ := u
      have vc := vc f28 f29 f30 u31 hu
      clear hu
      have hP : va_P D vwCl (wJ a cI cJ f28 f29 f30 u31 ++ wV a cI cJ ki co pr pa tw nv sv ++ wS a cI ru le li bn ip aw ns ++ wL a ++ wP a cI cZ pn pl po pf pt) H := hP
      have hD : va_D A (wJ a cI cJ f28 f29 f30 u31 ++ wV a cI cJ ki co pr pa tw nv sv ++ wS a cI ru le li bn ip aw ns ++ wL a ++ wP a cI cZ pn pl po pf pt) := hD
      refine lv_bipush (v := 29) hx hb d_Ju_weighInPlace_92 (by decide) ?_
      refine lv_istore hx hb d_Ju_weighInPlace_94 hl (by decide) (lv' := [(6, .int 29), (0, .ref (a 20)), (1, .int xs), (2, .int xv), (3, .int xd), (4, .int (ru (xs * 29 + 17 : Int32).toNatClampNeg)), (5, .int (ru (xs * 29 + 18 : Int32).toNatClampNeg))]) rfl (fun ls hl => ?_)
      obtain ⟨I42, mI42, vc0, vcs⟩ := vc
      have lI42 : ∀ n : Nat, ∀ (x37 : Int32) (f38 : Nat → Int32) (f39 : Nat → Int32) (f40 : Nat → Int64) (u41 : Int32) (ls : Array Slot) (H : Heap) (locs : List Loc), I42 x37 f38 f39 f40 u41 → mI42 x37 f38 f39 f40 u41 < n → lv_has ls 7 [(0, .ref (a 20)), (1, .int xs), (2, .int xv), (3, .int xd), (4, .int (ru (xs * 29 + 17 : Int32).toNatClampNeg)), (5, .int (ru (xs * 29 + 18 : Int32).toNatClampNeg)), (6, .int x37)] → va_P D vwCl (wJ a cI cJ f38 f39 f40 u41 ++ wV a cI cJ ki co pr pa tw nv sv ++ wS a cI ru le li bn ip aw ns ++ wL a ++ wP a cI cZ pn pl po pf pt) H → va_D A (wJ a cI cJ f38 f39 f40 u41 ++ wV a cI cJ ki co pr pa tw nv sv ++ wS a cI ru le li bn ip aw ns ++ wL a ++ wP a cI cZ pn pl po pf pt) → va_S A s.heap H locs → W p l e R s m args below meth c H locs cells slots Q (F0 m 96 ls []) := by
        intro n
        induction n with
        | zero => intro x37 f38 f39 f40 u41 ls H locs _ h; exact absurd h (Nat.not_lt_zero _)
        | succ n ihI42 =>
          intro x37 f38 f39 f40 u41 ls H locs vc hmI42 hl hP hD hS
          have vc := vcs x37 f38 f39 f40 u41 vc
          refine lv_iload hx hb d_Ju_weighInPlace_96 (lv_at hl 6 rfl) ?_
          refine lv_bipush (v := 31) hx hb d_Ju_weighInPlace_98 (by decide) ?_
          refine lv_icmp_gt (tgt := 118) hx hb d_Ju_weighInPlace_100 (by decide) (fun h => ?_) (fun h => ?_)
          · have vc := vc.1 h
            exact hret _ _ _ _ _ _ _ _ _ _ _ _ _ _ _ _ _ _ _ _ _ _ _ ls _ H locs d_Ju_weighInPlace_118 vc hP hD hS
          · have vc := vc.2 h
            refine lv_aload_n hx hb d_Ju_weighInPlace_103 rfl (lv_at hl 0 rfl) ?_
            refine lv_iload_n hx hb d_Ju_weighInPlace_104 rfl (lv_at hl 1 rfl) ?_
            refine lv_iload_n hx hb d_Ju_weighInPlace_105 rfl (lv_at hl 2 rfl) ?_
            refine lv_iload hx hb d_Ju_weighInPlace_106 (lv_at hl 6 rfl) ?_
            refine lv_iload_n hx hb d_Ju_weighInPlace_108 rfl (lv_at hl 3 rfl) ?_
            obtain ⟨hpre, vc⟩ := vc
            refine ec_V (As := [.int xs, .int xv, .int x37, .int xd]) (rest := []) (wr := ([] : va_W)) S (c_Ju_weighList l D a cI cJ cZ z HW f38 f39 f40 u41 ki co pr pa tw nv sv ru le li bn ip aw ns pn pl po pf pt xs xv x37 xd hpre) k_Ju_weighList i_Ju_weighList e_Ju_weighList o_Ju ml_Ju_123 hd_Ju_weighList (Nat.le_trans (by omega) hRf) (Nat.le_trans (by omega) hRl) hRc (va_recv hK hP (q0 := 0) (ci := 0) rfl rfl) hK hP hD hS hA hX [0, 1, 2, 3, 4, 5, 6, 7, 8, 9, 10, 11, 12, 13, 14, 15, 16, 17, 18, 19, 20, 21, 22, 23] [] rfl rfl rfl (by decide) (by decide) (by decide) hl.1 rfl (Nat.le_of_ble_eq_true rfl) d_Ju_weighInPlace_109 (fun u H locs hu hP hD hS => ?_)
            obtain ⟨f43, f44, f45, u46⟩ := u
            have vc := vc f43 f44 f45 u46 hu
            clear hu
            have hP : va_P D vwCl (wJ a cI cJ f43 f44 f45 u46 ++ wV a cI cJ ki co pr pa tw nv sv ++ wS a cI ru le li bn ip aw ns ++ wL a ++ wP a cI cZ pn pl po pf pt) H := hP
            have hD : va_D A (wJ a cI cJ f43 f44 f45 u46 ++ wV a cI cJ ki co pr pa tw nv sv ++ wS a cI ru le li bn ip aw ns ++ wL a ++ wP a cI cZ pn pl po pf pt) := hD
            refine lv_iinc (k := 6) (v := x37 + 1) hx hb d_Ju_weighInPlace_112 hl rfl rfl (by decide) (lv' := [(6, .int (x37 + 1)), (0, .ref (a 20)), (1, .int xs), (2, .int xv), (3, .int xd), (4, .int (ru (xs * 29 + 17 : Int32).toNatClampNeg)), (5, .int (ru (xs * 29 + 18 : Int32).toNatClampNeg))]) rfl (fun ls hl => ?_)
            refine lv_goto (tgt := 96) hx hb d_Ju_weighInPlace_115 (by decide) ?_
            exact ihI42 (x37 + 1) f43 f44 f45 u46 ls H locs vc.1 (Nat.lt_of_lt_of_le vc.2 (Nat.le_of_lt_succ hmI42)) (lv_sub hl [1, 2, 3, 4, 5, 6, 0] rfl) hP hD hS
      exact lI42 _ 29 f28 f29 f30 u31 ls H locs vc0 (Nat.lt_succ_self _) (lv_sub hl [1, 2, 3, 4, 5, 6, 0] rfl) hP hD hS
    clear vc2
    refine lv_icmp_eq (tgt := 83) hx hb d_Ju_weighInPlace_54 (by decide) (fun h => ?_) (fun h => ?_)
    · have vc := vc.1 h
      exact jJ12 f8 f9 f10 u11 ls H locs vc (lv_sub hl [1, 2, 3, 4, 5, 0] rfl) hP hD hS
    · have vc := vc.2 h
      refine lv_aload_n hx hb d_Ju_weighInPlace_57 rfl (lv_at hl 1 rfl) ?_
      refine lv_iload_n hx hb d_Ju_weighInPlace_58 rfl (lv_at hl 2 rfl) ?_
      refine lv_iload_n hx hb d_Ju_weighInPlace_59 rfl (lv_at hl 3 rfl) ?_
      refine lv_aload_n hx hb d_Ju_weighInPlace_60 rfl (lv_at hl 1 rfl) ?_
      refine lv_iload_n hx hb d_Ju_weighInPlace_61 rfl (lv_at hl 2 rfl) ?_
      refine lv_iload_n hx hb d_Ju_weighInPlace_62 rfl (lv_at hl 3 rfl) ?_
      refine lv_iload hx hb d_Ju_weighInPlace_63 (lv_at hl 0 rfl) ?_
      refine lv_iload_n hx hb d_Ju_weighInPlace_65 rfl (lv_at hl 4 rfl) ?_
      obtain ⟨hpre, vc⟩ := vc
      refine ec_V (As := [.int xs, .int xv, .int (ru (xs * 29 + 18 : Int32).toNatClampNeg), .int xd]) (rest := [.int xv, .int xs, .ref (a 20)]) (wr := ([] : va_W)) S (c_Ju_adopt l D a cI cJ cZ z HW f8 f9 f10 u11 ki co pr pa tw nv sv ru le li bn ip aw ns pn pl po pf pt xs xv (ru (xs * 29 + 18 : Int32).toNatClampNeg) xd hpre) k_Ju_adopt i_Ju_adopt e_Ju_adopt o_Ju ml_Ju_116 hd_Ju_adopt (Nat.le_trans (by omega) hRf) (Nat.le_trans (by omega) hRl) hRc (va_recv hK hP (q0 := 0) (ci := 0) rfl rfl) hK hP hD hS hA hX [0, 1, 2, 3, 4, 5, 6, 7, 8, 9, 10, 11, 12, 13, 14, 15, 16, 17, 18, 19, 20, 21, 22, 23] [] rfl rfl rfl (by decide) (by decide) (by decide) hl.1 rfl (Nat.le_of_ble_eq_true rfl) d_Ju_weighInPlace_66 (fun u H locs hu hP hD hS => ?_)
      obtain ⟨t13, f14, f15, f16, u17⟩ := u
      have vc := vc t13 f14 f15 f16 u17 hu
      clear hu
      have hP : va_P D vwCl (wJ a cI cJ f14 f15 f16 u17 ++ wV a cI cJ ki co pr pa tw nv sv ++ wS a cI ru le li bn ip aw ns ++ wL a ++ wP a cI cZ pn pl po pf pt) H := hP
      have hD : va_D A (wJ a cI cJ f14 f15 f16 u17 ++ wV a cI cJ ki co pr pa tw nv sv ++ wS a cI ru le li bn ip aw ns ++ wL a ++ wP a cI cZ pn pl po pf pt) := hD
      obtain ⟨J18, vc, vc2⟩ := vc
      have jJ18 : ∀ (x19 : Int32) (ls : Array Slot) (H : Heap) (locs : List Loc), J18 x19 → lv_has ls 7 [(0, .ref (a 20)), (1, .int xs), (2, .int xv), (3, .int xd), (4, .int (ru (xs * 29 + 17 : Int32).toNatClampNeg)), (5, .int (ru (xs * 29 + 18 : Int32).toNatClampNeg))] → va_P D vwCl (wJ a cI cJ f14 f15 f16 u17 ++ wV a cI cJ ki co pr pa tw nv sv ++ wS a cI ru le li bn ip aw ns ++ wL a ++ wP a cI cZ pn pl po pf pt) H → va_D A (wJ a cI cJ f14 f15 f16 u17 ++ wV a cI cJ ki co pr pa tw nv sv ++ wS a cI ru le li bn ip aw ns ++ wL a ++ wP a cI cZ pn pl po pf pt) → va_S A s.heap H locs → W p l e R s m args below meth c H locs cells slots Q (F0 m 79 ls [.int x19, .int xv, .int xs, .ref (a 20)]) := by
        intro x19 ls H locs vc hl hP hD hS
        have vc := vc2 x19 vc
        refine lv_iload_n hx hb d_Ju_weighInPlace_79 rfl (lv_at hl 3 rfl) ?_
        obtain ⟨hpre, vc⟩ := vc
        refine ec_V (As := [.int xs, .int xv, .int x19, .int xd]) (rest := []) (wr := ([] : va_W)) S (c_Ju_weighSame l D a cI cJ cZ z HW f14 f15 f16 u17 ki co pr pa tw nv sv ru le li bn ip aw ns pn pl po pf pt xs xv x19 xd hpre) k_Ju_weighSame i_Ju_weighSame e_Ju_weighSame o_Ju ml_Ju_120 hd_Ju_weighSame (Nat.le_trans (by omega) hRf) (Nat.le_trans (by omega) hRl) hRc (va_recv hK hP (q0 := 0) (ci := 0) rfl rfl) hK hP hD hS hA hX [0, 1, 2, 3, 4, 5, 6, 7, 8, 9, 10, 11, 12, 13, 14, 15, 16, 17, 18, 19, 20, 21, 22, 23] [] rfl rfl rfl (by decide) (by decide) (by decide) hl.1 rfl (Nat.le_of_ble_eq_true rfl) d_Ju_weighInPlace_80 (fun u H locs hu hP hD hS => ?_)
        obtain ⟨f20, f21, f22, u23⟩ := u
        have vc := vc f20 f21 f22 u23 hu
        clear hu
        have hP : va_P D vwCl (wJ a cI cJ f20 f21 f22 u23 ++ wV a cI cJ ki co pr pa tw nv sv ++ wS a cI ru le li bn ip aw ns ++ wL a ++ wP a cI cZ pn pl po pf pt) H := hP
        have hD : va_D A (wJ a cI cJ f20 f21 f22 u23 ++ wV a cI cJ ki co pr pa tw nv sv ++ wS a cI ru le li bn ip aw ns ++ wL a ++ wP a cI cZ pn pl po pf pt) := hD
        exact jJ12 f20 f21 f22 u23 ls H locs vc (lv_sub hl [0, 1, 2, 3, 4, 5] rfl) hP hD hS
      clear vc2
      refine lv_if_eq (tgt := 77) hx hb d_Ju_weighInPlace_69 (by decide) (fun h => ?_) (fun h => ?_)
      · have vc := vc.1 h
        refine lv_bipush (v := 20) hx hb d_Ju_weighInPlace_77 (by decide) ?_
        exact jJ18 20 ls H locs vc (lv_sub hl [1, 2, 3, 4, 5, 0] rfl) hP hD hS
      · have vc := vc.2 h
        refine lv_bipush (v := 19) hx hb d_Ju_weighInPlace_72 (by decide) ?_
        refine lv_goto (tgt := 79) hx hb d_Ju_weighInPlace_74 (by decide) ?_
        exact jJ18 19 ls H locs vc (lv_sub hl [1, 2, 3, 4, 5, 0] rfl) hP hD hS
  clear vc2
  refine lv_icmp_eq (tgt := 39) hx hb d_Ju_weighInPlace_15 (by decide) (fun h => ?_) (fun h => ?_)
  · have vc := vc.1 h
    exact jJ1 ch ma br tl ls H locs vc (lv_sub hl [1, 2, 3, 4, 0] rfl) hP hD hS
  · have vc := vc.2 h
    refine lv_aload_n hx hb d_Ju_weighInPlace_18 rfl (lv_at hl 1 rfl) ?_
    refine lv_iload_n hx hb d_Ju_weighInPlace_19 rfl (lv_at hl 2 rfl) ?_
    refine lv_iload_n hx hb d_Ju_weighInPlace_20 rfl (lv_at hl 3 rfl) ?_
    refine lv_iload hx hb d_Ju_weighInPlace_21 (lv_at hl 0 rfl) ?_
    refine lv_iload_n hx hb d_Ju_weighInPlace_23 rfl (lv_at hl 3 rfl) ?_
    refine lv_iload_n hx hb d_Ju_weighInPlace_24 rfl (lv_at hl 4 rfl) ?_
    obtain ⟨hpre, vc⟩ := vc
    refine ec_V (As := [.int xs, .int xv, .int (ru (xs * 29 + 17 : Int32).toNatClampNeg), .int xv, .int xd]) (rest := []) (wr := ([] : va_W)) S (c_Ju_ask l D a cI cJ cZ z HW ch ma br tl ki co pr pa tw nv sv ru le li bn ip aw ns pn pl po pf pt xs xv (ru (xs * 29 + 17 : Int32).toNatClampNeg) xv xd hpre) k_Ju_ask i_Ju_ask e_Ju_ask o_Ju ml_Ju_112 hd_Ju_ask (Nat.le_trans (by omega) hRf) (Nat.le_trans (by omega) hRl) hRc (va_recv hK hP (q0 := 0) (ci := 0) rfl rfl) hK hP hD hS hA hX [0, 1, 2, 3, 4, 5, 6, 7, 8, 9, 10, 11, 12, 13, 14, 15, 16, 17, 18, 19, 20, 21, 22, 23] [] rfl rfl rfl (by decide) (by decide) (by decide) hl.1 rfl (Nat.le_of_ble_eq_true rfl) d_Ju_weighInPlace_25 (fun u H locs hu hP hD hS => ?_)
    obtain ⟨t2, f3, f4, f5, u6⟩ := u
    have vc := vc t2 f3 f4 f5 u6 hu
    clear hu
    have hP : va_P D vwCl (wJ a cI cJ f3 f4 f5 u6 ++ wV a cI cJ ki co pr pa tw nv sv ++ wS a cI ru le li bn ip aw ns ++ wL a ++ wP a cI cZ pn pl po pf pt) H := hP
    have hD : va_D A (wJ a cI cJ f3 f4 f5 u6 ++ wV a cI cJ ki co pr pa tw nv sv ++ wS a cI ru le li bn ip aw ns ++ wL a ++ wP a cI cZ pn pl po pf pt) := hD
    refine lv_if_eq (tgt := 39) hx hb d_Ju_weighInPlace_28 (by decide) (fun h => ?_) (fun h => ?_)
    · have vc := vc.1 h
      exact jJ1 f3 f4 f5 u6 ls H locs vc (lv_sub hl [1, 2, 3, 4, 0] rfl) hP hD hS
    · have vc := vc.2 h
      refine lv_aload_n hx hb d_Ju_weighInPlace_31 rfl (lv_at hl 1 rfl) ?_
      refine lv_iload_n hx hb d_Ju_weighInPlace_32 rfl (lv_at hl 2 rfl) ?_
      refine lv_iload_n hx hb d_Ju_weighInPlace_33 rfl (lv_at hl 3 rfl) ?_
      refine lv_bipush (v := 17) hx hb d_Ju_weighInPlace_34 (by decide) ?_
      obtain ⟨hpre, vc⟩ := vc
      refine wc_V (As := [.int xs, .int xv, .int 17]) (rest := []) (wr := (wV a cI cJ ki co pr pa tw nv sv ++ wS a cI ru le li bn ip aw ns ++ wL a ++ wP a cI cZ pn pl po pf pt)) S (c_Ju_fail l D a cI cJ cZ f3 f4 f5 u6 xs xv 17 hpre) k_Ju_fail i_Ju_fail e_Ju_fail o_Ju ml_Ju_87 hd_Ju_fail (Nat.le_trans (by omega) hRf) (Nat.le_trans (by omega) hRl) hRc (va_recv hK hP (q0 := 0) (ci := 0) rfl rfl) hK hP hD hS hA [0, 1, 2, 3] [4, 5, 6, 7, 8, 9, 10, 11, 12, 13, 14, 15, 16, 17, 18, 19, 20, 21, 22, 23] rfl rfl rfl (by decide) (by decide) (by decide) hl.1 rfl (Nat.le_of_ble_eq_true rfl) d_Ju_weighInPlace_36 (fun _ H locs _ hP hD hS => ?_)
      have hP : va_P D vwCl (wJ a cI cJ f3 f4 (vp_updL f5 (xv * 24 + xs : Int32).toNatClampNeg ((f5 (xv * 24 + xs : Int32).toNatClampNeg) ||| (1 <<< ((17 : Int32).toInt64 &&& 63)))) u6 ++ wV a cI cJ ki co pr pa tw nv sv ++ wS a cI ru le li bn ip aw ns ++ wL a ++ wP a cI cZ pn pl po pf pt) H := hP.sub [20, 21, 22, 23, 0, 1, 2, 3, 4, 5, 6, 7, 8, 9, 10, 11, 12, 13, 14, 15, 16, 17, 18, 19] rfl
      have hD : va_D A (wJ a cI cJ f3 f4 (vp_updL f5 (xv * 24 + xs : Int32).toNatClampNeg ((f5 (xv * 24 + xs : Int32).toNatClampNeg) ||| (1 <<< ((17 : Int32).toInt64 &&& 63)))) u6 ++ wV a cI cJ ki co pr pa tw nv sv ++ wS a cI ru le li bn ip aw ns ++ wL a ++ wP a cI cZ pn pl po pf pt) := hD.sub [20, 21, 22, 23, 0, 1, 2, 3, 4, 5, 6, 7, 8, 9, 10, 11, 12, 13, 14, 15, 16, 17, 18, 19] (by decide) rfl
      exact jJ1 f3 f4 (vp_updL f5 (xv * 24 + xs : Int32).toNatClampNeg ((f5 (xv * 24 + xs : Int32).toNatClampNeg) ||| (1 <<< ((17 : Int32).toInt64 &&& 63)))) u6 ls H locs vc (lv_sub hl [1, 2, 3, 4, 0] rfl) hP hD hS
set_option maxHeartbeats 4000000 in
theorem v_Ju_weighInPlace (z : Nat) (ch : Nat → Int32) (ma : Nat → Int32) (br : Nat → Int64) (tl : Int32) (ki : Nat → Int32) (co : Nat → Int64) (pr : Nat → Int32) (pa : Nat → Int32) (tw : Nat → Int32) (nv : Int32) (sv : Int32) (ru : Nat → Int32) (le : Nat → Int32) (li : Nat → Int32) (bn : Nat → Int32) (ip : Nat → Int32) (aw : Nat → Int32) (ns : Int32) (pn : Nat → Int32) (pl : Nat → Int32) (po : Nat → Int32) (pf : Nat → Int32) (pt : Nat → Int32) (xs : Int32) (xv : Int32) (xd : Int32) (hpre : (∃ n0 m0 s0 v0 d0 : Nat, JP ki co pr pa pn po ru le li bn nv ns tl z xs xv xd n0 m0 s0 v0 d0)) : V_Ju_weighInPlace z ch ma br tl ki co pr pa tw nv sv ru le li bn ip aw ns pn pl po pf pt xs xv xd (fun ch' ma' br' tl' ki' co' pr' pa' tw' nv' sv' ru' le' li' bn' ip' aw' ns' pn' pl' po' pf' pt' => (((tl' = 0 ∨ tl' = 1) ∧ (tl = 1 → tl' = 1) ∧ ∀ (G : Sp) (R : Nat → Nat → Prop) (lv : Nat → Nat), (∃ va mk, G = gC ki co pr pa tw pn pl po pf pt ru le li bn nv.toNatClampNeg va mk) → Ctx G R lv → Ef G R lv xs.toNatClampNeg xv.toNatClampNeg xd.toNatClampNeg (AskIn G xs.toNatClampNeg xv.toNatClampNeg) (BadIn G xs.toNatClampNeg xv.toNatClampNeg) (MrkIn G xs.toNatClampNeg xv.toNatClampNeg) True ch ma br tl ch' ma' br' tl')) ∧ ki' = ki ∧ co' = co ∧ pr' = pr ∧ pa' = pa ∧ tw' = tw ∧ nv' = nv ∧ sv' = sv ∧ ru' = ru ∧ le' = le ∧ li' = li ∧ bn' = bn ∧ ip' = ip ∧ aw' = aw ∧ ns' = ns ∧ pn' = pn ∧ pl' = pl ∧ po' = po ∧ pf' = pf ∧ pt' = pt) := by
  have main : ∀ post : (Nat → Int32) → (Nat → Int32) → (Nat → Int64) → Int32 → (Nat → Int32) → (Nat → Int64) → (Nat → Int32) → (Nat → Int32) → (Nat → Int32) → Int32 → Int32 → (Nat → Int32) → (Nat → Int32) → (Nat → Int32) → (Nat → Int32) → (Nat → Int32) → (Nat → Int32) → Int32 → (Nat → Int32) → (Nat → Int32) → (Nat → Int32) → (Nat → Int32) → (Nat → Int32) → Prop, (∀ ch' ma' br' tl' ki' co' pr' pa' tw' nv' sv' ru' le' li' bn' ip' aw' ns' pn' pl' po' pf' pt', (fun ch' ma' br' tl' ki' co' pr' pa' tw' nv' sv' ru' le' li' bn' ip' aw' ns' pn' pl' po' pf' pt' => (((tl' = 0 ∨ tl' = 1) ∧ (tl = 1 → tl' = 1) ∧ ∀ (G : Sp) (R : Nat → Nat → Prop) (lv : Nat → Nat), (∃ va mk, G = gC ki co pr pa tw pn pl po pf pt ru le li bn nv.toNatClampNeg va mk) → Ctx G R lv → Ef G R lv xs.toNatClampNeg xv.toNatClampNeg xd.toNatClampNeg (AskIn G xs.toNatClampNeg xv.toNatClampNeg) (BadIn G xs.toNatClampNeg xv.toNatClampNeg) (MrkIn G xs.toNatClampNeg xv.toNatClampNeg) True ch ma br tl ch' ma' br' tl')) ∧ ki' = ki ∧ co' = co ∧ pr' = pr ∧ pa' = pa ∧ tw' = tw ∧ nv' = nv ∧ sv' = sv ∧ ru' = ru ∧ le' = le ∧ li' = li ∧ bn' = bn ∧ ip' = ip ∧ aw' = aw ∧ ns' = ns ∧ pn' = pn ∧ pl' = pl ∧ po' = po ∧ pf' = pf ∧ pt' = pt) ch' ma' br' tl' ki' co' pr' pa' tw' nv' sv' ru' le' li' bn' ip' aw' ns' pn' pl' po' pf' pt' → post ch' ma' br' tl' ki' co' pr' pa' tw' nv' sv' ru' le' li' bn' ip' aw' ns' pn' pl' po' pf' pt') → V_Ju_weighInPlace z ch ma br tl ki co pr pa tw nv sv ru le li bn ip aw ns pn pl po pf pt xs xv xd post := by
    intro post hpost
    unfold V_Ju_weighInPlace
    obtain ⟨n0, m0, s0, v0, d0, hJ⟩ := hpre
    have hJ0 := hJ
    obtain ⟨hs24, hv40, hm, hn⟩ := JP_s hJ
    obtain ⟨hnv, hns, hS, htl, rfl, rfl, rfl, hsm, hvn, hd1, hd30, hfuel⟩ := hJ
    have hPv : vp_in (nI (v0 * 24 + s0)) 960 := vp_in_nI (by omega) (by decide)
    have cs : (nI s0).toNatClampNeg = s0 := nI_clamp (by omega)
    have cv : (nI v0).toNatClampNeg = v0 := nI_clamp (by omega)
    have cd : (nI d0).toNatClampNeg = d0 := nI_clamp (by omega)
    have cP : (nI (v0 * 24 + s0)).toNatClampNeg = v0 * 24 + s0 := nI_clamp (by omega)
    have cn : nv.toNatClampNeg = n0 := by rw [hnv]; exact nI_clamp (by omega)
    have e17 : nI s0 * 29 + 17 = nI (s0 * 29 + 17) := ix29 (k := 17)
    have e18 : nI s0 * 29 + 18 = nI (s0 * 29 + 18) := ix29 (k := 18)
    have c17 : (nI (s0 * 29 + 17)).toNatClampNeg = s0 * 29 + 17 := nI_clamp (by omega)
    have c18 : (nI (s0 * 29 + 18)).toNatClampNeg = s0 * 29 + 18 := nI_clamp (by omega)
    simp only [px24, e17, e18, c17, c18, cP, cs, cv, cd, cn] at hpost ⊢
    have ho17 := (hS.2.2.2.2.1 s0 hs24).1 17 (by omega) (by omega) (by omega) (by omega)
    have ho18 := (hS.2.2.2.2.1 s0 hs24).1 18 (by omega) (by omega) (by omega) (by omega)
    refine ⟨vp_in_nI (by omega) (by decide), fun f g hh u => EG (fun G => ∃ va mk, G = gC ki co pr pa tw pn pl po pf pt ru le li bn n0 va mk) s0 v0 d0 (fun G x w => AskS G s0 v0 17 x w) (fun G b => b = 17 ∧ ruH G s0 17 ∧ gVa G (ruV G s0 17) v0) (fun _ _ => False) (fun _ => True) ch ma br tl f g hh u, ⟨fun h => EG.start htl (fun G hG => ?_), fun h => ?_⟩, ?_⟩
    · have hru : ¬ ruH G s0 17 := fun q => by unfold ruH at q; rw [(gC_eq hG).2.2.2.1, h] at q; exact q neg1_lt
      exact ⟨fun x w q => hru q.1, fun b q => hru q.2.1, fun _ q => q, trivial⟩
    · obtain ⟨x0, hx, ex⟩ := ho17.resolve_left h
      have cx : (nI x0).toNatClampNeg = x0 := nI_clamp (by omega)
      rw [ex, cx]
      have hrV : ∀ G, (∃ va mk, G = gC ki co pr pa tw pn pl po pf pt ru le li bn n0 va mk) → ruV G s0 17 = x0 := fun G hG => by unfold ruV; rw [(gC_eq hG).2.2.2.1, ex, cx]
      have hrH : ∀ G, (∃ va mk, G = gC ki co pr pa tw pn pl po pf pt ru le li bn n0 va mk) → ruH G s0 17 := fun G hG => by unfold ruH; rw [(gC_eq hG).2.2.2.1, ex]; exact nI_pos (by omega)
      refine ⟨⟨n0, m0, s0, v0, d0, hJ0, ⟨x0, hx, rfl⟩, v0, hvn, rfl⟩, fun t f g hh u hp => ?_⟩
      have h1 : EG (fun G => ∃ va mk, G = gC ki co pr pa tw pn pl po pf pt ru le li bn n0 va mk) s0 v0 d0 (fun G x w => AskS G s0 v0 17 x w) (fun _ _ => False) (fun _ _ => False) (fun G => t = true ↔ gVa G x0 v0) ch ma br tl f g hh u := ⟨hp.1, hp.2.1, fun G R lv hG hC => (hp.2.2 G R lv hG hC (Or.inl (Or.inl ⟨hrH G hG, (hrV G hG).symm, rfl⟩))).congr (fun x w => by
        show (x = x0 ∧ w = v0) ↔ AskS G s0 v0 17 x w
        unfold AskS; rw [hrV G hG]; exact ⟨fun q => ⟨hrH G hG, q⟩, fun q => q.2⟩) (fun _ => Iff.rfl) (fun _ => Iff.rfl) (fun q => q.1)⟩
      refine ⟨fun h2 => h1.same (fun G hG hz => ⟨fun _ _ => Iff.rfl, fun b => ⟨False.elim, fun q => ?_⟩, fun _ => Iff.rfl, trivial⟩), fun h2 => ⟨hPv, h1.fail (k := 17) hs24 (by decide) (fun G hG hz => ⟨fun _ _ => Iff.rfl, fun b => ⟨fun q => ⟨q.elim False.elim id, hrH G hG, ?_⟩, fun q => Or.inr q.1⟩, fun _ => Iff.rfl, trivial⟩)⟩⟩
      · have := q.2.2; rw [hrV G hG] at this
        have := hz.mpr this; rw [bI0.mp h2] at this; exact absurd this (by decide)
      · rw [hrV G hG]; exact hz.mp (bI_ne.mp h2)
    intro f g hh u hI1
    refine ⟨vp_in_nI (by omega) (by decide), fun f g hh u => EG (fun G => ∃ va mk, G = gC ki co pr pa tw pn pl po pf pt ru le li bn n0 va mk) s0 v0 d0 (fun G x w => AskS G s0 v0 17 x w ∨ (AskS G s0 v0 18 x w ∨ (trn G s0 v0 19 ∧ AskS G s0 v0 19 x w) ∨ (trn G s0 v0 20 ∧ AskS G s0 v0 20 x w))) (fun G b => (b = 17 ∧ ruH G s0 17 ∧ gVa G (ruV G s0 17) v0) ∨ ((trn G s0 v0 19 ∧ BadS G s0 v0 19 b) ∨ (trn G s0 v0 20 ∧ BadS G s0 v0 20 b))) (fun G i => MrkS G s0 v0 18 i ∨ (trn G s0 v0 19 ∧ MrkS G s0 v0 19 i) ∨ (trn G s0 v0 20 ∧ MrkS G s0 v0 20 i)) (fun _ => True) ch ma br tl f g hh u, ⟨fun h => hI1.same (fun G hG _ => ?_), fun h => ?_⟩, ?_⟩
    · have hru : ¬ ruH G s0 18 := fun q => by unfold ruH at q; rw [(gC_eq hG).2.2.2.1, h] at q; exact q neg1_lt
      exact ⟨fun x w => ⟨Or.inl, fun q => q.elim id (fun q => q.elim (fun q => absurd q.1 hru) (fun q => q.elim (fun q => absurd q.1.1 hru) (fun q => absurd q.1.1 hru)))⟩, fun b => ⟨Or.inl, fun q => q.elim id (fun q => q.elim (fun q => absurd q.1.1 hru) (fun q => absurd q.1.1 hru))⟩, fun i => ⟨False.elim, fun q => q.elim (fun q => absurd q.1 hru) (fun q => q.elim (fun q => absurd q.1.1 hru) (fun q => absurd q.1.1 hru))⟩, trivial⟩
    · obtain ⟨x0, hx, ex⟩ := ho18.resolve_left h
      have cx : (nI x0).toNatClampNeg = x0 := nI_clamp (by omega)
      rw [ex, cx]
      have hrV : ∀ G, (∃ va mk, G = gC ki co pr pa tw pn pl po pf pt ru le li bn n0 va mk) → ruV G s0 18 = x0 := fun G hG => by unfold ruV; rw [(gC_eq hG).2.2.2.1, ex, cx]
      have hrH : ∀ G, (∃ va mk, G = gC ki co pr pa tw pn pl po pf pt ru le li bn n0 va mk) → ruH G s0 18 := fun G hG => by unfold ruH; rw [(gC_eq hG).2.2.2.1, ex]; exact nI_pos (by omega)
      refine ⟨⟨n0, m0, s0, v0, d0, hJ0.re hI1.1, x0, hx, rfl⟩, fun t f1 g1 h1 u1 hp => ?_⟩
      have h2 : EG (fun G => ∃ va mk, G = gC ki co pr pa tw pn pl po pf pt ru le li bn n0 va mk) s0 v0 d0 (fun G x w => AskS G s0 v0 17 x w ∨ AskS G s0 v0 18 x w) (fun G b => b = 17 ∧ ruH G s0 17 ∧ gVa G (ruV G s0 17) v0) (fun G i => MrkS G s0 v0 18 i) (fun G => t = true ↔ gVa G (ruV G s0 18) v0) ch ma br tl f1 g1 h1 u1 :=
        hI1.next hp.1 hp.2.1 (fun G R lv hG hC _ => hp.2.2 G R lv hG hC (Or.inl (Or.inr (Or.inl ⟨hrH G hG, (hrV G hG).symm, rfl⟩)))) (fun G hG _ hz => ⟨fun x w => or_congr_right (by unfold AskS; rw [hrV G hG]; exact ⟨fun q => ⟨hrH G hG, q⟩, fun q => q.2⟩), fun b => ⟨fun q => q.elim id False.elim, Or.inl⟩, fun i => by unfold MrkS; rw [hrV G hG]; exact ⟨fun q => q.elim False.elim (fun q => ⟨hrH G hG, q⟩), fun q => Or.inr q.2⟩, by rw [hrV G hG]; exact hz⟩)
      refine ⟨fun zz => zz = nI (if t = true then 19 else 20), ⟨fun h3 => by rw [bI0.mp h3]; rfl, fun h3 => by rw [bI_ne.mp h3]; rfl⟩, ?_⟩
      rintro _ rfl
      have hk1 : (if t = true then 19 else 20 : Nat) = 19 ∨ (if t = true then 19 else 20 : Nat) = 20 := by cases t <;> simp
      have ck1 : (nI (if t = true then 19 else 20)).toNatClampNeg = (if t = true then 19 else 20 : Nat) := nI_clamp (by omega)
      have htr : ∀ G, (∃ va mk, G = gC ki co pr pa tw pn pl po pf pt ru le li bn n0 va mk) → (t = true ↔ gVa G (ruV G s0 18) v0) → trn G s0 v0 (if t = true then 19 else 20) ∧ ∀ P19 P20 : Prop, ((trn G s0 v0 19 ∧ P19) ∨ (trn G s0 v0 20 ∧ P20)) ↔ (if t = true then P19 else P20) := fun G hG hz => by
        cases t
        · have hn : ¬ gVa G (ruV G s0 18) v0 := fun q => absurd (hz.mpr q) (by decide)
          refine ⟨⟨hrH G hG, ⟨fun q => absurd q hn, fun q => absurd q (by decide)⟩⟩, fun P19 P20 => ⟨fun q => q.elim (fun q => absurd (q.1.2.mpr rfl) hn) (fun q => q.2), fun q => Or.inr ⟨⟨hrH G hG, ⟨fun q => absurd q hn, fun q => absurd q (by decide)⟩⟩, q⟩⟩⟩
        · have hn : gVa G (ruV G s0 18) v0 := hz.mp rfl
          refine ⟨⟨hrH G hG, ⟨fun _ => rfl, fun _ => hn⟩⟩, fun P19 P20 => ⟨fun q => q.elim (fun q => q.2) (fun q => absurd (q.1.2.mp hn) (by decide)), fun q => Or.inl ⟨⟨hrH G hG, ⟨fun _ => rfl, fun _ => hn⟩⟩, q⟩⟩⟩
      rw [ck1]
      refine ⟨⟨n0, m0, s0, v0, d0, hJ0.re h2.1, _, by omega, rfl⟩, fun f3 g3 h3 u3 hp3 => ?_⟩
      refine h2.next hp3.1 hp3.2.1 (fun G R lv hG hC hz => hp3.2.2 G R lv hG hC (fun x w q => ?_)) (fun G hG hz _ => ⟨fun x w => ?_, fun b => ?_, fun i => ?_, trivial⟩)
      · cases t
        · exact Or.inl (Or.inr (Or.inr (Or.inr (Or.inl ⟨(htr G hG hz).1, q⟩))))
        · exact Or.inl (Or.inr (Or.inr (Or.inl ⟨(htr G hG hz).1, q⟩)))
      · rw [or_assoc]; refine or_congr_right (or_congr_right ?_)
        rw [(htr G hG hz).2]; cases t <;> exact Iff.rfl
      · refine or_congr_right ?_
        rw [(htr G hG hz).2]; cases t <;> exact Iff.rfl
      · refine or_congr_right ?_
        rw [(htr G hG hz).2]; cases t <;> exact Iff.rfl
    intro f2 g2 h2 u2 hI2
    rw [show ((21 : Int32).toNatClampNeg) = 21 from rfl]
    refine ⟨⟨n0, m0, s0, v0, d0, hJ0.re hI2.1, 21, by omega, rfl⟩, fun f3 g3 h3 u3 hp3 => ?_⟩
    have hI3 := hI2.next (A2 := fun G x w => (AskS G s0 v0 17 x w ∨ (AskS G s0 v0 18 x w ∨ (trn G s0 v0 19 ∧ AskS G s0 v0 19 x w) ∨ (trn G s0 v0 20 ∧ AskS G s0 v0 20 x w))) ∨ AskS G s0 v0 21 x w) (B2 := fun G b => ((b = 17 ∧ ruH G s0 17 ∧ gVa G (ruV G s0 17) v0) ∨ ((trn G s0 v0 19 ∧ BadS G s0 v0 19 b) ∨ (trn G s0 v0 20 ∧ BadS G s0 v0 20 b))) ∨ BadS G s0 v0 21 b) (M2 := fun G i => (MrkS G s0 v0 18 i ∨ (trn G s0 v0 19 ∧ MrkS G s0 v0 19 i) ∨ (trn G s0 v0 20 ∧ MrkS G s0 v0 20 i)) ∨ MrkS G s0 v0 21 i) (Z2 := fun _ => True) hp3.1 hp3.2.1 (fun G R lv hG hC _ => hp3.2.2 G R lv hG hC (fun x w q => Or.inl (Or.inr (Or.inr (Or.inr (Or.inr (Or.inl q))))))) (fun G hG _ _ => ⟨fun _ _ => Iff.rfl, fun _ => Iff.rfl, fun _ => Iff.rfl, trivial⟩)
    refine ⟨fun xk f g hh u => ∃ j, j ≤ 3 ∧ xk = nI (29 + j) ∧ EG (fun G => ∃ va mk, G = gC ki co pr pa tw pn pl po pf pt ru le li bn n0 va mk) s0 v0 d0 (fun G x w => ((AskS G s0 v0 17 x w ∨ (AskS G s0 v0 18 x w ∨ (trn G s0 v0 19 ∧ AskS G s0 v0 19 x w) ∨ (trn G s0 v0 20 ∧ AskS G s0 v0 20 x w))) ∨ AskS G s0 v0 21 x w) ∨ ∃ k, k < j ∧ AskL G s0 v0 k x w) (fun G b => (((b = 17 ∧ ruH G s0 17 ∧ gVa G (ruV G s0 17) v0) ∨ ((trn G s0 v0 19 ∧ BadS G s0 v0 19 b) ∨ (trn G s0 v0 20 ∧ BadS G s0 v0 20 b))) ∨ BadS G s0 v0 21 b) ∨ ∃ k, k < j ∧ BadL G s0 v0 k b) (fun G i => ((MrkS G s0 v0 18 i ∨ (trn G s0 v0 19 ∧ MrkS G s0 v0 19 i) ∨ (trn G s0 v0 20 ∧ MrkS G s0 v0 20 i)) ∨ MrkS G s0 v0 21 i) ∨ ∃ k, k < j ∧ MrkL G s0 v0 k i) (fun _ => True) ch ma br tl f g hh u, fun xk _ _ _ _ => 32 - xk.toInt.toNat, ⟨0, by decide, rfl, hI3.same (fun G _ _ => ⟨fun x w => ⟨Or.inl, fun q => q.elim id (fun ⟨k, q, _⟩ => absurd q (Nat.not_lt_zero _))⟩, fun b => ⟨Or.inl, fun q => q.elim id (fun ⟨k, q, _⟩ => absurd q (Nat.not_lt_zero _))⟩, fun i => ⟨Or.inl, fun q => q.elim id (fun ⟨k, q, _⟩ => absurd q (Nat.not_lt_zero _))⟩, trivial⟩)⟩, ?_⟩
    rintro xk f4 g4 h4 u4 ⟨j, hj, rfl, hI⟩
    have hlt : (31 : Int32) < nI (29 + j) ↔ 31 < 29 + j := nI_ltL (n := 31) (by decide) (by omega)
    rw [hlt]
    have ex3 : ∀ P : Nat → Prop, (∃ k, k < 3 ∧ P k) ↔ P 0 ∨ P 1 ∨ P 2 := fun P => by
      constructor
      · rintro ⟨k, h1, h2⟩
        have : k = 0 ∨ k = 1 ∨ k = 2 := by omega
        rcases this with rfl | rfl | rfl
        · exact Or.inl h2
        · exact Or.inr (Or.inl h2)
        · exact Or.inr (Or.inr h2)
      · rintro (h | h | h)
        · exact ⟨0, by decide, h⟩
        · exact ⟨1, by decide, h⟩
        · exact ⟨2, by decide, h⟩
    refine ⟨fun h5 => ?_, fun h5 => ?_⟩
    · obtain rfl : j = 3 := by omega
      refine (hpost _ _ _ _ _ _ _ _ _ _ _ _ _ _ _ _ _ _ _ _ _ _ _ ⟨hI.same (fun G hG _ => ⟨fun x w => ?_, fun b => ?_, fun i => ?_, trivial⟩), rfl, rfl, rfl, rfl, rfl, rfl, rfl, rfl, rfl, rfl, rfl, rfl, rfl, rfl, rfl, rfl, rfl, rfl, rfl⟩)
      · rw [ex3]; unfold AskIn; simp only [or_assoc]
      · rw [ex3]; unfold BadIn; simp only [or_assoc]
      · rw [ex3]; unfold MrkIn; simp only [or_assoc]
    · have hj2 : j < 3 := by omega
      have ckk : (nI (29 + j)).toNatClampNeg - 29 = j := by rw [nI_clamp (by omega)]; omega
      rw [ckk]
      refine ⟨⟨n0, m0, s0, v0, d0, hJ0.re hI.1, j, hj2, rfl⟩, fun f5 g5 h6 u5 hp => ⟨⟨j + 1, hj2, nI_1 _, ?_⟩, fill_mu (N := 32) (k := 29 + j) (by omega) (by decide)⟩⟩
      exact hI.next hp.1 hp.2.1 (fun G R lv hG hC _ => hp.2.2 G R lv hG hC) (fun G hG _ _ => ⟨fun x w => by rw [or_assoc, ex_succ], fun b => by rw [or_assoc, ex_succ], fun i => by rw [or_assoc, ex_succ], trivial⟩)
  exact main _ (fun _ _ _ _ _ _ _ _ _ _ _ _ _ _ _ _ _ _ _ _ _ _ _ h => h)
theorem c_Ju_weighInPlace (l : Launch) (D : va_G) (a : Nat → Nat) (cI cJ cZ : ClassId) (z : Nat) (HW : WQ l D a cI cJ cZ z) (ch : Nat → Int32) (ma : Nat → Int32) (br : Nat → Int64) (tl : Int32) (ki : Nat → Int32) (co : Nat → Int64) (pr : Nat → Int32) (pa : Nat → Int32) (tw : Nat → Int32) (nv : Int32) (sv : Int32) (ru : Nat → Int32) (le : Nat → Int32) (li : Nat → Int32) (bn : Nat → Int32) (ip : Nat → Int32) (aw : Nat → Int32) (ns : Int32) (pn : Nat → Int32) (pl : Nat → Int32) (po : Nat → Int32) (pf : Nat → Int32) (pt : Nat → Int32) (xs : Int32) (xv : Int32) (xd : Int32) (hpre : (∃ n0 m0 s0 v0 d0 : Nat, JP ki co pr pa pn po ru le li bn nv ns tl z xs xv xd n0 m0 s0 v0 d0)) : Em (S := (Nat → Int32) × (Nat → Int32) × (Nat → Int64) × Int32) l y_Ju_weighInPlace b_Ju_weighInPlace 7 none (5 * z + 13) (200 * z + 180) [.ref (a 20), .int xs, .int xv, .int xd] D (tyA cI cJ cZ) (wJ a cI cJ ch ma br tl ++ wV a cI cJ ki co pr pa tw nv sv ++ wS a cI ru le li bn ip aw ns ++ wL a ++ wP a cI cZ pn pl po pf pt) (fun uu => ((uu.2.2.2 = 0 ∨ uu.2.2.2 = 1) ∧ (tl = 1 → uu.2.2.2 = 1) ∧ ∀ (G : Sp) (R : Nat → Nat → Prop) (lv : Nat → Nat), (∃ va mk, G = gC ki co pr pa tw pn pl po pf pt ru le li bn nv.toNatClampNeg va mk) → Ctx G R lv → Ef G R lv xs.toNatClampNeg xv.toNatClampNeg xd.toNatClampNeg (AskIn G xs.toNatClampNeg xv.toNatClampNeg) (BadIn G xs.toNatClampNeg xv.toNatClampNeg) (MrkIn G xs.toNatClampNeg xv.toNatClampNeg) True ch ma br tl uu.1 uu.2.1 uu.2.2.1 uu.2.2.2)) (fun uu => none) (fun uu => (wJ a cI cJ uu.1 uu.2.1 uu.2.2.1 uu.2.2.2 ++ wV a cI cJ ki co pr pa tw nv sv ++ wS a cI ru le li bn ip aw ns ++ wL a ++ wP a cI cZ pn pl po pf pt)) :=
  em_v (by decide) (Nat.le_of_ble_eq_true rfl) (fun p e s m below meth c ls Q A S hK hP hD hA hS hX hl hret => g_Ju_weighInPlace S (Nat.le_refl _) (Nat.le_refl _) ⟨Nat.le_refl _, Nat.le_refl _⟩ D a cI cJ cZ HW ch ma br tl ki co pr pa tw nv sv ru le li bn ip aw ns pn pl po pf pt xs xv xd hK hP hD hA hS hX hl (v_Ju_weighInPlace z ch ma br tl ki co pr pa tw nv sv ru le li bn ip aw ns pn pl po pf pt xs xv xd hpre) (fun ch' ma' br' tl' ki' co' pr' pa' tw' nv' sv' ru' le' li' bn' ip' aw' ns' pn' pl' po' pf' pt' ls1 pc H1 locs1 hd hv hP1 hD1 hS1 => by obtain ⟨hp, rfl, rfl, rfl, rfl, rfl, rfl, rfl, rfl, rfl, rfl, rfl, rfl, rfl, rfl, rfl, rfl, rfl, rfl, rfl⟩ := hv; exact hret (ch', ma', br', tl') ls1 pc H1 locs1 hd hp hP1 hD1 hS1))
theorem hd_Ju_weighInPlace : y_Ju_weighInPlace.cls ≠ "java/lang/invoke/MethodHandle" ∧ y_Ju_weighInPlace.cls ≠ "java/lang/invoke/VarHandle" ∧ (parseMethodDescriptor y_Ju_weighInPlace.desc).map (fun d => d.parameters.length) = some 3 := ⟨by decide, by decide, by decide +kernel⟩
