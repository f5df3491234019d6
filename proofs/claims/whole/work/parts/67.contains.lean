def V_Ju_weighContains (z : Nat) (ch : Nat → Int32) (ma : Nat → Int32) (br : Nat → Int64) (tl : Int32) (ki : Nat → Int32) (co : Nat → Int64) (pr : Nat → Int32) (pa : Nat → Int32) (tw : Nat → Int32) (nv : Int32) (sv : Int32) (ru : Nat → Int32) (le : Nat → Int32) (li : Nat → Int32) (bn : Nat → Int32) (ip : Nat → Int32) (aw : Nat → Int32) (ns : Int32) (pn : Nat → Int32) (pl : Nat → Int32) (po : Nat → Int32) (pf : Nat → Int32) (pt : Nat → Int32) (xs : Int32) (xv : Int32) (xd : Int32) (post : (Nat → Int32) → (Nat → Int32) → (Nat → Int64) → Int32 → (Nat → Int32) → (Nat → Int64) → (Nat → Int32) → (Nat → Int32) → (Nat → Int32) → Int32 → Int32 → (Nat → Int32) → (Nat → Int32) → (Nat → Int32) → (Nat → Int32) → (Nat → Int32) → (Nat → Int32) → Int32 → (Nat → Int32) → (Nat → Int32) → (Nat → Int32) → (Nat → Int32) → (Nat → Int32) → Prop) : Prop :=
  (vp_in (xs * 29 + 23) 696 ∧ ((¬ (ru (xs * 29 + 23 : Int32).toNatClampNeg) = (-1) → (vp_in xv 40 ∧ (∃ (I17 : Int32 → Int32 → (Nat → Int32) → (Nat → Int32) → (Nat → Int64) → Int32 → Prop) (mI17 : Int32 → Int32 → (Nat → Int32) → (Nat → Int32) → (Nat → Int64) → Int32 → Nat), I17 0 0 ch ma br tl ∧ (∀ (x11 : Int32) (x12 : Int32) (f13 : Nat → Int32) (f14 : Nat → Int32) (f15 : Nat → Int64) (u16 : Int32), I17 x11 x12 f13 f14 f15 u16 → (((if ki xv.toNatClampNeg = 3 then sCount (co xv.toNatClampNeg).toInt32 else iBits (pr xv.toNatClampNeg)) ≤ x12 → (vp_in (xs * 29 + 24) 696 ∧ (∃ J18 : Int32 → Prop, ((¬ (ru (xs * 29 + 24 : Int32).toNatClampNeg) = (-1) → J18 (ru (xs * 29 + 24 : Int32).toNatClampNeg)) ∧ ((ru (xs * 29 + 24 : Int32).toNatClampNeg) = (-1) → J18 1)) ∧ (∀ (x19 : Int32), J18 x19 → (∃ J20 : (Nat → Int64) → Prop, ((x19 ≤ x11 → J20 f15) ∧ (¬ x19 ≤ x11 → (vp_in (xv * 24 + xs) 960 ∧ J20 (vp_updL f15 (xv * 24 + xs : Int32).toNatClampNeg ((f15 (xv * 24 + xs : Int32).toNatClampNeg) ||| (1 <<< ((23 : Int32).toInt64 &&& 63))))))) ∧ (∀ (f21 : Nat → Int64), J20 f21 → (vp_in (xs * 29 + 25) 696 ∧ (((ru (xs * 29 + 25 : Int32).toNatClampNeg) = (-1) → post f13 f14 f21 u16 ki co pr pa tw nv sv ru le li bn ip aw ns pn pl po pf pt) ∧ (¬ (ru (xs * 29 + 25 : Int32).toNatClampNeg) = (-1) → ((x11 ≤ (ru (xs * 29 + 25 : Int32).toNatClampNeg) → post f13 f14 f21 u16 ki co pr pa tw nv sv ru le li bn ip aw ns pn pl po pf pt) ∧ (¬ x11 ≤ (ru (xs * 29 + 25 : Int32).toNatClampNeg) → (vp_in (xv * 24 + xs) 960 ∧ post f13 f14 (vp_updL f21 (xv * 24 + xs : Int32).toNatClampNeg ((f21 (xv * 24 + xs : Int32).toNatClampNeg) ||| (1 <<< ((25 : Int32).toInt64 &&& 63)))) u16 ki co pr pa tw nv sv ru le li bn ip aw ns pn pl po pf pt)))))))))))) ∧ (¬ (if ki xv.toNatClampNeg = 3 then sCount (co xv.toNatClampNeg).toInt32 else iBits (pr xv.toNatClampNeg)) ≤ x12 → (vp_in (xv * 12 + x12) 480 ∧ ((∃ n0 m0 s0 v0 d0 : Nat, JP ki co pr pa pn po ru le li bn nv ns u16 z xs xv xd n0 m0 s0 v0 d0 ∧ (∃ x0 : Nat, x0 < m0 ∧ ru (xs * 29 + 23 : Int32).toNatClampNeg = nI x0) ∧ ∃ w0 : Nat, w0 < n0 ∧ pa (xv * 12 + x12 : Int32).toNatClampNeg = nI w0) ∧ (∀ (t22 : Bool) (f23 : Nat → Int32) (f24 : Nat → Int32) (f25 : Nat → Int64) (u26 : Int32), (((u26 = 0 ∨ u26 = 1) ∧ (u16 = 1 → u26 = 1) ∧ ∀ (G : Sp) (R : Nat → Nat → Prop) (lv : Nat → Nat), (∃ va mk, G = gC ki co pr pa tw pn pl po pf pt ru le li bn nv.toNatClampNeg va mk) → Ctx G R lv → Ask G xs.toNatClampNeg xv.toNatClampNeg (ru (xs * 29 + 23 : Int32).toNatClampNeg : Int32).toNatClampNeg (pa (xv * 12 + x12 : Int32).toNatClampNeg : Int32).toNatClampNeg → Ef G R lv xs.toNatClampNeg xv.toNatClampNeg xd.toNatClampNeg (fun x' w' => x' = (ru (xs * 29 + 23 : Int32).toNatClampNeg : Int32).toNatClampNeg ∧ w' = (pa (xv * 12 + x12 : Int32).toNatClampNeg : Int32).toNatClampNeg) (fun _ => False) (fun _ => False) ((t22 = true ↔ gVa G (ru (xs * 29 + 23 : Int32).toNatClampNeg : Int32).toNatClampNeg (pa (xv * 12 + x12 : Int32).toNatClampNeg : Int32).toNatClampNeg) ∧ ∀ i, i < 32 → (bt (f24 ((pa (xv * 12 + x12 : Int32).toNatClampNeg : Int32).toNatClampNeg * 24 + (ru (xs * 29 + 23 : Int32).toNatClampNeg : Int32).toNatClampNeg)) i = true ↔ gMk G (ru (xs * 29 + 23 : Int32).toNatClampNeg : Int32).toNatClampNeg (pa (xv * 12 + x12 : Int32).toNatClampNeg : Int32).toNatClampNeg i)) f13 f14 f15 u16 f23 f24 f25 u26)) → (((bI t22) = 0 → (I17 x11 (x12 + 1) f23 f24 f25 u26 ∧ mI17 x11 (x12 + 1) f23 f24 f25 u26 < mI17 x11 x12 f13 f14 f15 u16)) ∧ (¬ (bI t22) = 0 → (vp_in (xv * 24 + xs) 960 ∧ (vp_in (xv * 24 + xs) 960 ∧ (I17 (x11 + 1) (x12 + 1) f23 (upd f24 (xv * 24 + xs : Int32).toNatClampNeg ((f24 (xv * 24 + xs : Int32).toNatClampNeg) ||| (1 <<< (x12 &&& 31)))) f25 u26 ∧ mI17 (x11 + 1) (x12 + 1) f23 (upd f24 (xv * 24 + xs : Int32).toNatClampNeg ((f24 (xv * 24 + xs : Int32).toNatClampNeg) ||| (1 <<< (x12 &&& 31)))) f25 u26 < mI17 x11 x12 f13 f14 f15 u16)))))))))))))) ∧ ((ru (xs * 29 + 23 : Int32).toNatClampNeg) = (-1) → post ch ma br tl ki co pr pa tw nv sv ru le li bn ip aw ns pn pl po pf pt)))
set_option maxHeartbeats 4000000 in
set_option maxRecDepth 100000 in
theorem g_Ju_weighContains {p : Program} {l : Launch} {e : Env} {R : Room} {s : State} {m : MethodId} {args : Array Value} {below : List Frame} {meth : Method} {c : Code} {H : Heap} {locs : List Loc} {cells slots : Nat} {Q : State → Prop} {ls : Array Slot} {A : Nat → Prop} {z : Nat} (S : CallFix p m c b_Ju_weighContains 9 s args W0 R_Ju) (hRf : 5 * z + 12 ≤ R.frames) (hRl : 200 * z + 150 ≤ R.locals) (hRc : cells ≤ R.cells ∧ slots ≤ R.slots) (D : va_G) (a : Nat → Nat) (cI cJ cZ : ClassId) (HW : WQ l D a cI cJ cZ z) (ch : Nat → Int32) (ma : Nat → Int32) (br : Nat → Int64) (tl : Int32) (ki : Nat → Int32) (co : Nat → Int64) (pr : Nat → Int32) (pa : Nat → Int32) (tw : Nat → Int32) (nv : Int32) (sv : Int32) (ru : Nat → Int32) (le : Nat → Int32) (li : Nat → Int32) (bn : Nat → Int32) (ip : Nat → Int32) (aw : Nat → Int32) (ns : Int32) (pn : Nat → Int32) (pl : Nat → Int32) (po : Nat → Int32) (pf : Nat → Int32) (pt : Nat → Int32) (xs : Int32) (xv : Int32) (xd : Int32) (hK : va_K D vwCl (tyA cI cJ cZ) s) (hP : va_P D vwCl (wJ a cI cJ ch ma br tl ++ wV a cI cJ ki co pr pa tw nv sv ++ wS a cI ru le li bn ip aw ns ++ wL a ++ wP a cI cZ pn pl po pf pt) H) (hD : va_D A (wJ a cI cJ ch ma br tl ++ wV a cI cJ ki co pr pa tw nv sv ++ wS a cI ru le li bn ip aw ns ++ wL a ++ wP a cI cZ pn pl po pf pt)) (hA : ∀ q, s.heap.size ≤ q → A q) (hS : va_S A s.heap H locs) (hX : eX A s s.heap) (hl : lv_has ls 9 [(0, .ref (a 20)), (1, .int xs), (2, .int xv), (3, .int xd)]) {post : (Nat → Int32) → (Nat → Int32) → (Nat → Int64) → Int32 → (Nat → Int32) → (Nat → Int64) → (Nat → Int32) → (Nat → Int32) → (Nat → Int32) → Int32 → Int32 → (Nat → Int32) → (Nat → Int32) → (Nat → Int32) → (Nat → Int32) → (Nat → Int32) → (Nat → Int32) → Int32 → (Nat → Int32) → (Nat → Int32) → (Nat → Int32) → (Nat → Int32) → (Nat → Int32) → Prop} (vc : V_Ju_weighContains z ch ma br tl ki co pr pa tw nv sv ru le li bn ip aw ns pn pl po pf pt xs xv xd post)
    (hret : ∀ (ch : Nat → Int32) (ma : Nat → Int32) (br : Nat → Int64) (tl : Int32) (ki : Nat → Int32) (co : Nat → Int64) (pr : Nat → Int32) (pa : Nat → Int32) (tw : Nat → Int32) (nv : Int32) (sv : Int32) (ru : Nat → Int32) (le : Nat → Int32) (li : Nat → Int32) (bn : Nat → Int32) (ip : Nat → Int32) (aw : Nat → Int32) (ns : Int32) (pn : Nat → Int32) (pl : Nat → Int32) (po : Nat → Int32) (pf : Nat → Int32) (pt : Nat → Int32) (ls : Array Slot) (pc : Nat) (H : Heap) (locs : List Loc), decode b_Ju_weighContains pc = .ok (.return_, 1) → post ch ma br tl ki co pr pa tw nv sv ru le li bn ip aw ns pn pl po pf pt → va_P D vwCl (wJ a cI cJ ch ma br tl ++ wV a cI cJ ki co pr pa tw nv sv ++ wS a cI ru le li bn ip aw ns ++ wL a ++ wP a cI cZ pn pl po pf pt) H → va_D A (wJ a cI cJ ch ma br tl ++ wV a cI cJ ki co pr pa tw nv sv ++ wS a cI ru le li bn ip aw ns ++ wL a ++ wP a cI cZ pn pl po pf pt) → va_S A s.heap H locs → W p l e R s m args below meth c H locs cells slots Q (F0 m pc ls [])) : W p l e R s m args below meth c H locs cells slots Q (F0 m 0 ls []) := by
  have hx := S.1
  have hb := S.2.1
  have hown := S.2.2.2.1
  have hts := S.2.2.2.2
  unfold V_Ju_weighContains at vc
  refine lv_aload_n hx hb d_Ju_weighContains_0 rfl (lv_at hl 0 rfl) ?_
  refine va_get (D := D) (ci := 0) (v := .ref (a 12)) (C := R_Ju) (T := F_Ju) (N := 7) hx hb hts in_Ju hown hK hP 0 rfl rfl 1 (by decide) (hts _ fl_Ju_17) (fun _ h => h) rfl d_Ju_weighContains_1 ?_
  refine lv_iload_n hx hb d_Ju_weighContains_4 rfl (lv_at hl 1 rfl) ?_
  refine lv_bipush (v := 23) hx hb d_Ju_weighContains_5 (by decide) ?_
  obtain ⟨hpre, vc⟩ := vc
  refine pc_V (As := [.int xs, .int 23]) (rest := []) S (c_Sc_ruleOf l D a cI cJ cZ ru le li bn ip aw ns xs 23 hpre) wB_blind k_Sc_ruleOf i_Sc_ruleOf e_Sc_ruleOf o_Sc ml_Ju_78 hd_Sc_ruleOf (Nat.le_trans (by omega) hRf) (Nat.le_trans (by omega) hRl) hRc (va_recv hK hP (q0 := 10) (ci := 3) rfl rfl) (wB_at (hP.sub (ws' := (wS a cI ru le li bn ip aw ns)) [10, 11, 12, 13, 14, 15, 16] rfl) hK) hl.1 rfl (Nat.le_of_ble_eq_true rfl) d_Ju_weighContains_7 ?_
  refine lv_istore hx hb d_Ju_weighContains_10 hl (by decide) (lv' := [(4, .int (ru (xs * 29 + 23 : Int32).toNatClampNeg)), (0, .ref (a 20)), (1, .int xs), (2, .int xv), (3, .int xd)]) rfl (fun ls hl => ?_)
  refine lv_iload hx hb d_Ju_weighContains_12 (lv_at hl 0 rfl) ?_
  refine lv_iconst (v := (-1)) hx hb d_Ju_weighContains_14 (by decide) ?_
  refine lv_icmp_ne (tgt := 19) hx hb d_Ju_weighContains_15 (by decide) (fun h => ?_) (fun h => ?_)
  · have vc := vc.1 h
    refine lv_aload_n hx hb d_Ju_weighContains_19 rfl (lv_at hl 1 rfl) ?_
    refine va_get (D := D) (ci := 0) (v := .ref (a 0)) (C := R_Ju) (T := F_Ju) (N := 7) hx hb hts in_Ju hown hK hP 0 rfl rfl 0 (by decide) (hts _ fl_Ju_11) (fun _ h => h) rfl d_Ju_weighContains_20 ?_
    refine lv_iload_n hx hb d_Ju_weighContains_23 rfl (lv_at hl 3 rfl) ?_
    obtain ⟨hpre, vc⟩ := vc
    refine pc_V (As := [.int xv]) (rest := []) S (c_Va_sizeOf l D a cI cJ cZ ki co pr pa tw nv sv xv hpre) wB_blind k_Va_sizeOf i_Va_sizeOf e_Va_sizeOf o_Va ml_Ju_136 hd_Va_sizeOf (Nat.le_trans (by omega) hRf) (Nat.le_trans (by omega) hRl) hRc (va_recv hK hP (q0 := 4) (ci := 4) rfl rfl) (wB_at (hP.sub (ws' := (wV a cI cJ ki co pr pa tw nv sv)) [4, 5, 6, 7, 8, 9] rfl) hK) hl.1 rfl (Nat.le_of_ble_eq_true rfl) d_Ju_weighContains_24 ?_
    refine lv_istore hx hb d_Ju_weighContains_27 hl (by decide) (lv' := [(5, .int (if ki xv.toNatClampNeg = 3 then sCount (co xv.toNatClampNeg).toInt32 else iBits (pr xv.toNatClampNeg))), (4, .int (ru (xs * 29 + 23 : Int32).toNatClampNeg)), (0, .ref (a 20)), (1, .int xs), (2, .int xv), (3, .int xd)]) rfl (fun ls hl => ?_)
    refine lv_iconst (v := 0) hx hb d_Ju_weighContains_29 (by decide) ?_
    refine lv_istore hx hb d_Ju_weighContains_30 hl (by decide) (lv' := [(6, .int 0), (5, .int (if ki xv.toNatClampNeg = 3 then sCount (co xv.toNatClampNeg).toInt32 else iBits (pr xv.toNatClampNeg))), (4, .int (ru (xs * 29 + 23 : Int32).toNatClampNeg)), (0, .ref (a 20)), (1, .int xs), (2, .int xv), (3, .int xd)]) rfl (fun ls hl => ?_)
    refine lv_iconst (v := 0) hx hb d_Ju_weighContains_32 (by decide) ?_
    refine lv_istore hx hb d_Ju_weighContains_33 hl (by decide) (lv' := [(7, .int 0), (6, .int 0), (5, .int (if ki xv.toNatClampNeg = 3 then sCount (co xv.toNatClampNeg).toInt32 else iBits (pr xv.toNatClampNeg))), (4, .int (ru (xs * 29 + 23 : Int32).toNatClampNeg)), (0, .ref (a 20)), (1, .int xs), (2, .int xv), (3, .int xd)]) rfl (fun ls hl => ?_)
    obtain ⟨I17, mI17, vc0, vcs⟩ := vc
    have lI17 : ∀ n : Nat, ∀ (x11 : Int32) (x12 : Int32) (f13 : Nat → Int32) (f14 : Nat → Int32) (f15 : Nat → Int64) (u16 : Int32) (ls : Array Slot) (H : Heap) (locs : List Loc), I17 x11 x12 f13 f14 f15 u16 → mI17 x11 x12 f13 f14 f15 u16 < n → lv_has ls 9 [(0, .ref (a 20)), (1, .int xs), (2, .int xv), (3, .int xd), (4, .int (ru (xs * 29 + 23 : Int32).toNatClampNeg)), (5, .int (if ki xv.toNatClampNeg = 3 then sCount (co xv.toNatClampNeg).toInt32 else iBits (pr xv.toNatClampNeg))), (6, .int x11), (7, .int x12)] → va_P D vwCl (wJ a cI cJ f13 f14 f15 u16 ++ wV a cI cJ ki co pr pa tw nv sv ++ wS a cI ru le li bn ip aw ns ++ wL a ++ wP a cI cZ pn pl po pf pt) H → va_D A (wJ a cI cJ f13 f14 f15 u16 ++ wV a cI cJ ki co pr pa tw nv sv ++ wS a cI ru le li bn ip aw ns ++ wL a ++ wP a cI cZ pn pl po pf pt) → va_S A s.heap H locs → W p l e R s m args below meth c H locs cells slots Q (F0 m 35 ls []) := by
      intro n
      induction n with
      | zero => intro x11 x12 f13 f14 f15 u16 ls H locs _ h; exact absurd h (Nat.not_lt_zero _)
      | succ n ihI17 =>
        intro x11 x12 f13 f14 f15 u16 ls H locs vc hmI17 hl hP hD hS
        have vc := vcs x11 x12 f13 f14 f15 u16 vc
        refine lv_iload hx hb d_Ju_weighContains_35 (lv_at hl 7 rfl) ?_
        refine lv_iload hx hb d_Ju_weighContains_37 (lv_at hl 5 rfl) ?_
        refine lv_icmp_ge (tgt := 90) hx hb d_Ju_weighContains_39 (by decide) (fun h => ?_) (fun h => ?_)
        · have vc := vc.1 h
          refine lv_aload_n hx hb d_Ju_weighContains_90 rfl (lv_at hl 0 rfl) ?_
          refine va_get (D := D) (ci := 0) (v := .ref (a 12)) (C := R_Ju) (T := F_Ju) (N := 7) hx hb hts in_Ju hown hK hP 0 rfl rfl 1 (by decide) (hts _ fl_Ju_17) (fun _ h => h) rfl d_Ju_weighContains_91 ?_
          refine lv_iload_n hx hb d_Ju_weighContains_94 rfl (lv_at hl 1 rfl) ?_
          refine lv_bipush (v := 24) hx hb d_Ju_weighContains_95 (by decide) ?_
          obtain ⟨hpre, vc⟩ := vc
          refine pc_V (As := [.int xs, .int 24]) (rest := []) S (c_Sc_ruleOf l D a cI cJ cZ ru le li bn ip aw ns xs 24 hpre) wB_blind k_Sc_ruleOf i_Sc_ruleOf e_Sc_ruleOf o_Sc ml_Ju_78 hd_Sc_ruleOf (Nat.le_trans (by omega) hRf) (Nat.le_trans (by omega) hRl) hRc (va_recv hK hP (q0 := 10) (ci := 3) rfl rfl) (wB_at (hP.sub (ws' := (wS a cI ru le li bn ip aw ns)) [10, 11, 12, 13, 14, 15, 16] rfl) hK) hl.1 rfl (Nat.le_of_ble_eq_true rfl) d_Ju_weighContains_97 ?_
          refine lv_istore hx hb d_Ju_weighContains_100 hl (by decide) (lv' := [(7, .int (ru (xs * 29 + 24 : Int32).toNatClampNeg)), (0, .ref (a 20)), (1, .int xs), (2, .int xv), (3, .int xd), (4, .int (ru (xs * 29 + 23 : Int32).toNatClampNeg)), (5, .int (if ki xv.toNatClampNeg = 3 then sCount (co xv.toNatClampNeg).toInt32 else iBits (pr xv.toNatClampNeg))), (6, .int x11)]) rfl (fun ls hl => ?_)
          refine lv_iload hx hb d_Ju_weighContains_102 (lv_at hl 7 rfl) ?_
          refine lv_iload hx hb d_Ju_weighContains_104 (lv_at hl 0 rfl) ?_
          refine lv_iconst (v := (-1)) hx hb d_Ju_weighContains_106 (by decide) ?_
          obtain ⟨J18, vc, vc2⟩ := vc
          have jJ18 : ∀ (x19 : Int32) (ls : Array Slot) (H : Heap) (locs : List Loc), J18 x19 → lv_has ls 9 [(0, .ref (a 20)), (1, .int xs), (2, .int xv), (3, .int xd), (4, .int (ru (xs * 29 + 23 : Int32).toNatClampNeg)), (5, .int (if ki xv.toNatClampNeg = 3 then sCount (co xv.toNatClampNeg).toInt32 else iBits (pr xv.toNatClampNeg))), (6, .int x11), (7, .int (ru (xs * 29 + 24 : Int32).toNatClampNeg))] → va_P D vwCl (wJ a cI cJ f13 f14 f15 u16 ++ wV a cI cJ ki co pr pa tw nv sv ++ wS a cI ru le li bn ip aw ns ++ wL a ++ wP a cI cZ pn pl po pf pt) H → va_D A (wJ a cI cJ f13 f14 f15 u16 ++ wV a cI cJ ki co pr pa tw nv sv ++ wS a cI ru le li bn ip aw ns ++ wL a ++ wP a cI cZ pn pl po pf pt) → va_S A s.heap H locs → W p l e R s m args below meth c H locs cells slots Q (F0 m 116 ls [.int x19, .int x11]) := by
            intro x19 ls H locs vc hl hP hD hS
            have vc := vc2 x19 vc
            obtain ⟨J20, vc, vc2⟩ := vc
            have jJ20 : ∀ (f21 : Nat → Int64) (ls : Array Slot) (H : Heap) (locs : List Loc), J20 f21 → lv_has ls 9 [(0, .ref (a 20)), (1, .int xs), (2, .int xv), (3, .int xd), (4, .int (ru (xs * 29 + 23 : Int32).toNatClampNeg)), (5, .int (if ki xv.toNatClampNeg = 3 then sCount (co xv.toNatClampNeg).toInt32 else iBits (pr xv.toNatClampNeg))), (6, .int x11), (7, .int (ru (xs * 29 + 24 : Int32).toNatClampNeg))] → va_P D vwCl (wJ a cI cJ f13 f14 f21 u16 ++ wV a cI cJ ki co pr pa tw nv sv ++ wS a cI ru le li bn ip aw ns ++ wL a ++ wP a cI cZ pn pl po pf pt) H → va_D A (wJ a cI cJ f13 f14 f21 u16 ++ wV a cI cJ ki co pr pa tw nv sv ++ wS a cI ru le li bn ip aw ns ++ wL a ++ wP a cI cZ pn pl po pf pt) → va_S A s.heap H locs → W p l e R s m args below meth c H locs cells slots Q (F0 m 127 ls []) := by
              intro f21 ls H locs vc hl hP hD hS
              have vc := vc2 f21 vc
              refine lv_aload_n hx hb d_Ju_weighContains_127 rfl (lv_at hl 0 rfl) ?_
              refine va_get (D := D) (ci := 0) (v := .ref (a 12)) (C := R_Ju) (T := F_Ju) (N := 7) hx hb hts in_Ju hown hK hP 0 rfl rfl 1 (by decide) (hts _ fl_Ju_17) (fun _ h => h) rfl d_Ju_weighContains_128 ?_
              refine lv_iload_n hx hb d_Ju_weighContains_131 rfl (lv_at hl 1 rfl) ?_
              refine lv_bipush (v := 25) hx hb d_Ju_weighContains_132 (by decide) ?_
              obtain ⟨hpre, vc⟩ := vc
              refine pc_V (As := [.int xs, .int 25]) (rest := []) S (c_Sc_ruleOf l D a cI cJ cZ ru le li bn ip aw ns xs 25 hpre) wB_blind k_Sc_ruleOf i_Sc_ruleOf e_Sc_ruleOf o_Sc ml_Ju_78 hd_Sc_ruleOf (Nat.le_trans (by omega) hRf) (Nat.le_trans (by omega) hRl) hRc (va_recv hK hP (q0 := 10) (ci := 3) rfl rfl) (wB_at (hP.sub (ws' := (wS a cI ru le li bn ip aw ns)) [10, 11, 12, 13, 14, 15, 16] rfl) hK) hl.1 rfl (Nat.le_of_ble_eq_true rfl) d_Ju_weighContains_134 ?_
              refine lv_istore hx hb d_Ju_weighContains_137 hl (by decide) (lv' := [(8, .int (ru (xs * 29 + 25 : Int32).toNatClampNeg)), (0, .ref (a 20)), (1, .int xs), (2, .int xv), (3, .int xd), (4, .int (ru (xs * 29 + 23 : Int32).toNatClampNeg)), (5, .int (if ki xv.toNatClampNeg = 3 then sCount (co xv.toNatClampNeg).toInt32 else iBits (pr xv.toNatClampNeg))), (6, .int x11), (7, .int (ru (xs * 29 + 24 : Int32).toNatClampNeg))]) rfl (fun ls hl => ?_)
              refine lv_iload hx hb d_Ju_weighContains_139 (lv_at hl 0 rfl) ?_
              refine lv_iconst (v := (-1)) hx hb d_Ju_weighContains_141 (by decide) ?_
              refine lv_icmp_eq (tgt := 160) hx hb d_Ju_weighContains_142 (by decide) (fun h => ?_) (fun h => ?_)
              · have vc := vc.1 h
                exact hret _ _ _ _ _ _ _ _ _ _ _ _ _ _ _ _ _ _ _ _ _ _ _ ls _ H locs d_Ju_weighContains_160 vc hP hD hS
              · have vc := vc.2 h
                refine lv_iload hx hb d_Ju_weighContains_145 (lv_at hl 7 rfl) ?_
                refine lv_iload hx hb d_Ju_weighContains_147 (lv_at hl 0 rfl) ?_
                refine lv_icmp_le (tgt := 160) hx hb d_Ju_weighContains_149 (by decide) (fun h => ?_) (fun h => ?_)
                · have vc := vc.1 h
                  exact hret _ _ _ _ _ _ _ _ _ _ _ _ _ _ _ _ _ _ _ _ _ _ _ ls _ H locs d_Ju_weighContains_160 vc hP hD hS
                · have vc := vc.2 h
                  refine lv_aload_n hx hb d_Ju_weighContains_152 rfl (lv_at hl 1 rfl) ?_
                  refine lv_iload_n hx hb d_Ju_weighContains_153 rfl (lv_at hl 2 rfl) ?_
                  refine lv_iload_n hx hb d_Ju_weighContains_154 rfl (lv_at hl 3 rfl) ?_
                  refine lv_bipush (v := 25) hx hb d_Ju_weighContains_155 (by decide) ?_
                  obtain ⟨hpre, vc⟩ := vc
                  refine wc_V (As := [.int xs, .int xv, .int 25]) (rest := []) (wr := (wV a cI cJ ki co pr pa tw nv sv ++ wS a cI ru le li bn ip aw ns ++ wL a ++ wP a cI cZ pn pl po pf pt)) S (c_Ju_fail l D a cI cJ cZ f13 f14 f21 u16 xs xv 25 hpre) k_Ju_fail i_Ju_fail e_Ju_fail o_Ju ml_Ju_87 hd_Ju_fail (Nat.le_trans (by omega) hRf) (Nat.le_trans (by omega) hRl) hRc (va_recv hK hP (q0 := 0) (ci := 0) rfl rfl) hK hP hD hS hA [0, 1, 2, 3] [4, 5, 6, 7, 8, 9, 10, 11, 12, 13, 14, 15, 16, 17, 18, 19, 20, 21, 22, 23] rfl rfl rfl (by decide) (by decide) (by decide) hl.1 rfl (Nat.le_of_ble_eq_true rfl) d_Ju_weighContains_157 (fun _ H locs _ hP hD hS => ?_)
                  have hP : va_P D vwCl (wJ a cI cJ f13 f14 (vp_updL f21 (xv * 24 + xs : Int32).toNatClampNeg ((f21 (xv * 24 + xs : Int32).toNatClampNeg) ||| (1 <<< ((25 : Int32).toInt64 &&& 63)))) u16 ++ wV a cI cJ ki co pr pa tw nv sv ++ wS a cI ru le li bn ip aw ns ++ wL a ++ wP a cI cZ pn pl po pf pt) H := hP.sub [20, 21, 22, 23, 0, 1, 2, 3, 4, 5, 6, 7, 8, 9, 10, 11, 12, 13, 14, 15, 16, 17, 18, 19] rfl
                  have hD : va_D A (wJ a cI cJ f13 f14 (vp_updL f21 (xv * 24 + xs : Int32).toNatClampNeg ((f21 (xv * 24 + xs : Int32).toNatClampNeg) ||| (1 <<< ((25 : Int32).toInt64 &&& 63)))) u16 ++ wV a cI cJ ki co pr pa tw nv sv ++ wS a cI ru le li bn ip aw ns ++ wL a ++ wP a cI cZ pn pl po pf pt) := hD.sub [20, 21, 22, 23, 0, 1, 2, 3, 4, 5, 6, 7, 8, 9, 10, 11, 12, 13, 14, 15, 16, 17, 18, 19] (by decide) rfl
                  exact hret _ _ _ _ _ _ _ _ _ _ _ _ _ _ _ _ _ _ _ _ _ _ _ ls _ H locs d_Ju_weighContains_160 vc hP hD hS
            clear vc2
            refine lv_icmp_ge (tgt := 127) hx hb d_Ju_weighContains_116 (by decide) (fun h => ?_) (fun h => ?_)
            · have vc := vc.1 h
              exact jJ20 f15 ls H locs vc (lv_sub hl [0, 1, 2, 3, 4, 5, 6, 7] rfl) hP hD hS
            · have vc := vc.2 h
              refine lv_aload_n hx hb d_Ju_weighContains_119 rfl (lv_at hl 0 rfl) ?_
              refine lv_iload_n hx hb d_Ju_weighContains_120 rfl (lv_at hl 1 rfl) ?_
              refine lv_iload_n hx hb d_Ju_weighContains_121 rfl (lv_at hl 2 rfl) ?_
              refine lv_bipush (v := 23) hx hb d_Ju_weighContains_122 (by decide) ?_
              obtain ⟨hpre, vc⟩ := vc
              refine wc_V (As := [.int xs, .int xv, .int 23]) (rest := []) (wr := (wV a cI cJ ki co pr pa tw nv sv ++ wS a cI ru le li bn ip aw ns ++ wL a ++ wP a cI cZ pn pl po pf pt)) S (c_Ju_fail l D a cI cJ cZ f13 f14 f15 u16 xs xv 23 hpre) k_Ju_fail i_Ju_fail e_Ju_fail o_Ju ml_Ju_87 hd_Ju_fail (Nat.le_trans (by omega) hRf) (Nat.le_trans (by omega) hRl) hRc (va_recv hK hP (q0 := 0) (ci := 0) rfl rfl) hK hP hD hS hA [0, 1, 2, 3] [4, 5, 6, 7, 8, 9, 10, 11, 12, 13, 14, 15, 16, 17, 18, 19, 20, 21, 22, 23] rfl rfl rfl (by decide) (by decide) (by decide) hl.1 rfl (Nat.le_of_ble_eq_true rfl) d_Ju_weighContains_124 (fun _ H locs _ hP hD hS => ?_)
              have hP : va_P D vwCl (wJ a cI cJ f13 f14 (vp_updL f15 (xv * 24 + xs : Int32).toNatClampNeg ((f15 (xv * 24 + xs : Int32).toNatClampNeg) ||| (1 <<< ((23 : Int32).toInt64 &&& 63)))) u16 ++ wV a cI cJ ki co pr pa tw nv sv ++ wS a cI ru le li bn ip aw ns ++ wL a ++ wP a cI cZ pn pl po pf pt) H := hP.sub [20, 21, 22, 23, 0, 1, 2, 3, 4, 5, 6, 7, 8, 9, 10, 11, 12, 13, 14, 15, 16, 17, 18, 19] rfl
              have hD : va_D A (wJ a cI cJ f13 f14 (vp_updL f15 (xv * 24 + xs : Int32).toNatClampNeg ((f15 (xv * 24 + xs : Int32).toNatClampNeg) ||| (1 <<< ((23 : Int32).toInt64 &&& 63)))) u16 ++ wV a cI cJ ki co pr pa tw nv sv ++ wS a cI ru le li bn ip aw ns ++ wL a ++ wP a cI cZ pn pl po pf pt) := hD.sub [20, 21, 22, 23, 0, 1, 2, 3, 4, 5, 6, 7, 8, 9, 10, 11, 12, 13, 14, 15, 16, 17, 18, 19] (by decide) rfl
              exact jJ20 (vp_updL f15 (xv * 24 + xs : Int32).toNatClampNeg ((f15 (xv * 24 + xs : Int32).toNatClampNeg) ||| (1 <<< ((23 : Int32).toInt64 &&& 63)))) ls H locs vc (lv_sub hl [0, 1, 2, 3, 4, 5, 6, 7] rfl) hP hD hS
          clear vc2
          refine lv_icmp_ne (tgt := 114) hx hb d_Ju_weighContains_107 (by decide) (fun h => ?_) (fun h => ?_)
          · have vc := vc.1 h
            refine lv_iload hx hb d_Ju_weighContains_114 (lv_at hl 0 rfl) ?_
            exact jJ18 (ru (xs * 29 + 24 : Int32).toNatClampNeg) ls H locs vc (lv_sub hl [1, 2, 3, 4, 5, 6, 7, 0] rfl) hP hD hS
          · have vc := vc.2 h
            refine lv_iconst (v := 1) hx hb d_Ju_weighContains_110 (by decide) ?_
            refine lv_goto (tgt := 116) hx hb d_Ju_weighContains_111 (by decide) ?_
            exact jJ18 1 ls H locs vc (lv_sub hl [1, 2, 3, 4, 5, 6, 7, 0] rfl) hP hD hS
        · have vc := vc.2 h
          refine lv_aload_n hx hb d_Ju_weighContains_42 rfl (lv_at hl 0 rfl) ?_
          refine lv_iload_n hx hb d_Ju_weighContains_43 rfl (lv_at hl 1 rfl) ?_
          refine lv_iload_n hx hb d_Ju_weighContains_44 rfl (lv_at hl 2 rfl) ?_
          refine lv_iload hx hb d_Ju_weighContains_45 (lv_at hl 4 rfl) ?_
          refine lv_aload_n hx hb d_Ju_weighContains_47 rfl (lv_at hl 0 rfl) ?_
          refine va_get (D := D) (ci := 0) (v := .ref (a 0)) (C := R_Ju) (T := F_Ju) (N := 7) hx hb hts in_Ju hown hK hP 0 rfl rfl 0 (by decide) (hts _ fl_Ju_11) (fun _ h => h) rfl d_Ju_weighContains_48 ?_
          refine lv_iload_n hx hb d_Ju_weighContains_51 rfl (lv_at hl 2 rfl) ?_
          refine lv_iload hx hb d_Ju_weighContains_52 (lv_at hl 7 rfl) ?_
          obtain ⟨hpre, vc⟩ := vc
          refine pc_V (As := [.int xv, .int x12]) (rest := [.int (ru (xs * 29 + 23 : Int32).toNatClampNeg), .int xv, .int xs, .ref (a 20)]) S (c_Va_partOf l D a cI cJ cZ ki co pr pa tw nv sv xv x12 hpre) wB_blind k_Va_partOf i_Va_partOf e_Va_partOf o_Va ml_Ju_143 hd_Va_partOf (Nat.le_trans (by omega) hRf) (Nat.le_trans (by omega) hRl) hRc (va_recv hK hP (q0 := 4) (ci := 4) rfl rfl) (wB_at (hP.sub (ws' := (wV a cI cJ ki co pr pa tw nv sv)) [4, 5, 6, 7, 8, 9] rfl) hK) hl.1 rfl (Nat.le_of_ble_eq_true rfl) d_Ju_weighContains_54 ?_
          refine lv_iload_n hx hb d_Ju_weighContains_57 rfl (lv_at hl 3 rfl) ?_
          obtain ⟨hpre, vc⟩ := vc
          refine ec_V (As := [.int xs, .int xv, .int (ru (xs * 29 + 23 : Int32).toNatClampNeg), .int (pa (xv * 12 + x12 : Int32).toNatClampNeg), .int xd]) (rest := []) (wr := ([] : va_W)) S (c_Ju_ask l D a cI cJ cZ z HW f13 f14 f15 u16 ki co pr pa tw nv sv ru le li bn ip aw ns pn pl po pf pt xs xv (ru (xs * 29 + 23 : Int32).toNatClampNeg) (pa (xv * 12 + x12 : Int32).toNatClampNeg) xd hpre) k_Ju_ask i_Ju_ask e_Ju_ask o_Ju ml_Ju_112 hd_Ju_ask (Nat.le_trans (by omega) hRf) (Nat.le_trans (by omega) hRl) hRc (va_recv hK hP (q0 := 0) (ci := 0) rfl rfl) hK hP hD hS hA hX [0, 1, 2, 3, 4, 5, 6, 7, 8, 9, 10, 11, 12, 13, 14, 15, 16, 17, 18, 19, 20, 21, 22, 23] [] rfl rfl rfl (by decide) (by decide) (by decide) hl.1 rfl (Nat.le_of_ble_eq_true rfl) d_Ju_weighContains_58 (fun u H locs hu hP hD hS => ?_)
          obtain ⟨t22, f23, f24, f25, u26⟩ := u
          have vc := vc t22 f23 f24 f25 u26 hu
          clear hu
          have hP : va_P D vwCl (wJ a cI cJ f23 f24 f25 u26 ++ wV a cI cJ ki co pr pa tw nv sv ++ wS a cI ru le li bn ip aw ns ++ wL a ++ wP a cI cZ pn pl po pf pt) H := hP
          have hD : va_D A (wJ a cI cJ f23 f24 f25 u26 ++ wV a cI cJ ki co pr pa tw nv sv ++ wS a cI ru le li bn ip aw ns ++ wL a ++ wP a cI cZ pn pl po pf pt) := hD
          refine lv_if_eq (tgt := 84) hx hb d_Ju_weighContains_61 (by decide) (fun h => ?_) (fun h => ?_)
          · have vc := vc.1 h
            refine lv_iinc (k := 7) (v := x12 + 1) hx hb d_Ju_weighContains_84 hl rfl rfl (by decide) (lv' := [(7, .int (x12 + 1)), (0, .ref (a 20)), (1, .int xs), (2, .int xv), (3, .int xd), (4, .int (ru (xs * 29 + 23 : Int32).toNatClampNeg)), (5, .int (if ki xv.toNatClampNeg = 3 then sCount (co xv.toNatClampNeg).toInt32 else iBits (pr xv.toNatClampNeg))), (6, .int x11)]) rfl (fun ls hl => ?_)
            refine lv_goto (tgt := 35) hx hb d_Ju_weighContains_87 (by decide) ?_
            exact ihI17 x11 (x12 + 1) f23 f24 f25 u26 ls H locs vc.1 (Nat.lt_of_lt_of_le vc.2 (Nat.le_of_lt_succ hmI17)) (lv_sub hl [1, 2, 3, 4, 5, 6, 7, 0] rfl) hP hD hS
          · have vc := vc.2 h
            refine lv_aload_n hx hb d_Ju_weighContains_64 rfl (lv_at hl 0 rfl) ?_
            refine va_get (D := D) (ci := 0) (v := .ref (a 22)) (C := R_Ju) (T := F_Ju) (N := 7) hx hb hts in_Ju hown hK hP 0 rfl rfl 4 (by decide) (hts _ fl_Ju_29) (fun _ h => h) rfl d_Ju_weighContains_65 ?_
            refine lv_iload_n hx hb d_Ju_weighContains_68 rfl (lv_at hl 1 rfl) ?_
            refine lv_iload_n hx hb d_Ju_weighContains_69 rfl (lv_at hl 2 rfl) ?_
            refine pc_S (As := [.int xs, .int xv]) (rest := [.ref (a 22)]) S (c_Ju_pairOf l xs xv) wT_blind k_Ju_pairOf s_Ju_pairOf o_Ju ml_Ju_59 hd_Ju_pairOf (Nat.le_trans (by omega) hRf) (Nat.le_trans (by omega) hRl) hRc (fun _ _ _ => trivial) hl.1 rfl (Nat.le_of_ble_eq_true rfl) d_Ju_weighContains_70 ?_
            refine lv_dup2_11 hx hb d_Ju_weighContains_73 rfl rfl ?_
            obtain ⟨vcb, vc⟩ := vc
            refine va_iald hx hb hK hP 2 0 rfl rfl vcb d_Ju_weighContains_74 ?_
            refine lv_iconst (v := 1) hx hb d_Ju_weighContains_75 (by decide) ?_
            refine lv_iload hx hb d_Ju_weighContains_76 (lv_at hl 7 rfl) ?_
            refine lv_ishl hx hb d_Ju_weighContains_78 ?_
            refine lv_ior hx hb d_Ju_weighContains_79 ?_
            obtain ⟨vcb, vc⟩ := vc
            refine va_iast hx hb hK hP hD hS 2 0 rfl rfl vcb d_Ju_weighContains_80 (fun H locs hP hD hS => ?_)
            have hP : va_P D vwCl (wJ a cI cJ f23 (upd f24 (xv * 24 + xs : Int32).toNatClampNeg ((f24 (xv * 24 + xs : Int32).toNatClampNeg) ||| (1 <<< (x12 &&& 31)))) f25 u26 ++ wV a cI cJ ki co pr pa tw nv sv ++ wS a cI ru le li bn ip aw ns ++ wL a ++ wP a cI cZ pn pl po pf pt) H := hP
            have hD : va_D A (wJ a cI cJ f23 (upd f24 (xv * 24 + xs : Int32).toNatClampNeg ((f24 (xv * 24 + xs : Int32).toNatClampNeg) ||| (1 <<< (x12 &&& 31)))) f25 u26 ++ wV a cI cJ ki co pr pa tw nv sv ++ wS a cI ru le li bn ip aw ns ++ wL a ++ wP a cI cZ pn pl po pf pt) := hD
            refine lv_iinc (k := 6) (v := x11 + 1) hx hb d_Ju_weighContains_81 hl rfl rfl (by decide) (lv' := [(6, .int (x11 + 1)), (0, .ref (a 20)), (1, .int xs), (2, .int xv), (3, .int xd), (4, .int (ru (xs * 29 + 23 : Int32).toNatClampNeg)), (5, .int (if ki xv.toNatClampNeg = 3 then sCount (co xv.toNatClampNeg).toInt32 else iBits (pr xv.toNatClampNeg))), (7, .int x12)]) rfl (fun ls hl => ?_)
            refine lv_iinc (k := 7) (v := x12 + 1) hx hb d_Ju_weighContains_84 hl rfl rfl (by decide) (lv' := [(7, .int (x12 + 1)), (6, .int (x11 + 1)), (0, .ref (a 20)), (1, .int xs), (2, .int xv), (3, .int xd), (4, .int (ru (xs * 29 + 23 : Int32).toNatClampNeg)), (5, .int (if ki xv.toNatClampNeg = 3 then sCount (co xv.toNatClampNeg).toInt32 else iBits (pr xv.toNatClampNeg)))]) rfl (fun ls hl => ?_)
            refine lv_goto (tgt := 35) hx hb d_Ju_weighContains_87 (by decide) ?_
            exact ihI17 (x11 + 1) (x12 + 1) f23 (upd f24 (xv * 24 + xs : Int32).toNatClampNeg ((f24 (xv * 24 + xs : Int32).toNatClampNeg) ||| (1 <<< (x12 &&& 31)))) f25 u26 ls H locs vc.1 (Nat.lt_of_lt_of_le vc.2 (Nat.le_of_lt_succ hmI17)) (lv_sub hl [2, 3, 4, 5, 6, 7, 1, 0] rfl) hP hD hS
    exact lI17 _ 0 0 ch ma br tl ls H locs vc0 (Nat.lt_succ_self _) (lv_sub hl [4, 5, 6, 7, 3, 2, 1, 0] rfl) hP hD hS
  · have vc := vc.2 h
    exact hret _ _ _ _ _ _ _ _ _ _ _ _ _ _ _ _ _ _ _ _ _ _ _ ls _ H locs d_Ju_weighContains_18 vc hP hD hS
set_option maxHeartbeats 4000000 in
theorem v_Ju_weighContains (z : Nat) (ch : Nat → Int32) (ma : Nat → Int32) (br : Nat → Int64) (tl : Int32) (ki : Nat → Int32) (co : Nat → Int64) (pr : Nat → Int32) (pa : Nat → Int32) (tw : Nat → Int32) (nv : Int32) (sv : Int32) (ru : Nat → Int32) (le : Nat → Int32) (li : Nat → Int32) (bn : Nat → Int32) (ip : Nat → Int32) (aw : Nat → Int32) (ns : Int32) (pn : Nat → Int32) (pl : Nat → Int32) (po : Nat → Int32) (pf : Nat → Int32) (pt : Nat → Int32) (xs : Int32) (xv : Int32) (xd : Int32) (hpre : (∃ n0 m0 s0 v0 d0 : Nat, JP ki co pr pa pn po ru le li bn nv ns tl z xs xv xd n0 m0 s0 v0 d0 ∧ ki v0 = 4)) : V_Ju_weighContains z ch ma br tl ki co pr pa tw nv sv ru le li bn ip aw ns pn pl po pf pt xs xv xd (fun ch' ma' br' tl' ki' co' pr' pa' tw' nv' sv' ru' le' li' bn' ip' aw' ns' pn' pl' po' pf' pt' => (((tl' = 0 ∨ tl' = 1) ∧ (tl = 1 → tl' = 1) ∧ ∀ (G : Sp) (R : Nat → Nat → Prop) (lv : Nat → Nat), (∃ va mk, G = gC ki co pr pa tw pn pl po pf pt ru le li bn nv.toNatClampNeg va mk) → Ctx G R lv → Ef G R lv xs.toNatClampNeg xv.toNatClampNeg xd.toNatClampNeg (AskCo G xs.toNatClampNeg xv.toNatClampNeg) (BadCo G xs.toNatClampNeg xv.toNatClampNeg) (MrkCo G xs.toNatClampNeg xv.toNatClampNeg) True ch ma br tl ch' ma' br' tl')) ∧ ki' = ki ∧ co' = co ∧ pr' = pr ∧ pa' = pa ∧ tw' = tw ∧ nv' = nv ∧ sv' = sv ∧ ru' = ru ∧ le' = le ∧ li' = li ∧ bn' = bn ∧ ip' = ip ∧ aw' = aw ∧ ns' = ns ∧ pn' = pn ∧ pl' = pl ∧ po' = po ∧ pf' = pf ∧ pt' = pt) := by
  have main : ∀ post : (Nat → Int32) → (Nat → Int32) → (Nat → Int64) → Int32 → (Nat → Int32) → (Nat → Int64) → (Nat → Int32) → (Nat → Int32) → (Nat → Int32) → Int32 → Int32 → (Nat → Int32) → (Nat → Int32) → (Nat → Int32) → (Nat → Int32) → (Nat → Int32) → (Nat → Int32) → Int32 → (Nat → Int32) → (Nat → Int32) → (Nat → Int32) → (Nat → Int32) → (Nat → Int32) → Prop, (∀ ch' ma' br' tl' ki' co' pr' pa' tw' nv' sv' ru' le' li' bn' ip' aw' ns' pn' pl' po' pf' pt', (fun ch' ma' br' tl' ki' co' pr' pa' tw' nv' sv' ru' le' li' bn' ip' aw' ns' pn' pl' po' pf' pt' => (((tl' = 0 ∨ tl' = 1) ∧ (tl = 1 → tl' = 1) ∧ ∀ (G : Sp) (R : Nat → Nat → Prop) (lv : Nat → Nat), (∃ va mk, G = gC ki co pr pa tw pn pl po pf pt ru le li bn nv.toNatClampNeg va mk) → Ctx G R lv → Ef G R lv xs.toNatClampNeg xv.toNatClampNeg xd.toNatClampNeg (AskCo G xs.toNatClampNeg xv.toNatClampNeg) (BadCo G xs.toNatClampNeg xv.toNatClampNeg) (MrkCo G xs.toNatClampNeg xv.toNatClampNeg) True ch ma br tl ch' ma' br' tl')) ∧ ki' = ki ∧ co' = co ∧ pr' = pr ∧ pa' = pa ∧ tw' = tw ∧ nv' = nv ∧ sv' = sv ∧ ru' = ru ∧ le' = le ∧ li' = li ∧ bn' = bn ∧ ip' = ip ∧ aw' = aw ∧ ns' = ns ∧ pn' = pn ∧ pl' = pl ∧ po' = po ∧ pf' = pf ∧ pt' = pt) ch' ma' br' tl' ki' co' pr' pa' tw' nv' sv' ru' le' li' bn' ip' aw' ns' pn' pl' po' pf' pt' → post ch' ma' br' tl' ki' co' pr' pa' tw' nv' sv' ru' le' li' bn' ip' aw' ns' pn' pl' po' pf' pt') → V_Ju_weighContains z ch ma br tl ki co pr pa tw nv sv ru le li bn ip aw ns pn pl po pf pt xs xv xd post := by
    intro post hpost
    unfold V_Ju_weighContains
    obtain ⟨n0, m0, s0, v0, d0, hJ, hk4⟩ := hpre
    have hJ0 := hJ
    obtain ⟨hs24, hv40, hm, hn⟩ := JP_s hJ
    obtain ⟨hnv, hns, hS, htl, rfl, rfl, rfl, hsm, hvn, hd1, hd30, hfuel⟩ := hJ
    have hPv : vp_in (nI (v0 * 24 + s0)) 960 := vp_in_nI (by omega) (by decide)
    have cs : (nI s0).toNatClampNeg = s0 := nI_clamp (by omega)
    have cv : (nI v0).toNatClampNeg = v0 := nI_clamp (by omega)
    have cd : (nI d0).toNatClampNeg = d0 := nI_clamp (by omega)
    have cP : (nI (v0 * 24 + s0)).toNatClampNeg = v0 * 24 + s0 := nI_clamp (by omega)
    have cn : nv.toNatClampNeg = n0 := by rw [hnv]; exact nI_clamp (by omega)
    have e23 : nI s0 * 29 + 23 = nI (s0 * 29 + 23) := ix29 (k := 23)
    have e24 : nI s0 * 29 + 24 = nI (s0 * 29 + 24) := ix29 (k := 24)
    have e25 : nI s0 * 29 + 25 = nI (s0 * 29 + 25) := ix29 (k := 25)
    have c23 : (nI (s0 * 29 + 23)).toNatClampNeg = s0 * 29 + 23 := nI_clamp (by omega)
    have c24 : (nI (s0 * 29 + 24)).toNatClampNeg = s0 * 29 + 24 := nI_clamp (by omega)
    have c25 : (nI (s0 * 29 + 25)).toNatClampNeg = s0 * 29 + 25 := nI_clamp (by omega)
    obtain ⟨L, hL, eL, hcp⟩ := row_size hS.1 hv40 hk4
    simp only [px24, e23, e24, e25, c23, c24, c25, cP, cs, cv, cd, cn, eL] at hpost ⊢
    have hpb : ∀ G, (∃ va mk, G = gC ki co pr pa tw pn pl po pf pt ru le li bn n0 va mk) → ∀ i, (gPb G v0 i ↔ i < L) := fun G hG i => by rw [(gC_eq hG).2.1]; exact hcp i
    have hox := (hS.2.2.2.2.1 s0 hs24).1 23 (by omega) (by omega) (by omega) (by omega)
    have toAsk : ∀ G, (∃ va mk, G = gC ki co pr pa tw pn pl po pf pt ru le li bn n0 va mk) → ∀ x w, AskCo G s0 v0 x w → Ask G s0 v0 x w := fun G hG x w q => Or.inr (Or.inl ⟨by rw [(gC_eq hG).1]; exact hk4, Or.inr (Or.inl q)⟩)
    refine ⟨vp_in_nI (by omega) (by decide), fun h => ?_, fun h => (hpost _ _ _ _ _ _ _ _ _ _ _ _ _ _ _ _ _ _ _ _ _ _ _ ⟨⟨htl, id, fun G R lv hG hC => ?_⟩, rfl, rfl, rfl, rfl, rfl, rfl, rfl, rfl, rfl, rfl, rfl, rfl, rfl, rfl, rfl, rfl, rfl, rfl, rfl⟩)⟩
    rotate_left
    · have hru : ¬ ruH G s0 23 := fun q => by unfold ruH at q; rw [(gC_eq hG).2.2.2.1, h] at q; exact q neg1_lt
      exact (Ef.refl trivial).congr (fun _ _ => ⟨False.elim, fun q => hru q.1⟩) (fun _ => ⟨False.elim, fun q => hru q.1⟩) (fun _ => ⟨False.elim, fun q => hru q.1⟩) id
    obtain ⟨x0, hx, ex⟩ := hox.resolve_left h
    have cx : (nI x0).toNatClampNeg = x0 := nI_clamp (by omega)
    rw [ex, cx]
    have hrV : ∀ G, (∃ va mk, G = gC ki co pr pa tw pn pl po pf pt ru le li bn n0 va mk) → ruV G s0 23 = x0 := fun G hG => by unfold ruV; rw [(gC_eq hG).2.2.2.1, ex, cx]
    have hrH : ∀ G, (∃ va mk, G = gC ki co pr pa tw pn pl po pf pt ru le li bn n0 va mk) → ruH G s0 23 := fun G hG => by unfold ruH; rw [(gC_eq hG).2.2.2.1, ex]; exact nI_pos (by omega)
    refine ⟨vp_in_nI hv40 (by decide), fun xc xj f g hh u => ∃ j c, j ≤ L ∧ c ≤ j ∧ xj = nI j ∧ xc = nI c ∧ EG (fun G => ∃ va mk, G = gC ki co pr pa tw pn pl po pf pt ru le li bn n0 va mk) s0 v0 d0 (fun G x w => x = x0 ∧ ∃ i, i < j ∧ w = gPt G v0 i) (fun _ _ => False) (fun G m => m < j ∧ gVa G x0 (gPt G v0 m)) (fun G => c = cN (fun i => gPb G v0 i ∧ gVa G x0 (gPt G v0 i)) j) ch ma br tl f g hh u, fun _ xj _ _ _ _ => L - xj.toInt.toNat, ⟨0, 0, Nat.zero_le _, Nat.le_refl _, rfl, rfl, EG.start htl (fun G _ => ⟨fun x w ⟨_, i, q, _⟩ => absurd q (Nat.not_lt_zero _), fun _ q => q, fun _ q => absurd q.1 (Nat.not_lt_zero _), rfl⟩)⟩, ?_⟩
    rintro xc xj f g hh u ⟨j, c, hj, hc, rfl, rfl, hI⟩
    refine ⟨fun h2 => ?_, fun h2 => ?_⟩
    · obtain rfl := (fill_end (N := L) h2 (by omega) hj).symm
      have hcnt : ∀ G, (∃ va mk, G = gC ki co pr pa tw pn pl po pf pt ru le li bn n0 va mk) → c = cN (fun i => gPb G v0 i ∧ gVa G x0 (gPt G v0 i)) L → cntC G s0 v0 = c := fun G hG hz => by
        unfold cntC; rw [hrV G hG, hz]
        exact cN_off 12 (by omega) (fun i h1 _ q => by have := (hpb G hG i).mp q.1; omega)
      have hA : ∀ G, (∃ va mk, G = gC ki co pr pa tw pn pl po pf pt ru le li bn n0 va mk) → ∀ x w, (x = x0 ∧ ∃ i, i < L ∧ w = gPt G v0 i) ↔ AskCo G s0 v0 x w := fun G hG x w => by
        unfold AskCo; rw [hrV G hG]
        exact ⟨fun ⟨q1, i, q2, q3⟩ => ⟨hrH G hG, q1, i, by omega, (hpb G hG i).mpr q2, q3⟩, fun ⟨_, q1, i, _, q2, q3⟩ => ⟨q1, i, (hpb G hG i).mp q2, q3⟩⟩
      have hM : ∀ G, (∃ va mk, G = gC ki co pr pa tw pn pl po pf pt ru le li bn n0 va mk) → ∀ m, (m < L ∧ gVa G x0 (gPt G v0 m)) ↔ MrkCo G s0 v0 m := fun G hG m => by
        unfold MrkCo; rw [hrV G hG]
        exact ⟨fun q => ⟨hrH G hG, by omega, (hpb G hG m).mpr q.1, q.2⟩, fun q => ⟨(hpb G hG m).mp q.2.2.1, q.2.2.2⟩⟩
      have ho24 := hS.2.2.2.2.2.1 s0 24 hs24 (by omega)
      have ho25 := hS.2.2.2.2.2.1 s0 25 hs24 (by omega)
      obtain ⟨fw, hfw, efw, hfwG⟩ : ∃ fw, fw ≤ 12 ∧ (if ru (s0 * 29 + 24) = -1 then (1 : Int32) else ru (s0 * 29 + 24)) = nI fw ∧ ∀ G, (∃ va mk, G = gC ki co pr pa tw pn pl po pf pt ru le li bn n0 va mk) → ∀ k, ((ruH G s0 24 ∧ k < ruV G s0 24) ∨ (¬ ruH G s0 24 ∧ k < 1)) ↔ k < fw := by
        by_cases e : ru (s0 * 29 + 24) = -1
        · refine ⟨1, by decide, by rw [if_pos e]; rfl, fun G hG k => ?_⟩
          have hru : ¬ ruH G s0 24 := fun q => by unfold ruH at q; rw [(gC_eq hG).2.2.2.1, e] at q; exact q neg1_lt
          exact ⟨fun q => q.elim (fun q => absurd q.1 hru) (fun q => q.2), fun q => Or.inr ⟨hru, q⟩⟩
        · obtain ⟨q, e1, _, _, _, _, _, _, e2, _⟩ := ho24.resolve_left e
          have q12 := e2 (by omega)
          refine ⟨q, q12, by rw [if_neg e]; exact e1, fun G hG k => ?_⟩
          have hru : ruH G s0 24 := by unfold ruH; rw [(gC_eq hG).2.2.2.1, e1]; exact nI_pos (by omega)
          have hrv : ruV G s0 24 = q := by unfold ruV; rw [(gC_eq hG).2.2.2.1, e1]; exact nI_clamp (by omega)
          rw [hrv]
          exact ⟨fun z => z.elim (fun z => z.2) (fun z => absurd hru z.1), fun z => Or.inl ⟨hru, z⟩⟩
      refine ⟨vp_in_nI (by omega) (by decide), jn_f (c := ru (s0 * 29 + 24) = -1) ?_⟩
      rw [efw, nI_leI (by omega) (by omega)]
      refine ⟨fun h3 => EG (fun G => ∃ va mk, G = gC ki co pr pa tw pn pl po pf pt ru le li bn n0 va mk) s0 v0 d0 (fun G x w => x = x0 ∧ ∃ i, i < L ∧ w = gPt G v0 i) (fun G b => b = 23 ∧ c < fw) (fun G m => m < L ∧ gVa G x0 (gPt G v0 m)) (fun G => c = cN (fun i => gPb G v0 i ∧ gVa G x0 (gPt G v0 i)) L) ch ma br tl f g h3 u, ⟨fun h3 => hI.same (fun G _ hz => ⟨fun _ _ => Iff.rfl, fun b => ⟨False.elim, fun q => by omega⟩, fun _ => Iff.rfl, hz⟩), fun h3 => ⟨hPv, hI.fail (k := 23) hs24 (by decide) (fun G _ hz => ⟨fun _ _ => Iff.rfl, fun b => ⟨fun q => ⟨q.elim False.elim id, by omega⟩, fun q => Or.inr q.1⟩, fun _ => Iff.rfl, hz⟩)⟩⟩, ?_⟩
      intro h3 hI3
      refine ⟨vp_in_nI (by omega) (by decide), fun h4 => (hpost _ _ _ _ _ _ _ _ _ _ _ _ _ _ _ _ _ _ _ _ _ _ _ ⟨hI3.same (fun G hG hz => ⟨hA G hG, fun b => ?_, hM G hG, trivial⟩), rfl, rfl, rfl, rfl, rfl, rfl, rfl, rfl, rfl, rfl, rfl, rfl, rfl, rfl, rfl, rfl, rfl, rfl, rfl⟩), fun h4 => ?_⟩
      · have hru : ¬ ruH G s0 25 := fun q => by unfold ruH at q; rw [(gC_eq hG).2.2.2.1, h4] at q; exact q neg1_lt
        unfold BadCo; rw [hcnt G hG hz]
        constructor
        · rintro ⟨q1, q2⟩; exact ⟨hrH G hG, Or.inl ⟨q1, (hfwG G hG c).mpr q2⟩⟩
        · rintro ⟨_, ⟨q1, q2⟩ | ⟨_, q2, _⟩⟩
          · exact ⟨q1, (hfwG G hG c).mp q2⟩
          · exact absurd q2 hru
      · obtain ⟨q, e1, _, _, _, _, _, _, e2, _⟩ := ho25.resolve_left h4
        have q12 := e2 (by omega)
        have hru : ∀ G, (∃ va mk, G = gC ki co pr pa tw pn pl po pf pt ru le li bn n0 va mk) → ruH G s0 25 := fun G hG => by unfold ruH; rw [(gC_eq hG).2.2.2.1, e1]; exact nI_pos (by omega)
        have hrv : ∀ G, (∃ va mk, G = gC ki co pr pa tw pn pl po pf pt ru le li bn n0 va mk) → ruV G s0 25 = q := fun G hG => by unfold ruV; rw [(gC_eq hG).2.2.2.1, e1]; exact nI_clamp (by omega)
        rw [e1, nI_leI (by omega) (by omega)]
        refine ⟨fun h5 => (hpost _ _ _ _ _ _ _ _ _ _ _ _ _ _ _ _ _ _ _ _ _ _ _ ⟨hI3.same (fun G hG hz => ⟨hA G hG, fun b => ?_, hM G hG, trivial⟩), rfl, rfl, rfl, rfl, rfl, rfl, rfl, rfl, rfl, rfl, rfl, rfl, rfl, rfl, rfl, rfl, rfl, rfl, rfl⟩), fun h5 => ⟨hPv, (hpost _ _ _ _ _ _ _ _ _ _ _ _ _ _ _ _ _ _ _ _ _ _ _ ⟨hI3.fail (k := 25) hs24 (by decide) (fun G hG hz => ⟨hA G hG, fun b => ?_, hM G hG, trivial⟩), rfl, rfl, rfl, rfl, rfl, rfl, rfl, rfl, rfl, rfl, rfl, rfl, rfl, rfl, rfl, rfl, rfl, rfl, rfl⟩)⟩⟩
        · unfold BadCo; rw [hcnt G hG hz, hrv G hG]
          constructor
          · rintro ⟨q1, q2⟩; exact ⟨hrH G hG, Or.inl ⟨q1, (hfwG G hG c).mpr q2⟩⟩
          · rintro ⟨_, ⟨q1, q2⟩ | ⟨_, _, q2⟩⟩
            · exact ⟨q1, (hfwG G hG c).mp q2⟩
            · omega
        · unfold BadCo; rw [hcnt G hG hz, hrv G hG]
          constructor
          · rintro (⟨q1, q2⟩ | q1)
            · exact ⟨hrH G hG, Or.inl ⟨q1, (hfwG G hG c).mpr q2⟩⟩
            · exact ⟨hrH G hG, Or.inr ⟨q1, hru G hG, by omega⟩⟩
          · rintro ⟨_, ⟨q1, q2⟩ | ⟨q1, _⟩⟩
            · exact Or.inl ⟨q1, (hfwG G hG c).mp q2⟩
            · exact Or.inr q1
    · have hj2 := fill_step (N := L) h2 (by omega) hj
      have hcb := (hcp j).mpr hj2
      obtain ⟨p0, hp0, ep⟩ := (hS.1.2.2 v0 hv40).2.2.1 j (by omega) hcb.1
      have hpt : ∀ G, (∃ va mk, G = gC ki co pr pa tw pn pl po pf pt ru le li bn n0 va mk) → gPt G v0 j = p0 := fun G hG => by rw [(gC_eq hG).2.2.1, cpt_at hcb, ep]; exact nI_clamp (by omega)
      have cp : (nI p0).toNatClampNeg = p0 := nI_clamp (by omega)
      have i12 : nI v0 * 12 + nI j = nI (v0 * 12 + j) := by rw [nI_mulR, nI_add]
      have c12 : (nI (v0 * 12 + j)).toNatClampNeg = v0 * 12 + j := nI_clamp (by omega)
      have mu := fill_mu (N := L) hj2 (by omega)
      rw [i12, c12, ep, cp]
      have stepA : ∀ G, (∃ va mk, G = gC ki co pr pa tw pn pl po pf pt ru le li bn n0 va mk) → ∀ x w, ((x = x0 ∧ ∃ i, i < j ∧ w = gPt G v0 i) ∨ (x = x0 ∧ w = p0)) ↔ (x = x0 ∧ ∃ i, i < j + 1 ∧ w = gPt G v0 i) := fun G hG x w => by
        constructor
        · rintro (⟨q1, i, q2, q3⟩ | ⟨q1, q2⟩)
          · exact ⟨q1, i, by omega, q3⟩
          · exact ⟨q1, j, by omega, by rw [hpt G hG]; exact q2⟩
        · rintro ⟨q1, i, q2, q3⟩
          by_cases e : i = j
          · subst e; exact Or.inr ⟨q1, by rw [← hpt G hG]; exact q3⟩
          · exact Or.inl ⟨q1, i, by omega, q3⟩
      refine ⟨vp_in_nI (by omega) (by decide), ⟨n0, m0, s0, v0, d0, hJ0.re hI.1, ⟨x0, hx, rfl⟩, p0, by omega, rfl⟩, fun t f1 g1 h1 u1 hp => ⟨fun h3 => ⟨⟨j + 1, c, hj2, by omega, nI_1 j, rfl, ?_⟩, mu⟩, fun h3 => ⟨hPv, hPv, ⟨j + 1, c + 1, hj2, by omega, nI_1 j, nI_1 c, ?_⟩, mu⟩⟩⟩
      · refine hI.next hp.1 hp.2.1 (fun G R lv hG hC _ => hp.2.2 G R lv hG hC (toAsk G hG _ _ ⟨hrH G hG, (hrV G hG).symm, j, by omega, (hpb G hG j).mpr hj2, (hpt G hG).symm⟩)) (fun G hG hz hz' => ⟨stepA G hG, fun b => ⟨fun q => q.elim id id, Or.inl⟩, fun m => ?_, ?_⟩)
        · constructor
          · rintro (⟨q1, q2⟩ | q)
            · exact ⟨by omega, q2⟩
            · exact q.elim
          · rintro ⟨q1, q2⟩
            by_cases e : m = j
            · subst e; rw [hpt G hG] at q2
              have := hz'.1.mpr q2; rw [bI0.mp h3] at this; exact absurd this (by decide)
            · exact Or.inl ⟨by omega, q2⟩
        · rw [cN_s.2 (by rw [hpt G hG]; exact fun q => by have := hz'.1.mpr q.2; rw [bI0.mp h3] at this; exact absurd this (by decide))]; exact hz
      · have h4 : EG (fun G => ∃ va mk, G = gC ki co pr pa tw pn pl po pf pt ru le li bn n0 va mk) s0 v0 d0 (fun G x w => x = x0 ∧ ∃ i, i < j + 1 ∧ w = gPt G v0 i) (fun _ _ => False) (fun G m => m < j ∧ gVa G x0 (gPt G v0 m)) (fun G => c + 1 = cN (fun i => gPb G v0 i ∧ gVa G x0 (gPt G v0 i)) (j + 1) ∧ gVa G x0 (gPt G v0 j)) ch ma br tl f1 g1 h1 u1 := by
          refine hI.next hp.1 hp.2.1 (fun G R lv hG hC _ => hp.2.2 G R lv hG hC (toAsk G hG _ _ ⟨hrH G hG, (hrV G hG).symm, j, by omega, (hpb G hG j).mpr hj2, (hpt G hG).symm⟩)) (fun G hG hz hz' => ⟨stepA G hG, fun b => ⟨fun q => q.elim id id, Or.inl⟩, fun m => ⟨fun q => q.elim id False.elim, Or.inl⟩, ?_, ?_⟩)
          · rw [cN_s.1 ⟨(hpb G hG j).mpr hj2, by rw [hpt G hG]; exact hz'.1.mp (bI_ne.mp h3)⟩, ← hz]
          · rw [hpt G hG]; exact hz'.1.mp (bI_ne.mp h3)
        refine h4.next h4.1 id (fun G R lv _ _ _ => Ef.mark (M1 := fun i => i = j) hs24 (fun _ _ _ i _ => by rw [b_shl1 (by omega), decide_eq_true_eq])) (fun G hG hz _ => ⟨fun x w => ⟨fun q => q.elim id False.elim, Or.inl⟩, fun b => ⟨fun q => q.elim id id, Or.inl⟩, fun m => ?_, hz.1⟩)
        constructor
        · rintro (⟨q1, q2⟩ | q)
          · exact ⟨by omega, q2⟩
          · subst q; exact ⟨by omega, hz.2⟩
        · rintro ⟨q1, q2⟩
          by_cases e : m = j
          · exact Or.inr e
          · exact Or.inl ⟨by omega, q2⟩
  exact main _ (fun _ _ _ _ _ _ _ _ _ _ _ _ _ _ _ _ _ _ _ _ _ _ _ h => h)
theorem c_Ju_weighContains (l : Launch) (D : va_G) (a : Nat → Nat) (cI cJ cZ : ClassId) (z : Nat) (HW : WQ l D a cI cJ cZ z) (ch : Nat → Int32) (ma : Nat → Int32) (br : Nat → Int64) (tl : Int32) (ki : Nat → Int32) (co : Nat → Int64) (pr : Nat → Int32) (pa : Nat → Int32) (tw : Nat → Int32) (nv : Int32) (sv : Int32) (ru : Nat → Int32) (le : Nat → Int32) (li : Nat → Int32) (bn : Nat → Int32) (ip : Nat → Int32) (aw : Nat → Int32) (ns : Int32) (pn : Nat → Int32) (pl : Nat → Int32) (po : Nat → Int32) (pf : Nat → Int32) (pt : Nat → Int32) (xs : Int32) (xv : Int32) (xd : Int32) (hpre : (∃ n0 m0 s0 v0 d0 : Nat, JP ki co pr pa pn po ru le li bn nv ns tl z xs xv xd n0 m0 s0 v0 d0 ∧ ki v0 = 4)) : Em (S := (Nat → Int32) × (Nat → Int32) × (Nat → Int64) × Int32) l y_Ju_weighContains b_Ju_weighContains 9 none (5 * z + 12) (200 * z + 150) [.ref (a 20), .int xs, .int xv, .int xd] D (tyA cI cJ cZ) (wJ a cI cJ ch ma br tl ++ wV a cI cJ ki co pr pa tw nv sv ++ wS a cI ru le li bn ip aw ns ++ wL a ++ wP a cI cZ pn pl po pf pt) (fun uu => ((uu.2.2.2 = 0 ∨ uu.2.2.2 = 1) ∧ (tl = 1 → uu.2.2.2 = 1) ∧ ∀ (G : Sp) (R : Nat → Nat → Prop) (lv : Nat → Nat), (∃ va mk, G = gC ki co pr pa tw pn pl po pf pt ru le li bn nv.toNatClampNeg va mk) → Ctx G R lv → Ef G R lv xs.toNatClampNeg xv.toNatClampNeg xd.toNatClampNeg (AskCo G xs.toNatClampNeg xv.toNatClampNeg) (BadCo G xs.toNatClampNeg xv.toNatClampNeg) (MrkCo G xs.toNatClampNeg xv.toNatClampNeg) True ch ma br tl uu.1 uu.2.1 uu.2.2.1 uu.2.2.2)) (fun uu => none) (fun uu => (wJ a cI cJ uu.1 uu.2.1 uu.2.2.1 uu.2.2.2 ++ wV a cI cJ ki co pr pa tw nv sv ++ wS a cI ru le li bn ip aw ns ++ wL a ++ wP a cI cZ pn pl po pf pt)) :=
  em_v (by decide) (Nat.le_of_ble_eq_true rfl) (fun p e s m below meth c ls Q A S hK hP hD hA hS hX hl hret => g_Ju_weighContains S (Nat.le_refl _) (Nat.le_refl _) ⟨Nat.le_refl _, Nat.le_refl _⟩ D a cI cJ cZ HW ch ma br tl ki co pr pa tw nv sv ru le li bn ip aw ns pn pl po pf pt xs xv xd hK hP hD hA hS hX hl (v_Ju_weighContains z ch ma br tl ki co pr pa tw nv sv ru le li bn ip aw ns pn pl po pf pt xs xv xd hpre) (fun ch' ma' br' tl' ki' co' pr' pa' tw' nv' sv' ru' le' li' bn' ip' aw' ns' pn' pl' po' pf' pt' ls1 pc H1 locs1 hd hv hP1 hD1 hS1 => by obtain ⟨hp, rfl, rfl, rfl, rfl, rfl, rfl, rfl, rfl, rfl, rfl, rfl, rfl, rfl, rfl, rfl, rfl, rfl, rfl, rfl⟩ := hv; exact hret (ch', ma', br', tl') ls1 pc H1 locs1 hd hp hP1 hD1 hS1))
theorem hd_Ju_weighContains : y_Ju_weighContains.cls ≠ "java/lang/invoke/MethodHandle" ∧ y_Ju_weighContains.cls ≠ "java/lang/invoke/VarHandle" ∧ (parseMethodDescriptor y_Ju_weighContains.desc).map (fun d => d.parameters.length) = some 3 := ⟨by decide, by decide, by decide +kernel⟩
