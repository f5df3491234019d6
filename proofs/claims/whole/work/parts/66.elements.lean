theorem row_size {ki : Nat → Int32} {co : Nat → Int64} {pr pa : Nat → Int32} {n v : Nat} (hV : VOK ki co pr pa n) (hv : v < 40) (hk4 : ki v = 4) : ∃ L, L ≤ 8 ∧ (if ki v = 3 then sCount (co v).toInt32 else iBits (pr v)) = nI L ∧ ∀ i, cpb ki pr v i ↔ i < L := by
  obtain ⟨hn, hpa, hV⟩ := hV
  obtain ⟨_, hb, _, hrow, _⟩ := hV v hv
  obtain ⟨L, hL, bL⟩ := hrow hk4
  refine ⟨L, hL, ?_, fun i => ?_⟩
  · rw [if_neg (by rw [hk4]; decide), size_cN hv hb (Or.inl hk4)]
    congr 1
    have : cN (cpb ki pr v) 12 = cN (fun i => i < L) 12 := cN_iff 12 (fun i hi => by
      unfold cpb; rw [bL i hi, decide_eq_true_eq]; exact ⟨fun h => h.1, fun h => ⟨h, hi, hv, Or.inl hk4⟩⟩)
    rw [this]; exact cN_lt_eq L 12 (by omega)
  · unfold cpb
    constructor
    · rintro ⟨h1, h2, _⟩; rw [bL i h2] at h1; exact of_decide_eq_true h1
    · intro h; exact ⟨by rw [bL i (by omega)]; exact decide_eq_true h, by omega, hv, Or.inl hk4⟩
theorem cN_off {p : Nat → Prop} {L : Nat} : ∀ k, L ≤ k → (∀ i, L ≤ i → i < k → ¬ p i) → cN p k = cN p L := by
  intro k
  induction k with
  | zero => intro h _; obtain rfl : L = 0 := by omega
            rfl
  | succ k ih =>
    intro h hp
    by_cases e : L = k + 1
    · rw [e]
    · rw [cN_s.2 (hp k (by omega) (by omega))]
      exact ih (by omega) (fun i h1 h2 => hp i h1 (by omega))
def V_Ju_weighUnmarked (z : Nat) (ch : Nat → Int32) (ma : Nat → Int32) (br : Nat → Int64) (tl : Int32) (ki : Nat → Int32) (co : Nat → Int64) (pr : Nat → Int32) (pa : Nat → Int32) (tw : Nat → Int32) (nv : Int32) (sv : Int32) (ru : Nat → Int32) (le : Nat → Int32) (li : Nat → Int32) (bn : Nat → Int32) (ip : Nat → Int32) (aw : Nat → Int32) (ns : Int32) (pn : Nat → Int32) (pl : Nat → Int32) (po : Nat → Int32) (pf : Nat → Int32) (pt : Nat → Int32) (xs : Int32) (xv : Int32) (xk : Int32) (xd : Int32) (post : (Nat → Int32) → (Nat → Int32) → (Nat → Int64) → Int32 → (Nat → Int32) → (Nat → Int64) → (Nat → Int32) → (Nat → Int32) → (Nat → Int32) → Int32 → Int32 → (Nat → Int32) → (Nat → Int32) → (Nat → Int32) → (Nat → Int32) → (Nat → Int32) → (Nat → Int32) → Int32 → (Nat → Int32) → (Nat → Int32) → (Nat → Int32) → (Nat → Int32) → (Nat → Int32) → Prop) : Prop :=
  (vp_in (xs * 29 + xk) 696 ∧ ((¬ (ru (xs * 29 + xk : Int32).toNatClampNeg) = (-1) → (vp_in xv 40 ∧ (vp_in (xv * 24 + xs) 960 ∧ (∃ (I11 : Int32 → (Nat → Int32) → (Nat → Int32) → (Nat → Int64) → Int32 → Prop) (mI11 : Int32 → (Nat → Int32) → (Nat → Int32) → (Nat → Int64) → Int32 → Nat), I11 0 ch ma br tl ∧ (∀ (x6 : Int32) (f7 : Nat → Int32) (f8 : Nat → Int32) (f9 : Nat → Int64) (u10 : Int32), I11 x6 f7 f8 f9 u10 → ((12 ≤ x6 → post f7 f8 f9 u10 ki co pr pa tw nv sv ru le li bn ip aw ns pn pl po pf pt) ∧ (¬ 12 ≤ x6 → ((((((pr xv.toNatClampNeg) &&& ((ma (xv * 24 + xs : Int32).toNatClampNeg) ^^^ (-1))) >>> (x6 &&& 31)) &&& 1) = 0 → (I11 (x6 + 1) f7 f8 f9 u10 ∧ mI11 (x6 + 1) f7 f8 f9 u10 < mI11 x6 f7 f8 f9 u10)) ∧ (¬ ((((pr xv.toNatClampNeg) &&& ((ma (xv * 24 + xs : Int32).toNatClampNeg) ^^^ (-1))) >>> (x6 &&& 31)) &&& 1) = 0 → ((∃ n0 m0 s0 v0 d0 : Nat, JP ki co pr pa pn po ru le li bn nv ns u10 z xs xv xd n0 m0 s0 v0 d0 ∧ (∃ i0 : Nat, cpb ki pr v0 i0 ∧ x6 = nI i0) ∧ (∃ k0 : Nat, k0 < 36 ∧ xk = nI k0) ∧ ∃ x0 : Nat, x0 < m0 ∧ ru (xs * 29 + xk : Int32).toNatClampNeg = nI x0) ∧ (∀ (f12 : Nat → Int32) (f13 : Nat → Int32) (f14 : Nat → Int64) (u15 : Int32), (((u15 = 0 ∨ u15 = 1) ∧ (u10 = 1 → u15 = 1) ∧ ∀ (G : Sp) (R : Nat → Nat → Prop) (lv : Nat → Nat), (∃ va mk, G = gC ki co pr pa tw pn pl po pf pt ru le li bn nv.toNatClampNeg va mk) → Ctx G R lv → Ask G xs.toNatClampNeg xv.toNatClampNeg (ru (xs * 29 + xk : Int32).toNatClampNeg : Int32).toNatClampNeg (gPt G xv.toNatClampNeg x6.toNatClampNeg) → Ef G R lv xs.toNatClampNeg xv.toNatClampNeg xd.toNatClampNeg (fun x' w' => x' = (ru (xs * 29 + xk : Int32).toNatClampNeg : Int32).toNatClampNeg ∧ w' = gPt G xv.toNatClampNeg x6.toNatClampNeg) (fun b => b = xk.toNatClampNeg ∧ ¬ gVa G (ru (xs * 29 + xk : Int32).toNatClampNeg : Int32).toNatClampNeg (gPt G xv.toNatClampNeg x6.toNatClampNeg)) (fun i => i = x6.toNatClampNeg) True f7 f8 f9 u10 f12 f13 f14 u15)) → (I11 (x6 + 1) f12 f13 f14 u15 ∧ mI11 (x6 + 1) f12 f13 f14 u15 < mI11 x6 f7 f8 f9 u10)))))))))))) ∧ ((ru (xs * 29 + xk : Int32).toNatClampNeg) = (-1) → post ch ma br tl ki co pr pa tw nv sv ru le li bn ip aw ns pn pl po pf pt)))
set_option maxHeartbeats 4000000 in
set_option maxRecDepth 100000 in
theorem g_Ju_weighUnmarked {p : Program} {l : Launch} {e : Env} {R : Room} {s : State} {m : MethodId} {args : Array Value} {below : List Frame} {meth : Method} {c : Code} {H : Heap} {locs : List Loc} {cells slots : Nat} {Q : State → Prop} {ls : Array Slot} {A : Nat → Prop} {z : Nat} (S : CallFix p m c b_Ju_weighUnmarked 8 s args W0 R_Ju) (hRf : 5 * z + 12 ≤ R.frames) (hRl : 200 * z + 150 ≤ R.locals) (hRc : cells ≤ R.cells ∧ slots ≤ R.slots) (D : va_G) (a : Nat → Nat) (cI cJ cZ : ClassId) (HW : WQ l D a cI cJ cZ z) (ch : Nat → Int32) (ma : Nat → Int32) (br : Nat → Int64) (tl : Int32) (ki : Nat → Int32) (co : Nat → Int64) (pr : Nat → Int32) (pa : Nat → Int32) (tw : Nat → Int32) (nv : Int32) (sv : Int32) (ru : Nat → Int32) (le : Nat → Int32) (li : Nat → Int32) (bn : Nat → Int32) (ip : Nat → Int32) (aw : Nat → Int32) (ns : Int32) (pn : Nat → Int32) (pl : Nat → Int32) (po : Nat → Int32) (pf : Nat → Int32) (pt : Nat → Int32) (xs : Int32) (xv : Int32) (xk : Int32) (xd : Int32) (hK : va_K D vwCl (tyA cI cJ cZ) s) (hP : va_P D vwCl (wJ a cI cJ ch ma br tl ++ wV a cI cJ ki co pr pa tw nv sv ++ wS a cI ru le li bn ip aw ns ++ wL a ++ wP a cI cZ pn pl po pf pt) H) (hD : va_D A (wJ a cI cJ ch ma br tl ++ wV a cI cJ ki co pr pa tw nv sv ++ wS a cI ru le li bn ip aw ns ++ wL a ++ wP a cI cZ pn pl po pf pt)) (hA : ∀ q, s.heap.size ≤ q → A q) (hS : va_S A s.heap H locs) (hX : eX A s s.heap) (hl : lv_has ls 8 [(0, .ref (a 20)), (1, .int xs), (2, .int xv), (3, .int xk), (4, .int xd)]) {post : (Nat → Int32) → (Nat → Int32) → (Nat → Int64) → Int32 → (Nat → Int32) → (Nat → Int64) → (Nat → Int32) → (Nat → Int32) → (Nat → Int32) → Int32 → Int32 → (Nat → Int32) → (Nat → Int32) → (Nat → Int32) → (Nat → Int32) → (Nat → Int32) → (Nat → Int32) → Int32 → (Nat → Int32) → (Nat → Int32) → (Nat → Int32) → (Nat → Int32) → (Nat → Int32) → Prop} (vc : V_Ju_weighUnmarked z ch ma br tl ki co pr pa tw nv sv ru le li bn ip aw ns pn pl po pf pt xs xv xk xd post)
    (hret : ∀ (ch : Nat → Int32) (ma : Nat → Int32) (br : Nat → Int64) (tl : Int32) (ki : Nat → Int32) (co : Nat → Int64) (pr : Nat → Int32) (pa : Nat → Int32) (tw : Nat → Int32) (nv : Int32) (sv : Int32) (ru : Nat → Int32) (le : Nat → Int32) (li : Nat → Int32) (bn : Nat → Int32) (ip : Nat → Int32) (aw : Nat → Int32) (ns : Int32) (pn : Nat → Int32) (pl : Nat → Int32) (po : Nat → Int32) (pf : Nat → Int32) (pt : Nat → Int32) (ls : Array Slot) (pc : Nat) (H : Heap) (locs : List Loc), decode b_Ju_weighUnmarked pc = .ok (.return_, 1) → post ch ma br tl ki co pr pa tw nv sv ru le li bn ip aw ns pn pl po pf pt → va_P D vwCl (wJ a cI cJ ch ma br tl ++ wV a cI cJ ki co pr pa tw nv sv ++ wS a cI ru le li bn ip aw ns ++ wL a ++ wP a cI cZ pn pl po pf pt) H → va_D A (wJ a cI cJ ch ma br tl ++ wV a cI cJ ki co pr pa tw nv sv ++ wS a cI ru le li bn ip aw ns ++ wL a ++ wP a cI cZ pn pl po pf pt) → va_S A s.heap H locs → W p l e R s m args below meth c H locs cells slots Q (F0 m pc ls [])) : W p l e R s m args below meth c H locs cells slots Q (F0 m 0 ls []) := by
  have hx := S.1
  have hb := S.2.1
  have hown := S.2.2.2.1
  have hts := S.2.2.2.2
  unfold V_Ju_weighUnmarked at vc
  refine lv_aload_n hx hb d_Ju_weighUnmarked_0 rfl (lv_at hl 0 rfl) ?_
  refine va_get (D := D) (ci := 0) (v := .ref (a 12)) (C := R_Ju) (T := F_Ju) (N := 7) hx hb hts in_Ju hown hK hP 0 rfl rfl 1 (by decide) (hts _ fl_Ju_17) (fun _ h => h) rfl d_Ju_weighUnmarked_1 ?_
  refine lv_iload_n hx hb d_Ju_weighUnmarked_4 rfl (lv_at hl 1 rfl) ?_
  refine lv_iload_n hx hb d_Ju_weighUnmarked_5 rfl (lv_at hl 3 rfl) ?_
  obtain ⟨hpre, vc⟩ := vc
  refine pc_V (As := [.int xs, .int xk]) (rest := []) S (c_Sc_ruleOf l D a cI cJ cZ ru le li bn ip aw ns xs xk hpre) wB_blind k_Sc_ruleOf i_Sc_ruleOf e_Sc_ruleOf o_Sc ml_Ju_78 hd_Sc_ruleOf (Nat.le_trans (by omega) hRf) (Nat.le_trans (by omega) hRl) hRc (va_recv hK hP (q0 := 10) (ci := 3) rfl rfl) (wB_at (hP.sub (ws' := (wS a cI ru le li bn ip aw ns)) [10, 11, 12, 13, 14, 15, 16] rfl) hK) hl.1 rfl (Nat.le_of_ble_eq_true rfl) d_Ju_weighUnmarked_6 ?_
  refine lv_istore hx hb d_Ju_weighUnmarked_9 hl (by decide) (lv' := [(5, .int (ru (xs * 29 + xk : Int32).toNatClampNeg)), (0, .ref (a 20)), (1, .int xs), (2, .int xv), (3, .int xk), (4, .int xd)]) rfl (fun ls hl => ?_)
  refine lv_iload hx hb d_Ju_weighUnmarked_11 (lv_at hl 0 rfl) ?_
  refine lv_iconst (v := (-1)) hx hb d_Ju_weighUnmarked_13 (by decide) ?_
  refine lv_icmp_ne (tgt := 18) hx hb d_Ju_weighUnmarked_14 (by decide) (fun h => ?_) (fun h => ?_)
  · have vc := vc.1 h
    refine lv_aload_n hx hb d_Ju_weighUnmarked_18 rfl (lv_at hl 1 rfl) ?_
    refine va_get (D := D) (ci := 0) (v := .ref (a 0)) (C := R_Ju) (T := F_Ju) (N := 7) hx hb hts in_Ju hown hK hP 0 rfl rfl 0 (by decide) (hts _ fl_Ju_11) (fun _ h => h) rfl d_Ju_weighUnmarked_19 ?_
    refine lv_iload_n hx hb d_Ju_weighUnmarked_22 rfl (lv_at hl 3 rfl) ?_
    obtain ⟨hpre, vc⟩ := vc
    refine pc_V (As := [.int xv]) (rest := []) S (c_Va_presentIn l D a cI cJ cZ ki co pr pa tw nv sv xv hpre) wB_blind k_Va_presentIn i_Va_presentIn e_Va_presentIn o_Va ml_Ju_153 hd_Va_presentIn (Nat.le_trans (by omega) hRf) (Nat.le_trans (by omega) hRl) hRc (va_recv hK hP (q0 := 4) (ci := 4) rfl rfl) (wB_at (hP.sub (ws' := (wV a cI cJ ki co pr pa tw nv sv)) [4, 5, 6, 7, 8, 9] rfl) hK) hl.1 rfl (Nat.le_of_ble_eq_true rfl) d_Ju_weighUnmarked_23 ?_
    refine lv_aload_n hx hb d_Ju_weighUnmarked_26 rfl (lv_at hl 1 rfl) ?_
    refine va_get (D := D) (ci := 0) (v := .ref (a 22)) (C := R_Ju) (T := F_Ju) (N := 7) hx hb hts in_Ju hown hK hP 0 rfl rfl 4 (by decide) (hts _ fl_Ju_29) (fun _ h => h) rfl d_Ju_weighUnmarked_27 ?_
    refine lv_iload_n hx hb d_Ju_weighUnmarked_30 rfl (lv_at hl 2 rfl) ?_
    refine lv_iload_n hx hb d_Ju_weighUnmarked_31 rfl (lv_at hl 3 rfl) ?_
    refine pc_S (As := [.int xs, .int xv]) (rest := [.ref (a 22), .int (pr xv.toNatClampNeg)]) S (c_Ju_pairOf l xs xv) wT_blind k_Ju_pairOf s_Ju_pairOf o_Ju ml_Ju_59 hd_Ju_pairOf (Nat.le_trans (by omega) hRf) (Nat.le_trans (by omega) hRl) hRc (fun _ _ _ => trivial) hl.1 rfl (Nat.le_of_ble_eq_true rfl) d_Ju_weighUnmarked_32 ?_
    obtain ⟨vcb, vc⟩ := vc
    refine va_iald hx hb hK hP 2 0 rfl rfl vcb d_Ju_weighUnmarked_35 ?_
    refine lv_iconst (v := (-1)) hx hb d_Ju_weighUnmarked_36 (by decide) ?_
    refine lv_ixor hx hb d_Ju_weighUnmarked_37 ?_
    refine lv_iand hx hb d_Ju_weighUnmarked_38 ?_
    refine lv_istore hx hb d_Ju_weighUnmarked_39 hl (by decide) (lv' := [(6, .int ((pr xv.toNatClampNeg) &&& ((ma (xv * 24 + xs : Int32).toNatClampNeg) ^^^ (-1)))), (5, .int (ru (xs * 29 + xk : Int32).toNatClampNeg)), (0, .ref (a 20)), (1, .int xs), (2, .int xv), (3, .int xk), (4, .int xd)]) rfl (fun ls hl => ?_)
    refine lv_iconst (v := 0) hx hb d_Ju_weighUnmarked_41 (by decide) ?_
    refine lv_istore hx hb d_Ju_weighUnmarked_42 hl (by decide) (lv' := [(7, .int 0), (6, .int ((pr xv.toNatClampNeg) &&& ((ma (xv * 24 + xs : Int32).toNatClampNeg) ^^^ (-1)))), (5, .int (ru (xs * 29 + xk : Int32).toNatClampNeg)), (0, .ref (a 20)), (1, .int xs), (2, .int xv), (3, .int xk), (4, .int xd)]) rfl (fun ls hl => ?_)
    obtain ⟨I11, mI11, vc0, vcs⟩ := vc
    have lI11 : ∀ n : Nat, ∀ (x6 : Int32) (f7 : Nat → Int32) (f8 : Nat → Int32) (f9 : Nat → Int64) (u10 : Int32) (ls : Array Slot) (H : Heap) (locs : List Loc), I11 x6 f7 f8 f9 u10 → mI11 x6 f7 f8 f9 u10 < n → lv_has ls 8 [(0, .ref (a 20)), (1, .int xs), (2, .int xv), (3, .int xk), (4, .int xd), (5, .int (ru (xs * 29 + xk : Int32).toNatClampNeg)), (6, .int ((pr xv.toNatClampNeg) &&& ((ma (xv * 24 + xs : Int32).toNatClampNeg) ^^^ (-1)))), (7, .int x6)] → va_P D vwCl (wJ a cI cJ f7 f8 f9 u10 ++ wV a cI cJ ki co pr pa tw nv sv ++ wS a cI ru le li bn ip aw ns ++ wL a ++ wP a cI cZ pn pl po pf pt) H → va_D A (wJ a cI cJ f7 f8 f9 u10 ++ wV a cI cJ ki co pr pa tw nv sv ++ wS a cI ru le li bn ip aw ns ++ wL a ++ wP a cI cZ pn pl po pf pt) → va_S A s.heap H locs → W p l e R s m args below meth c H locs cells slots Q (F0 m 44 ls []) := by
      intro n
      induction n with
      | zero => intro x6 f7 f8 f9 u10 ls H locs _ h; exact absurd h (Nat.not_lt_zero _)
      | succ n ihI11 =>
        intro x6 f7 f8 f9 u10 ls H locs vc hmI11 hl hP hD hS
        have vc := vcs x6 f7 f8 f9 u10 vc
        refine lv_iload hx hb d_Ju_weighUnmarked_44 (lv_at hl 7 rfl) ?_
        refine lv_bipush (v := 12) hx hb d_Ju_weighUnmarked_46 (by decide) ?_
        refine lv_icmp_ge (tgt := 80) hx hb d_Ju_weighUnmarked_48 (by decide) (fun h => ?_) (fun h => ?_)
        · have vc := vc.1 h
          exact hret _ _ _ _ _ _ _ _ _ _ _ _ _ _ _ _ _ _ _ _ _ _ _ ls _ H locs d_Ju_weighUnmarked_80 vc hP hD hS
        · have vc := vc.2 h
          refine lv_iload hx hb d_Ju_weighUnmarked_51 (lv_at hl 6 rfl) ?_
          refine lv_iload hx hb d_Ju_weighUnmarked_53 (lv_at hl 7 rfl) ?_
          refine lv_ishr hx hb d_Ju_weighUnmarked_55 ?_
          refine lv_iconst (v := 1) hx hb d_Ju_weighUnmarked_56 (by decide) ?_
          refine lv_iand hx hb d_Ju_weighUnmarked_57 ?_
          refine lv_if_eq (tgt := 74) hx hb d_Ju_weighUnmarked_58 (by decide) (fun h => ?_) (fun h => ?_)
          · have vc := vc.1 h
            refine lv_iinc (k := 7) (v := x6 + 1) hx hb d_Ju_weighUnmarked_74 hl rfl rfl (by decide) (lv' := [(7, .int (x6 + 1)), (0, .ref (a 20)), (1, .int xs), (2, .int xv), (3, .int xk), (4, .int xd), (5, .int (ru (xs * 29 + xk : Int32).toNatClampNeg)), (6, .int ((pr xv.toNatClampNeg) &&& ((ma (xv * 24 + xs : Int32).toNatClampNeg) ^^^ (-1))))]) rfl (fun ls hl => ?_)
            refine lv_goto (tgt := 44) hx hb d_Ju_weighUnmarked_77 (by decide) ?_
            exact ihI11 (x6 + 1) f7 f8 f9 u10 ls H locs vc.1 (Nat.lt_of_lt_of_le vc.2 (Nat.le_of_lt_succ hmI11)) (lv_sub hl [1, 2, 3, 4, 5, 6, 7, 0] rfl) hP hD hS
          · have vc := vc.2 h
            refine lv_aload_n hx hb d_Ju_weighUnmarked_61 rfl (lv_at hl 0 rfl) ?_
            refine lv_iload_n hx hb d_Ju_weighUnmarked_62 rfl (lv_at hl 1 rfl) ?_
            refine lv_iload_n hx hb d_Ju_weighUnmarked_63 rfl (lv_at hl 2 rfl) ?_
            refine lv_iload hx hb d_Ju_weighUnmarked_64 (lv_at hl 7 rfl) ?_
            refine lv_iload_n hx hb d_Ju_weighUnmarked_66 rfl (lv_at hl 3 rfl) ?_
            refine lv_iload hx hb d_Ju_weighUnmarked_67 (lv_at hl 5 rfl) ?_
            refine lv_iload hx hb d_Ju_weighUnmarked_69 (lv_at hl 4 rfl) ?_
            obtain ⟨hpre, vc⟩ := vc
            refine ec_V (As := [.int xs, .int xv, .int x6, .int xk, .int (ru (xs * 29 + xk : Int32).toNatClampNeg), .int xd]) (rest := []) (wr := ([] : va_W)) S (c_Ju_weighPart l D a cI cJ cZ z HW f7 f8 f9 u10 ki co pr pa tw nv sv ru le li bn ip aw ns pn pl po pf pt xs xv x6 xk (ru (xs * 29 + xk : Int32).toNatClampNeg) xd hpre) k_Ju_weighPart i_Ju_weighPart e_Ju_weighPart o_Ju ml_Ju_139 hd_Ju_weighPart (Nat.le_trans (by omega) hRf) (Nat.le_trans (by omega) hRl) hRc (va_recv hK hP (q0 := 0) (ci := 0) rfl rfl) hK hP hD hS hA hX [0, 1, 2, 3, 4, 5, 6, 7, 8, 9, 10, 11, 12, 13, 14, 15, 16, 17, 18, 19, 20, 21, 22, 23] [] rfl rfl rfl (by decide) (by decide) (by decide) hl.1 rfl (Nat.le_of_ble_eq_true rfl) d_Ju_weighUnmarked_71 (fun u H locs hu hP hD hS => ?_)
            obtain ⟨f12, f13, f14, u15⟩ := u
            have vc := vc f12 f13 f14 u15 hu
            clear hu
            have hP : va_P D vwCl (wJ a cI cJ f12 f13 f14 u15 ++ wV a cI cJ ki co pr pa tw nv sv ++ wS a cI ru le li bn ip aw ns ++ wL a ++ wP a cI cZ pn pl po pf pt) H := hP
            have hD : va_D A (wJ a cI cJ f12 f13 f14 u15 ++ wV a cI cJ ki co pr pa tw nv sv ++ wS a cI ru le li bn ip aw ns ++ wL a ++ wP a cI cZ pn pl po pf pt) := hD
            refine lv_iinc (k := 7) (v := x6 + 1) hx hb d_Ju_weighUnmarked_74 hl rfl rfl (by decide) (lv' := [(7, .int (x6 + 1)), (0, .ref (a 20)), (1, .int xs), (2, .int xv), (3, .int xk), (4, .int xd), (5, .int (ru (xs * 29 + xk : Int32).toNatClampNeg)), (6, .int ((pr xv.toNatClampNeg) &&& ((ma (xv * 24 + xs : Int32).toNatClampNeg) ^^^ (-1))))]) rfl (fun ls hl => ?_)
            refine lv_goto (tgt := 44) hx hb d_Ju_weighUnmarked_77 (by decide) ?_
            exact ihI11 (x6 + 1) f12 f13 f14 u15 ls H locs vc.1 (Nat.lt_of_lt_of_le vc.2 (Nat.le_of_lt_succ hmI11)) (lv_sub hl [1, 2, 3, 4, 5, 6, 7, 0] rfl) hP hD hS
    exact lI11 _ 0 ch ma br tl ls H locs vc0 (Nat.lt_succ_self _) (lv_sub hl [3, 4, 5, 6, 7, 2, 1, 0] rfl) hP hD hS
  · have vc := vc.2 h
    exact hret _ _ _ _ _ _ _ _ _ _ _ _ _ _ _ _ _ _ _ _ _ _ _ ls _ H locs d_Ju_weighUnmarked_17 vc hP hD hS
set_option maxHeartbeats 4000000 in
theorem v_Ju_weighUnmarked (z : Nat) (ch : Nat → Int32) (ma : Nat → Int32) (br : Nat → Int64) (tl : Int32) (ki : Nat → Int32) (co : Nat → Int64) (pr : Nat → Int32) (pa : Nat → Int32) (tw : Nat → Int32) (nv : Int32) (sv : Int32) (ru : Nat → Int32) (le : Nat → Int32) (li : Nat → Int32) (bn : Nat → Int32) (ip : Nat → Int32) (aw : Nat → Int32) (ns : Int32) (pn : Nat → Int32) (pl : Nat → Int32) (po : Nat → Int32) (pf : Nat → Int32) (pt : Nat → Int32) (xs : Int32) (xv : Int32) (xk : Int32) (xd : Int32) (hpre : (∃ n0 m0 s0 v0 d0 : Nat, JP ki co pr pa pn po ru le li bn nv ns tl z xs xv xd n0 m0 s0 v0 d0 ∧ ∃ k0 : Nat, (k0 = 27 ∨ k0 = 28) ∧ xk = nI k0 ∧ (ki v0 = 4 ∨ ki v0 = 5))) : V_Ju_weighUnmarked z ch ma br tl ki co pr pa tw nv sv ru le li bn ip aw ns pn pl po pf pt xs xv xk xd (fun ch' ma' br' tl' ki' co' pr' pa' tw' nv' sv' ru' le' li' bn' ip' aw' ns' pn' pl' po' pf' pt' => (((tl' = 0 ∨ tl' = 1) ∧ (tl = 1 → tl' = 1) ∧ ∀ (G : Sp) (R : Nat → Nat → Prop) (lv : Nat → Nat), (∃ va mk, G = gC ki co pr pa tw pn pl po pf pt ru le li bn nv.toNatClampNeg va mk) → Ctx G R lv → (∀ i, i < 32 → (bt (ma (xv.toNatClampNeg * 24 + xs.toNatClampNeg)) i = true ↔ Mrk0 G xs.toNatClampNeg xv.toNatClampNeg i)) → (∀ x w, AskUn G xs.toNatClampNeg xv.toNatClampNeg xk.toNatClampNeg x w → Ask G xs.toNatClampNeg xv.toNatClampNeg x w) → Ef G R lv xs.toNatClampNeg xv.toNatClampNeg xd.toNatClampNeg (AskUn G xs.toNatClampNeg xv.toNatClampNeg xk.toNatClampNeg) (BadUn G xs.toNatClampNeg xv.toNatClampNeg xk.toNatClampNeg) (MrkUn G xs.toNatClampNeg xv.toNatClampNeg xk.toNatClampNeg) True ch ma br tl ch' ma' br' tl')) ∧ ki' = ki ∧ co' = co ∧ pr' = pr ∧ pa' = pa ∧ tw' = tw ∧ nv' = nv ∧ sv' = sv ∧ ru' = ru ∧ le' = le ∧ li' = li ∧ bn' = bn ∧ ip' = ip ∧ aw' = aw ∧ ns' = ns ∧ pn' = pn ∧ pl' = pl ∧ po' = po ∧ pf' = pf ∧ pt' = pt) := by
  have main : ∀ post : (Nat → Int32) → (Nat → Int32) → (Nat → Int64) → Int32 → (Nat → Int32) → (Nat → Int64) → (Nat → Int32) → (Nat → Int32) → (Nat → Int32) → Int32 → Int32 → (Nat → Int32) → (Nat → Int32) → (Nat → Int32) → (Nat → Int32) → (Nat → Int32) → (Nat → Int32) → Int32 → (Nat → Int32) → (Nat → Int32) → (Nat → Int32) → (Nat → Int32) → (Nat → Int32) → Prop, (∀ ch' ma' br' tl' ki' co' pr' pa' tw' nv' sv' ru' le' li' bn' ip' aw' ns' pn' pl' po' pf' pt', (fun ch' ma' br' tl' ki' co' pr' pa' tw' nv' sv' ru' le' li' bn' ip' aw' ns' pn' pl' po' pf' pt' => (((tl' = 0 ∨ tl' = 1) ∧ (tl = 1 → tl' = 1) ∧ ∀ (G : Sp) (R : Nat → Nat → Prop) (lv : Nat → Nat), (∃ va mk, G = gC ki co pr pa tw pn pl po pf pt ru le li bn nv.toNatClampNeg va mk) → Ctx G R lv → (∀ i, i < 32 → (bt (ma (xv.toNatClampNeg * 24 + xs.toNatClampNeg)) i = true ↔ Mrk0 G xs.toNatClampNeg xv.toNatClampNeg i)) → (∀ x w, AskUn G xs.toNatClampNeg xv.toNatClampNeg xk.toNatClampNeg x w → Ask G xs.toNatClampNeg xv.toNatClampNeg x w) → Ef G R lv xs.toNatClampNeg xv.toNatClampNeg xd.toNatClampNeg (AskUn G xs.toNatClampNeg xv.toNatClampNeg xk.toNatClampNeg) (BadUn G xs.toNatClampNeg xv.toNatClampNeg xk.toNatClampNeg) (MrkUn G xs.toNatClampNeg xv.toNatClampNeg xk.toNatClampNeg) True ch ma br tl ch' ma' br' tl')) ∧ ki' = ki ∧ co' = co ∧ pr' = pr ∧ pa' = pa ∧ tw' = tw ∧ nv' = nv ∧ sv' = sv ∧ ru' = ru ∧ le' = le ∧ li' = li ∧ bn' = bn ∧ ip' = ip ∧ aw' = aw ∧ ns' = ns ∧ pn' = pn ∧ pl' = pl ∧ po' = po ∧ pf' = pf ∧ pt' = pt) ch' ma' br' tl' ki' co' pr' pa' tw' nv' sv' ru' le' li' bn' ip' aw' ns' pn' pl' po' pf' pt' → post ch' ma' br' tl' ki' co' pr' pa' tw' nv' sv' ru' le' li' bn' ip' aw' ns' pn' pl' po' pf' pt') → V_Ju_weighUnmarked z ch ma br tl ki co pr pa tw nv sv ru le li bn ip aw ns pn pl po pf pt xs xv xk xd post := by
    intro post hpost
    unfold V_Ju_weighUnmarked
    obtain ⟨n0, m0, s0, v0, d0, hJ, k0, hk, rfl, hkd⟩ := hpre
    have hJ0 := hJ
    obtain ⟨hs24, hv40, hm, hn⟩ := JP_s hJ
    obtain ⟨hnv, hns, hS, htl, rfl, rfl, rfl, hsm, hvn, hd1, hd30, hfuel⟩ := hJ
    have hPv : vp_in (nI (v0 * 24 + s0)) 960 := vp_in_nI (by omega) (by decide)
    have cs : (nI s0).toNatClampNeg = s0 := nI_clamp (by omega)
    have cv : (nI v0).toNatClampNeg = v0 := nI_clamp (by omega)
    have cd : (nI d0).toNatClampNeg = d0 := nI_clamp (by omega)
    have cP : (nI (v0 * 24 + s0)).toNatClampNeg = v0 * 24 + s0 := nI_clamp (by omega)
    have cn : nv.toNatClampNeg = n0 := by rw [hnv]; exact nI_clamp (by omega)
    have ck : (nI k0).toNatClampNeg = k0 := nI_clamp (by omega)
    have c29 : (nI (s0 * 29 + k0)).toNatClampNeg = s0 * 29 + k0 := nI_clamp (by omega)
    simp only [px24, ix29, c29, cP, cs, cv, ck, cd, cn] at hpost ⊢
    have hox := (hS.2.2.2.2.1 s0 hs24).1 k0 (by omega) (by omega) (by omega) (by omega)
    refine ⟨vp_in_nI (by omega) (by decide), fun h => ?_, fun h => (hpost _ _ _ _ _ _ _ _ _ _ _ _ _ _ _ _ _ _ _ _ _ _ _ ⟨⟨htl, id, fun G R lv hG hC _ _ => ?_⟩, rfl, rfl, rfl, rfl, rfl, rfl, rfl, rfl, rfl, rfl, rfl, rfl, rfl, rfl, rfl, rfl, rfl, rfl, rfl⟩)⟩
    rotate_left
    · have hru : ¬ ruH G s0 k0 := fun q => by unfold ruH at q; rw [(gC_eq hG).2.2.2.1, h] at q; exact q neg1_lt
      exact (Ef.refl trivial).congr (fun _ _ => ⟨False.elim, fun q => hru q.1⟩) (fun _ => ⟨False.elim, fun q => hru q.2.1⟩) (fun _ => ⟨False.elim, fun q => hru q.1⟩) id
    obtain ⟨x0, hx, ex⟩ := hox.resolve_left h
    have cx : (nI x0).toNatClampNeg = x0 := nI_clamp (by omega)
    rw [ex, cx]
    generalize hub : (fun i => bt (pr v0) i && !(bt (ma (v0 * 24 + s0)) i)) = ub
    have hrV : ∀ G, (∃ va mk, G = gC ki co pr pa tw pn pl po pf pt ru le li bn n0 va mk) → ruV G s0 k0 = x0 := fun G hG => by unfold ruV; rw [(gC_eq hG).2.2.2.1, ex, cx]
    have hrH : ∀ G, (∃ va mk, G = gC ki co pr pa tw pn pl po pf pt ru le li bn n0 va mk) → ruH G s0 k0 := fun G hG => by unfold ruH; rw [(gC_eq hG).2.2.2.1, ex]; exact nI_pos (by omega)
    have hu : ∀ G, (∃ va mk, G = gC ki co pr pa tw pn pl po pf pt ru le li bn n0 va mk) → (∀ i, i < 32 → (bt (ma (v0 * 24 + s0)) i = true ↔ Mrk0 G s0 v0 i)) → ∀ i, i < 12 → (ub i = true ↔ gPb G v0 i ∧ ¬ Mrk0 G s0 v0 i) := fun G hG hm i hi => by
      rw [← hub, (gC_eq hG).2.1, ← hm i (by omega)]
      show (bt (pr v0) i && !(bt (ma (v0 * 24 + s0)) i)) = true ↔ _
      unfold cpb
      cases bt (pr v0) i <;> cases bt (ma (v0 * 24 + s0)) i <;> simp [hi, hv40, hkd]
    refine ⟨vp_in_nI hv40 (by decide), hPv, fun xj f g hh u => ∃ j, j ≤ 12 ∧ xj = nI j ∧ EG (fun G => (∃ va mk, G = gC ki co pr pa tw pn pl po pf pt ru le li bn n0 va mk) ∧ (∀ i, i < 32 → (bt (ma (v0 * 24 + s0)) i = true ↔ Mrk0 G s0 v0 i)) ∧ ∀ x w, AskUn G s0 v0 k0 x w → Ask G s0 v0 x w) s0 v0 d0 (fun G x w => x = x0 ∧ ∃ i, i < j ∧ ub i = true ∧ w = gPt G v0 i) (fun G b => b = k0 ∧ ∃ i, i < j ∧ ub i = true ∧ ¬ gVa G x0 (gPt G v0 i)) (fun G m => m < j ∧ ub m = true) (fun _ => True) ch ma br tl f g hh u, fun xj _ _ _ _ => 12 - xj.toInt.toNat, ⟨0, Nat.zero_le _, rfl, EG.start htl (fun G _ => ⟨fun x w ⟨_, i, q, _⟩ => absurd q (Nat.not_lt_zero _), fun _ ⟨_, i, q, _⟩ => absurd q (Nat.not_lt_zero _), fun _ q => absurd q.1 (Nat.not_lt_zero _), trivial⟩)⟩, ?_⟩
    rintro xj f g hh u ⟨j, hj, rfl, hI⟩
    refine ⟨fun h2 => ?_, fun h2 => ?_⟩
    · obtain rfl := fill_end (N := 12) h2 (by decide) hj
      refine (hpost _ _ _ _ _ _ _ _ _ _ _ _ _ _ _ _ _ _ _ _ _ _ _ ⟨⟨hI.1, hI.2.1, fun G R lv hG hC h3 h4 => (hI.2.2 G R lv ⟨hG, h3, h4⟩ hC).congr (fun x w => ?_) (fun b => ?_) (fun m => ?_) id⟩, rfl, rfl, rfl, rfl, rfl, rfl, rfl, rfl, rfl, rfl, rfl, rfl, rfl, rfl, rfl, rfl, rfl, rfl, rfl⟩)
      · unfold AskUn; rw [hrV G hG]
        constructor
        · rintro ⟨q1, i, q2, q3, q4⟩
          obtain ⟨q5, q6⟩ := (hu G hG h3 i q2).mp q3
          exact ⟨hrH G hG, q1, i, q2, q5, q6, q4⟩
        · rintro ⟨_, q1, i, q2, q5, q6, q4⟩
          exact ⟨q1, i, q2, (hu G hG h3 i q2).mpr ⟨q5, q6⟩, q4⟩
      · unfold BadUn; rw [hrV G hG]
        constructor
        · rintro ⟨q1, i, q2, q3, q4⟩
          obtain ⟨q5, q6⟩ := (hu G hG h3 i q2).mp q3
          exact ⟨q1, hrH G hG, i, q2, q5, q6, q4⟩
        · rintro ⟨q1, _, i, q2, q5, q6, q4⟩
          exact ⟨q1, i, q2, (hu G hG h3 i q2).mpr ⟨q5, q6⟩, q4⟩
      · unfold MrkUn
        constructor
        · rintro ⟨q1, q2⟩
          obtain ⟨q5, q6⟩ := (hu G hG h3 m q1).mp q2
          exact ⟨hrH G hG, q1, q5, q6⟩
        · rintro ⟨_, q1, q5, q6⟩
          exact ⟨q1, (hu G hG h3 m q1).mpr ⟨q5, q6⟩⟩
    · have hj2 := fill_step (N := 12) h2 (by decide) hj
      have hbj : bt (pr v0 &&& (ma (v0 * 24 + s0) ^^^ (-1))) j = ub j := by rw [b_and, b_inv _ (by omega), ← hub]
      rw [b_and1 _ (by omega), hbj]
      refine ⟨fun h3 => ⟨⟨j + 1, hj2, nI_1 j, hI.same (fun G _ _ => ⟨fun x w => ?_, fun b => ?_, fun m => ?_, trivial⟩)⟩, fill_mu hj2 (by decide)⟩, fun h3 => ?_⟩
      · refine and_congr_right (fun _ => ⟨fun ⟨i, q1, q2⟩ => ⟨i, by omega, q2⟩, fun ⟨i, q1, q2⟩ => ⟨i, ?_, q2⟩⟩)
        by_cases e : i = j
        · subst e; rw [bI0.mp h3] at q2; exact absurd q2.1 (by decide)
        · omega
      · refine and_congr_right (fun _ => ⟨fun ⟨i, q1, q2⟩ => ⟨i, by omega, q2⟩, fun ⟨i, q1, q2⟩ => ⟨i, ?_, q2⟩⟩)
        by_cases e : i = j
        · subst e; rw [bI0.mp h3] at q2; exact absurd q2.1 (by decide)
        · omega
      · refine ⟨fun q => ⟨by omega, q.2⟩, fun q => ⟨?_, q.2⟩⟩
        by_cases e : m = j
        · subst e; rw [bI0.mp h3] at q; exact absurd q.2 (by decide)
        · omega
      · have hbt : ub j = true := bI_ne.mp h3
        have hcb : cpb ki pr v0 j := by
          have := hbt; rw [← hub] at this
          exact ⟨(Bool.and_eq_true _ _ ▸ this : _ ∧ _).1, hj2, hv40, hkd⟩
        have cj : (nI j).toNatClampNeg = j := nI_clamp (by omega)
        rw [cj]
        refine ⟨⟨n0, m0, s0, v0, d0, hJ0.re hI.1, ⟨j, hcb, rfl⟩, ⟨k0, by omega, rfl⟩, x0, hx, rfl⟩, fun f1 g1 h1 u1 hp => ⟨⟨j + 1, hj2, nI_1 j, ?_⟩, fill_mu hj2 (by decide)⟩⟩
        refine hI.next hp.1 hp.2.1 (fun G R lv hK hC _ => hp.2.2 G R lv hK.1 hC (hK.2.2 x0 _ ⟨hrH G hK.1, (hrV G hK.1).symm, j, hj2, ((hu G hK.1 hK.2.1 j hj2).mp hbt).1, ((hu G hK.1 hK.2.1 j hj2).mp hbt).2, rfl⟩)) (fun G _ _ _ => ⟨fun x w => ?_, fun b => ?_, fun m => ?_, trivial⟩)
        · constructor
          · rintro (⟨q1, i, q2, q3⟩ | ⟨q1, q2⟩)
            · exact ⟨q1, i, by omega, q3⟩
            · exact ⟨q1, j, by omega, hbt, q2⟩
          · rintro ⟨q1, i, q2, q3, q4⟩
            by_cases e : i = j
            · subst e; exact Or.inr ⟨q1, q4⟩
            · exact Or.inl ⟨q1, i, by omega, q3, q4⟩
        · constructor
          · rintro (⟨q1, i, q2, q3⟩ | ⟨q1, q2⟩)
            · exact ⟨q1, i, by omega, q3⟩
            · exact ⟨q1, j, by omega, hbt, q2⟩
          · rintro ⟨q1, i, q2, q3, q4⟩
            by_cases e : i = j
            · subst e; exact Or.inr ⟨q1, q4⟩
            · exact Or.inl ⟨q1, i, by omega, q3, q4⟩
        · constructor
          · rintro (⟨q1, q2⟩ | q)
            · exact ⟨by omega, q2⟩
            · subst q; exact ⟨by omega, hbt⟩
          · rintro ⟨q1, q2⟩
            by_cases e : m = j
            · exact Or.inr e
            · exact Or.inl ⟨by omega, q2⟩
  exact main _ (fun _ _ _ _ _ _ _ _ _ _ _ _ _ _ _ _ _ _ _ _ _ _ _ h => h)
theorem c_Ju_weighUnmarked (l : Launch) (D : va_G) (a : Nat → Nat) (cI cJ cZ : ClassId) (z : Nat) (HW : WQ l D a cI cJ cZ z) (ch : Nat → Int32) (ma : Nat → Int32) (br : Nat → Int64) (tl : Int32) (ki : Nat → Int32) (co : Nat → Int64) (pr : Nat → Int32) (pa : Nat → Int32) (tw : Nat → Int32) (nv : Int32) (sv : Int32) (ru : Nat → Int32) (le : Nat → Int32) (li : Nat → Int32) (bn : Nat → Int32) (ip : Nat → Int32) (aw : Nat → Int32) (ns : Int32) (pn : Nat → Int32) (pl : Nat → Int32) (po : Nat → Int32) (pf : Nat → Int32) (pt : Nat → Int32) (xs : Int32) (xv : Int32) (xk : Int32) (xd : Int32) (hpre : (∃ n0 m0 s0 v0 d0 : Nat, JP ki co pr pa pn po ru le li bn nv ns tl z xs xv xd n0 m0 s0 v0 d0 ∧ ∃ k0 : Nat, (k0 = 27 ∨ k0 = 28) ∧ xk = nI k0 ∧ (ki v0 = 4 ∨ ki v0 = 5))) : Em (S := (Nat → Int32) × (Nat → Int32) × (Nat → Int64) × Int32) l y_Ju_weighUnmarked b_Ju_weighUnmarked 8 none (5 * z + 12) (200 * z + 150) [.ref (a 20), .int xs, .int xv, .int xk, .int xd] D (tyA cI cJ cZ) (wJ a cI cJ ch ma br tl ++ wV a cI cJ ki co pr pa tw nv sv ++ wS a cI ru le li bn ip aw ns ++ wL a ++ wP a cI cZ pn pl po pf pt) (fun uu => ((uu.2.2.2 = 0 ∨ uu.2.2.2 = 1) ∧ (tl = 1 → uu.2.2.2 = 1) ∧ ∀ (G : Sp) (R : Nat → Nat → Prop) (lv : Nat → Nat), (∃ va mk, G = gC ki co pr pa tw pn pl po pf pt ru le li bn nv.toNatClampNeg va mk) → Ctx G R lv → (∀ i, i < 32 → (bt (ma (xv.toNatClampNeg * 24 + xs.toNatClampNeg)) i = true ↔ Mrk0 G xs.toNatClampNeg xv.toNatClampNeg i)) → (∀ x w, AskUn G xs.toNatClampNeg xv.toNatClampNeg xk.toNatClampNeg x w → Ask G xs.toNatClampNeg xv.toNatClampNeg x w) → Ef G R lv xs.toNatClampNeg xv.toNatClampNeg xd.toNatClampNeg (AskUn G xs.toNatClampNeg xv.toNatClampNeg xk.toNatClampNeg) (BadUn G xs.toNatClampNeg xv.toNatClampNeg xk.toNatClampNeg) (MrkUn G xs.toNatClampNeg xv.toNatClampNeg xk.toNatClampNeg) True ch ma br tl uu.1 uu.2.1 uu.2.2.1 uu.2.2.2)) (fun uu => none) (fun uu => (wJ a cI cJ uu.1 uu.2.1 uu.2.2.1 uu.2.2.2 ++ wV a cI cJ ki co pr pa tw nv sv ++ wS a cI ru le li bn ip aw ns ++ wL a ++ wP a cI cZ pn pl po pf pt)) :=
  em_v (by decide) (Nat.le_of_ble_eq_true rfl) (fun p e s m below meth c ls Q A S hK hP hD hA hS hX hl hret => g_Ju_weighUnmarked S (Nat.le_refl _) (Nat.le_refl _) ⟨Nat.le_refl _, Nat.le_refl _⟩ D a cI cJ cZ HW ch ma br tl ki co pr pa tw nv sv ru le li bn ip aw ns pn pl po pf pt xs xv xk xd hK hP hD hA hS hX hl (v_Ju_weighUnmarked z ch ma br tl ki co pr pa tw nv sv ru le li bn ip aw ns pn pl po pf pt xs xv xk xd hpre) (fun ch' ma' br' tl' ki' co' pr' pa' tw' nv' sv' ru' le' li' bn' ip' aw' ns' pn' pl' po' pf' pt' ls1 pc H1 locs1 hd hv hP1 hD1 hS1 => by obtain ⟨hp, rfl, rfl, rfl, rfl, rfl, rfl, rfl, rfl, rfl, rfl, rfl, rfl, rfl, rfl, rfl, rfl, rfl, rfl, rfl⟩ := hv; exact hret (ch', ma', br', tl') ls1 pc H1 locs1 hd hp hP1 hD1 hS1))
theorem hd_Ju_weighUnmarked : y_Ju_weighUnmarked.cls ≠ "java/lang/invoke/MethodHandle" ∧ y_Ju_weighUnmarked.cls ≠ "java/lang/invoke/VarHandle" ∧ (parseMethodDescriptor y_Ju_weighUnmarked.desc).map (fun d => d.parameters.length) = some 4 := ⟨by decide, by decide, by decide +kernel⟩
def V_Ju_weighElements (z : Nat) (ch : Nat → Int32) (ma : Nat → Int32) (br : Nat → Int64) (tl : Int32) (ki : Nat → Int32) (co : Nat → Int64) (pr : Nat → Int32) (pa : Nat → Int32) (tw : Nat → Int32) (nv : Int32) (sv : Int32) (ru : Nat → Int32) (le : Nat → Int32) (li : Nat → Int32) (bn : Nat → Int32) (ip : Nat → Int32) (aw : Nat → Int32) (ns : Int32) (pn : Nat → Int32) (pl : Nat → Int32) (po : Nat → Int32) (pf : Nat → Int32) (pt : Nat → Int32) (xs : Int32) (xv : Int32) (xd : Int32) (post : (Nat → Int32) → (Nat → Int32) → (Nat → Int64) → Int32 → (Nat → Int32) → (Nat → Int64) → (Nat → Int32) → (Nat → Int32) → (Nat → Int32) → Int32 → Int32 → (Nat → Int32) → (Nat → Int32) → (Nat → Int32) → (Nat → Int32) → (Nat → Int32) → (Nat → Int32) → Int32 → (Nat → Int32) → (Nat → Int32) → (Nat → Int32) → (Nat → Int32) → (Nat → Int32) → Prop) : Prop :=
  (vp_in xv 40 ∧ (vp_in (xs * 4 + 32 - 29) 96 ∧ (vp_in (xs * 29 + 22) 696 ∧ (∃ (I15 : Int32 → (Nat → Int32) → (Nat → Int32) → (Nat → Int64) → Int32 → Prop) (mI15 : Int32 → (Nat → Int32) → (Nat → Int32) → (Nat → Int64) → Int32 → Nat), I15 0 ch ma br tl ∧ (∀ (x10 : Int32) (f11 : Nat → Int32) (f12 : Nat → Int32) (f13 : Nat → Int64) (u14 : Int32), I15 x10 f11 f12 f13 u14 → (((if ki xv.toNatClampNeg = 3 then sCount (co xv.toNatClampNeg).toInt32 else iBits (pr xv.toNatClampNeg)) ≤ x10 → post f11 f12 f13 u14 ki co pr pa tw nv sv ru le li bn ip aw ns pn pl po pf pt) ∧ (¬ (if ki xv.toNatClampNeg = 3 then sCount (co xv.toNatClampNeg).toInt32 else iBits (pr xv.toNatClampNeg)) ≤ x10 → (((le (xs * 4 + 32 - 29 : Int32).toNatClampNeg) ≤ x10 → (((ru (xs * 29 + 22 : Int32).toNatClampNeg) = (-1) → (I15 (x10 + 1) f11 f12 f13 u14 ∧ mI15 (x10 + 1) f11 f12 f13 u14 < mI15 x10 f11 f12 f13 u14)) ∧ (¬ (ru (xs * 29 + 22 : Int32).toNatClampNeg) = (-1) → ((∃ n0 m0 s0 v0 d0 : Nat, JP ki co pr pa pn po ru le li bn nv ns u14 z xs xv xd n0 m0 s0 v0 d0 ∧ (∃ i0 : Nat, cpb ki pr v0 i0 ∧ x10 = nI i0) ∧ (∃ k0 : Nat, k0 < 36 ∧ 22 = nI k0) ∧ ∃ x0 : Nat, x0 < m0 ∧ ru (xs * 29 + 22 : Int32).toNatClampNeg = nI x0) ∧ (∀ (f16 : Nat → Int32) (f17 : Nat → Int32) (f18 : Nat → Int64) (u19 : Int32), (((u19 = 0 ∨ u19 = 1) ∧ (u14 = 1 → u19 = 1) ∧ ∀ (G : Sp) (R : Nat → Nat → Prop) (lv : Nat → Nat), (∃ va mk, G = gC ki co pr pa tw pn pl po pf pt ru le li bn nv.toNatClampNeg va mk) → Ctx G R lv → Ask G xs.toNatClampNeg xv.toNatClampNeg (ru (xs * 29 + 22 : Int32).toNatClampNeg : Int32).toNatClampNeg (gPt G xv.toNatClampNeg x10.toNatClampNeg) → Ef G R lv xs.toNatClampNeg xv.toNatClampNeg xd.toNatClampNeg (fun x' w' => x' = (ru (xs * 29 + 22 : Int32).toNatClampNeg : Int32).toNatClampNeg ∧ w' = gPt G xv.toNatClampNeg x10.toNatClampNeg) (fun b => b = (22 : Int32).toNatClampNeg ∧ ¬ gVa G (ru (xs * 29 + 22 : Int32).toNatClampNeg : Int32).toNatClampNeg (gPt G xv.toNatClampNeg x10.toNatClampNeg)) (fun i => i = x10.toNatClampNeg) True f11 f12 f13 u14 f16 f17 f18 u19)) → (I15 (x10 + 1) f16 f17 f18 u19 ∧ mI15 (x10 + 1) f16 f17 f18 u19 < mI15 x10 f11 f12 f13 u14)))))) ∧ (¬ (le (xs * 4 + 32 - 29 : Int32).toNatClampNeg) ≤ x10 → (vp_in ((xs * 4 + 32 - 29) * 3 + x10) 288 ∧ ((∃ n0 m0 s0 v0 d0 : Nat, JP ki co pr pa pn po ru le li bn nv ns u14 z xs xv xd n0 m0 s0 v0 d0 ∧ (∃ i0 : Nat, cpb ki pr v0 i0 ∧ x10 = nI i0) ∧ (∃ k0 : Nat, k0 < 36 ∧ 32 = nI k0) ∧ ∃ x0 : Nat, x0 < m0 ∧ li ((xs * 4 + 32 - 29) * 3 + x10 : Int32).toNatClampNeg = nI x0) ∧ (∀ (f20 : Nat → Int32) (f21 : Nat → Int32) (f22 : Nat → Int64) (u23 : Int32), (((u23 = 0 ∨ u23 = 1) ∧ (u14 = 1 → u23 = 1) ∧ ∀ (G : Sp) (R : Nat → Nat → Prop) (lv : Nat → Nat), (∃ va mk, G = gC ki co pr pa tw pn pl po pf pt ru le li bn nv.toNatClampNeg va mk) → Ctx G R lv → Ask G xs.toNatClampNeg xv.toNatClampNeg (li ((xs * 4 + 32 - 29) * 3 + x10 : Int32).toNatClampNeg : Int32).toNatClampNeg (gPt G xv.toNatClampNeg x10.toNatClampNeg) → Ef G R lv xs.toNatClampNeg xv.toNatClampNeg xd.toNatClampNeg (fun x' w' => x' = (li ((xs * 4 + 32 - 29) * 3 + x10 : Int32).toNatClampNeg : Int32).toNatClampNeg ∧ w' = gPt G xv.toNatClampNeg x10.toNatClampNeg) (fun b => b = (32 : Int32).toNatClampNeg ∧ ¬ gVa G (li ((xs * 4 + 32 - 29) * 3 + x10 : Int32).toNatClampNeg : Int32).toNatClampNeg (gPt G xv.toNatClampNeg x10.toNatClampNeg)) (fun i => i = x10.toNatClampNeg) True f11 f12 f13 u14 f20 f21 f22 u23)) → (I15 (x10 + 1) f20 f21 f22 u23 ∧ mI15 (x10 + 1) f20 f21 f22 u23 < mI15 x10 f11 f12 f13 u14)))))))))))))
set_option maxHeartbeats 4000000 in
set_option maxRecDepth 100000 in
theorem g_Ju_weighElements {p : Program} {l : Launch} {e : Env} {R : Room} {s : State} {m : MethodId} {args : Array Value} {below : List Frame} {meth : Method} {c : Code} {H : Heap} {locs : List Loc} {cells slots : Nat} {Q : State → Prop} {ls : Array Slot} {A : Nat → Prop} {z : Nat} (S : CallFix p m c b_Ju_weighElements 8 s args W0 R_Ju) (hRf : 5 * z + 12 ≤ R.frames) (hRl : 200 * z + 150 ≤ R.locals) (hRc : cells ≤ R.cells ∧ slots ≤ R.slots) (D : va_G) (a : Nat → Nat) (cI cJ cZ : ClassId) (HW : WQ l D a cI cJ cZ z) (ch : Nat → Int32) (ma : Nat → Int32) (br : Nat → Int64) (tl : Int32) (ki : Nat → Int32) (co : Nat → Int64) (pr : Nat → Int32) (pa : Nat → Int32) (tw : Nat → Int32) (nv : Int32) (sv : Int32) (ru : Nat → Int32) (le : Nat → Int32) (li : Nat → Int32) (bn : Nat → Int32) (ip : Nat → Int32) (aw : Nat → Int32) (ns : Int32) (pn : Nat → Int32) (pl : Nat → Int32) (po : Nat → Int32) (pf : Nat → Int32) (pt : Nat → Int32) (xs : Int32) (xv : Int32) (xd : Int32) (hK : va_K D vwCl (tyA cI cJ cZ) s) (hP : va_P D vwCl (wJ a cI cJ ch ma br tl ++ wV a cI cJ ki co pr pa tw nv sv ++ wS a cI ru le li bn ip aw ns ++ wL a ++ wP a cI cZ pn pl po pf pt) H) (hD : va_D A (wJ a cI cJ ch ma br tl ++ wV a cI cJ ki co pr pa tw nv sv ++ wS a cI ru le li bn ip aw ns ++ wL a ++ wP a cI cZ pn pl po pf pt)) (hA : ∀ q, s.heap.size ≤ q → A q) (hS : va_S A s.heap H locs) (hX : eX A s s.heap) (hl : lv_has ls 8 [(0, .ref (a 20)), (1, .int xs), (2, .int xv), (3, .int xd)]) {post : (Nat → Int32) → (Nat → Int32) → (Nat → Int64) → Int32 → (Nat → Int32) → (Nat → Int64) → (Nat → Int32) → (Nat → Int32) → (Nat → Int32) → Int32 → Int32 → (Nat → Int32) → (Nat → Int32) → (Nat → Int32) → (Nat → Int32) → (Nat → Int32) → (Nat → Int32) → Int32 → (Nat → Int32) → (Nat → Int32) → (Nat → Int32) → (Nat → Int32) → (Nat → Int32) → Prop} (vc : V_Ju_weighElements z ch ma br tl ki co pr pa tw nv sv ru le li bn ip aw ns pn pl po pf pt xs xv xd post)
    (hret : ∀ (ch : Nat → Int32) (ma : Nat → Int32) (br : Nat → Int64) (tl : Int32) (ki : Nat → Int32) (co : Nat → Int64) (pr : Nat → Int32) (pa : Nat → Int32) (tw : Nat → Int32) (nv : Int32) (sv : Int32) (ru : Nat → Int32) (le : Nat → Int32) (li : Nat → Int32) (bn : Nat → Int32) (ip : Nat → Int32) (aw : Nat → Int32) (ns : Int32) (pn : Nat → Int32) (pl : Nat → Int32) (po : Nat → Int32) (pf : Nat → Int32) (pt : Nat → Int32) (ls : Array Slot) (pc : Nat) (H : Heap) (locs : List Loc), decode b_Ju_weighElements pc = .ok (.return_, 1) → post ch ma br tl ki co pr pa tw nv sv ru le li bn ip aw ns pn pl po pf pt → va_P D vwCl (wJ a cI cJ ch ma br tl ++ wV a cI cJ ki co pr pa tw nv sv ++ wS a cI ru le li bn ip aw ns ++ wL a ++ wP a cI cZ pn pl po pf pt) H → va_D A (wJ a cI cJ ch ma br tl ++ wV a cI cJ ki co pr pa tw nv sv ++ wS a cI ru le li bn ip aw ns ++ wL a ++ wP a cI cZ pn pl po pf pt) → va_S A s.heap H locs → W p l e R s m args below meth c H locs cells slots Q (F0 m pc ls [])) : W p l e R s m args below meth c H locs cells slots Q (F0 m 0 ls []) := by
  have hx := S.1
  have hb := S.2.1
  have hown := S.2.2.2.1
  have hts := S.2.2.2.2
  unfold V_Ju_weighElements at vc
  refine lv_aload_n hx hb d_Ju_weighElements_0 rfl (lv_at hl 0 rfl) ?_
  refine va_get (D := D) (ci := 0) (v := .ref (a 0)) (C := R_Ju) (T := F_Ju) (N := 7) hx hb hts in_Ju hown hK hP 0 rfl rfl 0 (by decide) (hts _ fl_Ju_11) (fun _ h => h) rfl d_Ju_weighElements_1 ?_
  refine lv_iload_n hx hb d_Ju_weighElements_4 rfl (lv_at hl 2 rfl) ?_
  obtain ⟨hpre, vc⟩ := vc
  refine pc_V (As := [.int xv]) (rest := []) S (c_Va_sizeOf l D a cI cJ cZ ki co pr pa tw nv sv xv hpre) wB_blind k_Va_sizeOf i_Va_sizeOf e_Va_sizeOf o_Va ml_Ju_136 hd_Va_sizeOf (Nat.le_trans (by omega) hRf) (Nat.le_trans (by omega) hRl) hRc (va_recv hK hP (q0 := 4) (ci := 4) rfl rfl) (wB_at (hP.sub (ws' := (wV a cI cJ ki co pr pa tw nv sv)) [4, 5, 6, 7, 8, 9] rfl) hK) hl.1 rfl (Nat.le_of_ble_eq_true rfl) d_Ju_weighElements_5 ?_
  refine lv_istore hx hb d_Ju_weighElements_8 hl (by decide) (lv' := [(4, .int (if ki xv.toNatClampNeg = 3 then sCount (co xv.toNatClampNeg).toInt32 else iBits (pr xv.toNatClampNeg))), (0, .ref (a 20)), (1, .int xs), (2, .int xv), (3, .int xd)]) rfl (fun ls hl => ?_)
  refine lv_aload_n hx hb d_Ju_weighElements_10 rfl (lv_at hl 1 rfl) ?_
  refine va_get (D := D) (ci := 0) (v := .ref (a 12)) (C := R_Ju) (T := F_Ju) (N := 7) hx hb hts in_Ju hown hK hP 0 rfl rfl 1 (by decide) (hts _ fl_Ju_17) (fun _ h => h) rfl d_Ju_weighElements_11 ?_
  refine lv_iload_n hx hb d_Ju_weighElements_14 rfl (lv_at hl 2 rfl) ?_
  refine lv_bipush (v := 32) hx hb d_Ju_weighElements_15 (by decide) ?_
  obtain ⟨hpre, vc⟩ := vc
  refine pc_V (As := [.int xs, .int 32]) (rest := []) S (c_Sc_lengthOf l D a cI cJ cZ ru le li bn ip aw ns xs 32 hpre) wB_blind k_Sc_lengthOf i_Sc_lengthOf e_Sc_lengthOf o_Sc ml_Ju_126 hd_Sc_lengthOf (Nat.le_trans (by omega) hRf) (Nat.le_trans (by omega) hRl) hRc (va_recv hK hP (q0 := 10) (ci := 3) rfl rfl) (wB_at (hP.sub (ws' := (wS a cI ru le li bn ip aw ns)) [10, 11, 12, 13, 14, 15, 16] rfl) hK) hl.1 rfl (Nat.le_of_ble_eq_true rfl) d_Ju_weighElements_17 ?_
  refine lv_istore hx hb d_Ju_weighElements_20 hl (by decide) (lv' := [(5, .int (le (xs * 4 + 32 - 29 : Int32).toNatClampNeg)), (4, .int (if ki xv.toNatClampNeg = 3 then sCount (co xv.toNatClampNeg).toInt32 else iBits (pr xv.toNatClampNeg))), (0, .ref (a 20)), (1, .int xs), (2, .int xv), (3, .int xd)]) rfl (fun ls hl => ?_)
  refine lv_aload_n hx hb d_Ju_weighElements_22 rfl (lv_at hl 2 rfl) ?_
  refine va_get (D := D) (ci := 0) (v := .ref (a 12)) (C := R_Ju) (T := F_Ju) (N := 7) hx hb hts in_Ju hown hK hP 0 rfl rfl 1 (by decide) (hts _ fl_Ju_17) (fun _ h => h) rfl d_Ju_weighElements_23 ?_
  refine lv_iload_n hx hb d_Ju_weighElements_26 rfl (lv_at hl 3 rfl) ?_
  refine lv_bipush (v := 22) hx hb d_Ju_weighElements_27 (by decide) ?_
  obtain ⟨hpre, vc⟩ := vc
  refine pc_V (As := [.int xs, .int 22]) (rest := []) S (c_Sc_ruleOf l D a cI cJ cZ ru le li bn ip aw ns xs 22 hpre) wB_blind k_Sc_ruleOf i_Sc_ruleOf e_Sc_ruleOf o_Sc ml_Ju_78 hd_Sc_ruleOf (Nat.le_trans (by omega) hRf) (Nat.le_trans (by omega) hRl) hRc (va_recv hK hP (q0 := 10) (ci := 3) rfl rfl) (wB_at (hP.sub (ws' := (wS a cI ru le li bn ip aw ns)) [10, 11, 12, 13, 14, 15, 16] rfl) hK) hl.1 rfl (Nat.le_of_ble_eq_true rfl) d_Ju_weighElements_29 ?_
  refine lv_istore hx hb d_Ju_weighElements_32 hl (by decide) (lv' := [(6, .int (ru (xs * 29 + 22 : Int32).toNatClampNeg)), (5, .int (le (xs * 4 + 32 - 29 : Int32).toNatClampNeg)), (4, .int (if ki xv.toNatClampNeg = 3 then sCount (co xv.toNatClampNeg).toInt32 else iBits (pr xv.toNatClampNeg))), (0, .ref (a 20)), (1, .int xs), (2, .int xv), (3, .int xd)]) rfl (fun ls hl => ?_)
  refine lv_iconst (v := 0) hx hb d_Ju_weighElements_34 (by decide) ?_
  refine lv_istore hx hb d_Ju_weighElements_35 hl (by decide) (lv' := [(7, .int 0), (6, .int (ru (xs * 29 + 22 : Int32).toNatClampNeg)), (5, .int (le (xs * 4 + 32 - 29 : Int32).toNatClampNeg)), (4, .int (if ki xv.toNatClampNeg = 3 then sCount (co xv.toNatClampNeg).toInt32 else iBits (pr xv.toNatClampNeg))), (0, .ref (a 20)), (1, .int xs), (2, .int xv), (3, .int xd)]) rfl (fun ls hl => ?_)
  obtain ⟨I15, mI15, vc0, vcs⟩ := vc
  have lI15 : ∀ n : Nat, ∀ (x10 : Int32) (f11 : Nat → Int32) (f12 : Nat → Int32) (f13 : Nat → Int64) (u14 : Int32) (ls : Array Slot) (H : Heap) (locs : List Loc), I15 x10 f11 f12 f13 u14 → mI15 x10 f11 f12 f13 u14 < n → lv_has ls 8 [(0, .ref (a 20)), (1, .int xs), (2, .int xv), (3, .int xd), (4, .int (if ki xv.toNatClampNeg = 3 then sCount (co xv.toNatClampNeg).toInt32 else iBits (pr xv.toNatClampNeg))), (5, .int (le (xs * 4 + 32 - 29 : Int32).toNatClampNeg)), (6, .int (ru (xs * 29 + 22 : Int32).toNatClampNeg)), (7, .int x10)] → va_P D vwCl (wJ a cI cJ f11 f12 f13 u14 ++ wV a cI cJ ki co pr pa tw nv sv ++ wS a cI ru le li bn ip aw ns ++ wL a ++ wP a cI cZ pn pl po pf pt) H → va_D A (wJ a cI cJ f11 f12 f13 u14 ++ wV a cI cJ ki co pr pa tw nv sv ++ wS a cI ru le li bn ip aw ns ++ wL a ++ wP a cI cZ pn pl po pf pt) → va_S A s.heap H locs → W p l e R s m args below meth c H locs cells slots Q (F0 m 37 ls []) := by
    intro n
    induction n with
    | zero => intro x10 f11 f12 f13 u14 ls H locs _ h; exact absurd h (Nat.not_lt_zero _)
    | succ n ihI15 =>
      intro x10 f11 f12 f13 u14 ls H locs vc hmI15 hl hP hD hS
      have vc := vcs x10 f11 f12 f13 u14 vc
      refine lv_iload hx hb d_Ju_weighElements_37 (lv_at hl 7 rfl) ?_
      refine lv_iload hx hb d_Ju_weighElements_39 (lv_at hl 4 rfl) ?_
      refine lv_icmp_ge (tgt := 102) hx hb d_Ju_weighElements_41 (by decide) (fun h => ?_) (fun h => ?_)
      · have vc := vc.1 h
        exact hret _ _ _ _ _ _ _ _ _ _ _ _ _ _ _ _ _ _ _ _ _ _ _ ls _ H locs d_Ju_weighElements_102 vc hP hD hS
      · have vc := vc.2 h
        refine lv_iload hx hb d_Ju_weighElements_44 (lv_at hl 7 rfl) ?_
        refine lv_iload hx hb d_Ju_weighElements_46 (lv_at hl 5 rfl) ?_
        refine lv_icmp_ge (tgt := 77) hx hb d_Ju_weighElements_48 (by decide) (fun h => ?_) (fun h => ?_)
        · have vc := vc.1 h
          refine lv_iload hx hb d_Ju_weighElements_77 (lv_at hl 6 rfl) ?_
          refine lv_iconst (v := (-1)) hx hb d_Ju_weighElements_79 (by decide) ?_
          refine lv_icmp_eq (tgt := 96) hx hb d_Ju_weighElements_80 (by decide) (fun h => ?_) (fun h => ?_)
          · have vc := vc.1 h
            refine lv_iinc (k := 7) (v := x10 + 1) hx hb d_Ju_weighElements_96 hl rfl rfl (by decide) (lv' := [(7, .int (x10 + 1)), (0, .ref (a 20)), (1, .int xs), (2, .int xv), (3, .int xd), (4, .int (if ki xv.toNatClampNeg = 3 then sCount (co xv.toNatClampNeg).toInt32 else iBits (pr xv.toNatClampNeg))), (5, .int (le (xs * 4 + 32 - 29 : Int32).toNatClampNeg)), (6, .int (ru (xs * 29 + 22 : Int32).toNatClampNeg))]) rfl (fun ls hl => ?_)
            refine lv_goto (tgt := 37) hx hb d_Ju_weighElements_99 (by decide) ?_
            exact ihI15 (x10 + 1) f11 f12 f13 u14 ls H locs vc.1 (Nat.lt_of_lt_of_le vc.2 (Nat.le_of_lt_succ hmI15)) (lv_sub hl [1, 2, 3, 4, 5, 6, 7, 0] rfl) hP hD hS
          · have vc := vc.2 h
            refine lv_aload_n hx hb d_Ju_weighElements_83 rfl (lv_at hl 0 rfl) ?_
            refine lv_iload_n hx hb d_Ju_weighElements_84 rfl (lv_at hl 1 rfl) ?_
            refine lv_iload_n hx hb d_Ju_weighElements_85 rfl (lv_at hl 2 rfl) ?_
            refine lv_iload hx hb d_Ju_weighElements_86 (lv_at hl 7 rfl) ?_
            refine lv_bipush (v := 22) hx hb d_Ju_weighElements_88 (by decide) ?_
            refine lv_iload hx hb d_Ju_weighElements_90 (lv_at hl 6 rfl) ?_
            refine lv_iload_n hx hb d_Ju_weighElements_92 rfl (lv_at hl 3 rfl) ?_
            obtain ⟨hpre, vc⟩ := vc
            refine ec_V (As := [.int xs, .int xv, .int x10, .int 22, .int (ru (xs * 29 + 22 : Int32).toNatClampNeg), .int xd]) (rest := []) (wr := ([] : va_W)) S (c_Ju_weighPart l D a cI cJ cZ z HW f11 f12 f13 u14 ki co pr pa tw nv sv ru le li bn ip aw ns pn pl po pf pt xs xv x10 22 (ru (xs * 29 + 22 : Int32).toNatClampNeg) xd hpre) k_Ju_weighPart i_Ju_weighPart e_Ju_weighPart o_Ju ml_Ju_139 hd_Ju_weighPart (Nat.le_trans (by omega) hRf) (Nat.le_trans (by omega) hRl) hRc (va_recv hK hP (q0 := 0) (ci := 0) rfl rfl) hK hP hD hS hA hX [0, 1, 2, 3, 4, 5, 6, 7, 8, 9, 10, 11, 12, 13, 14, 15, 16, 17, 18, 19, 20, 21, 22, 23] [] rfl rfl rfl (by decide) (by decide) (by decide) hl.1 rfl (Nat.le_of_ble_eq_true rfl) d_Ju_weighElements_93 (fun u H locs hu hP hD hS => ?_)
            obtain ⟨f16, f17, f18, u19⟩ := u
            have vc := vc f16 f17 f18 u19 hu
            clear hu
            have hP : va_P D vwCl (wJ a cI cJ f16 f17 f18 u19 ++ wV a cI cJ ki co pr pa tw nv sv ++ wS a cI ru le li bn ip aw ns ++ wL a ++ wP a cI cZ pn pl po pf pt) H := hP
            have hD : va_D A (wJ a cI cJ f16 f17 f18 u19 ++ wV a cI cJ ki co pr pa tw nv sv ++ wS a cI ru le li bn ip aw ns ++ wL a ++ wP a cI cZ pn pl po pf pt) := hD
            refine lv_iinc (k := 7) (v := x10 + 1) hx hb d_Ju_weighElements_96 hl rfl rfl (by decide) (lv' := [(7, .int (x10 + 1)), (0, .ref (a 20)), (1, .int xs), (2, .int xv), (3, .int xd), (4, .int (if ki xv.toNatClampNeg = 3 then sCount (co xv.toNatClampNeg).toInt32 else iBits (pr xv.toNatClampNeg))), (5, .int (le (xs * 4 + 32 - 29 : Int32).toNatClampNeg)), (6, .int (ru (xs * 29 + 22 : Int32).toNatClampNeg))]) rfl (fun ls hl => ?_)
            refine lv_goto (tgt := 37) hx hb d_Ju_weighElements_99 (by decide) ?_
            exact ihI15 (x10 + 1) f16 f17 f18 u19 ls H locs vc.1 (Nat.lt_of_lt_of_le vc.2 (Nat.le_of_lt_succ hmI15)) (lv_sub hl [1, 2, 3, 4, 5, 6, 7, 0] rfl) hP hD hS
        · have vc := vc.2 h
          refine lv_aload_n hx hb d_Ju_weighElements_51 rfl (lv_at hl 0 rfl) ?_
          refine lv_iload_n hx hb d_Ju_weighElements_52 rfl (lv_at hl 1 rfl) ?_
          refine lv_iload_n hx hb d_Ju_weighElements_53 rfl (lv_at hl 2 rfl) ?_
          refine lv_iload hx hb d_Ju_weighElements_54 (lv_at hl 7 rfl) ?_
          refine lv_bipush (v := 32) hx hb d_Ju_weighElements_56 (by decide) ?_
          refine lv_aload_n hx hb d_Ju_weighElements_58 rfl (lv_at hl 0 rfl) ?_
          refine va_get (D := D) (ci := 0) (v := .ref (a 12)) (C := R_Ju) (T := F_Ju) (N := 7) hx hb hts in_Ju hown hK hP 0 rfl rfl 1 (by decide) (hts _ fl_Ju_17) (fun _ h => h) rfl d_Ju_weighElements_59 ?_
          refine lv_iload_n hx hb d_Ju_weighElements_62 rfl (lv_at hl 1 rfl) ?_
          refine lv_bipush (v := 32) hx hb d_Ju_weighElements_63 (by decide) ?_
          refine lv_iload hx hb d_Ju_weighElements_65 (lv_at hl 7 rfl) ?_
          obtain ⟨hpre, vc⟩ := vc
          refine pc_V (As := [.int xs, .int 32, .int x10]) (rest := [.int 32, .int x10, .int xv, .int xs, .ref (a 20)]) S (c_Sc_listedAt l D a cI cJ cZ ru le li bn ip aw ns xs 32 x10 hpre) wB_blind k_Sc_listedAt i_Sc_listedAt e_Sc_listedAt o_Sc ml_Ju_129 hd_Sc_listedAt (Nat.le_trans (by omega) hRf) (Nat.le_trans (by omega) hRl) hRc (va_recv hK hP (q0 := 10) (ci := 3) rfl rfl) (wB_at (hP.sub (ws' := (wS a cI ru le li bn ip aw ns)) [10, 11, 12, 13, 14, 15, 16] rfl) hK) hl.1 rfl (Nat.le_of_ble_eq_true rfl) d_Ju_weighElements_67 ?_
          refine lv_iload_n hx hb d_Ju_weighElements_70 rfl (lv_at hl 3 rfl) ?_
          obtain ⟨hpre, vc⟩ := vc
          refine ec_V (As := [.int xs, .int xv, .int x10, .int 32, .int (li ((xs * 4 + 32 - 29) * 3 + x10 : Int32).toNatClampNeg), .int xd]) (rest := []) (wr := ([] : va_W)) S (c_Ju_weighPart l D a cI cJ cZ z HW f11 f12 f13 u14 ki co pr pa tw nv sv ru le li bn ip aw ns pn pl po pf pt xs xv x10 32 (li ((xs * 4 + 32 - 29) * 3 + x10 : Int32).toNatClampNeg) xd hpre) k_Ju_weighPart i_Ju_weighPart e_Ju_weighPart o_Ju ml_Ju_139 hd_Ju_weighPart (Nat.le_trans (by omega) hRf) (Nat.le_trans (by omega) hRl) hRc (va_recv hK hP (q0 := 0) (ci := 0) rfl rfl) hK hP hD hS hA hX [0, 1, 2, 3, 4, 5, 6, 7, 8, 9, 10, 11, 12, 13, 14, 15, 16, 17, 18, 19, 20, 21, 22, 23] [] rfl rfl rfl (by decide) (by decide) (by decide) hl.1 rfl (Nat.le_of_ble_eq_true rfl) d_Ju_weighElements_71 (fun u H locs hu hP hD hS => ?_)
          obtain ⟨f20, f21, f22, u23⟩ := u
          have vc := vc f20 f21 f22 u23 hu
          clear hu
          have hP : va_P D vwCl (wJ a cI cJ f20 f21 f22 u23 ++ wV a cI cJ ki co pr pa tw nv sv ++ wS a cI ru le li bn ip aw ns ++ wL a ++ wP a cI cZ pn pl po pf pt) H := hP
          have hD : va_D A (wJ a cI cJ f20 f21 f22 u23 ++ wV a cI cJ ki co pr pa tw nv sv ++ wS a cI ru le li bn ip aw ns ++ wL a ++ wP a cI cZ pn pl po pf pt) := hD
          refine lv_goto (tgt := 96) hx hb d_Ju_weighElements_74 (by decide) ?_
          refine lv_iinc (k := 7) (v := x10 + 1) hx hb d_Ju_weighElements_96 hl rfl rfl (by decide) (lv' := [(7, .int (x10 + 1)), (0, .ref (a 20)), (1, .int xs), (2, .int xv), (3, .int xd), (4, .int (if ki xv.toNatClampNeg = 3 then sCount (co xv.toNatClampNeg).toInt32 else iBits (pr xv.toNatClampNeg))), (5, .int (le (xs * 4 + 32 - 29 : Int32).toNatClampNeg)), (6, .int (ru (xs * 29 + 22 : Int32).toNatClampNeg))]) rfl (fun ls hl => ?_)
          refine lv_goto (tgt := 37) hx hb d_Ju_weighElements_99 (by decide) ?_
          exact ihI15 (x10 + 1) f20 f21 f22 u23 ls H locs vc.1 (Nat.lt_of_lt_of_le vc.2 (Nat.le_of_lt_succ hmI15)) (lv_sub hl [1, 2, 3, 4, 5, 6, 7, 0] rfl) hP hD hS
  exact lI15 _ 0 ch ma br tl ls H locs vc0 (Nat.lt_succ_self _) (lv_sub hl [4, 5, 6, 7, 3, 2, 1, 0] rfl) hP hD hS
set_option maxHeartbeats 4000000 in
theorem v_Ju_weighElements (z : Nat) (ch : Nat → Int32) (ma : Nat → Int32) (br : Nat → Int64) (tl : Int32) (ki : Nat → Int32) (co : Nat → Int64) (pr : Nat → Int32) (pa : Nat → Int32) (tw : Nat → Int32) (nv : Int32) (sv : Int32) (ru : Nat → Int32) (le : Nat → Int32) (li : Nat → Int32) (bn : Nat → Int32) (ip : Nat → Int32) (aw : Nat → Int32) (ns : Int32) (pn : Nat → Int32) (pl : Nat → Int32) (po : Nat → Int32) (pf : Nat → Int32) (pt : Nat → Int32) (xs : Int32) (xv : Int32) (xd : Int32) (hpre : (∃ n0 m0 s0 v0 d0 : Nat, JP ki co pr pa pn po ru le li bn nv ns tl z xs xv xd n0 m0 s0 v0 d0 ∧ ki v0 = 4)) : V_Ju_weighElements z ch ma br tl ki co pr pa tw nv sv ru le li bn ip aw ns pn pl po pf pt xs xv xd (fun ch' ma' br' tl' ki' co' pr' pa' tw' nv' sv' ru' le' li' bn' ip' aw' ns' pn' pl' po' pf' pt' => (((tl' = 0 ∨ tl' = 1) ∧ (tl = 1 → tl' = 1) ∧ ∀ (G : Sp) (R : Nat → Nat → Prop) (lv : Nat → Nat), (∃ va mk, G = gC ki co pr pa tw pn pl po pf pt ru le li bn nv.toNatClampNeg va mk) → Ctx G R lv → Ef G R lv xs.toNatClampNeg xv.toNatClampNeg xd.toNatClampNeg (AskEl G xs.toNatClampNeg xv.toNatClampNeg) (BadEl G xs.toNatClampNeg xv.toNatClampNeg) (MrkEl G xs.toNatClampNeg xv.toNatClampNeg) True ch ma br tl ch' ma' br' tl')) ∧ ki' = ki ∧ co' = co ∧ pr' = pr ∧ pa' = pa ∧ tw' = tw ∧ nv' = nv ∧ sv' = sv ∧ ru' = ru ∧ le' = le ∧ li' = li ∧ bn' = bn ∧ ip' = ip ∧ aw' = aw ∧ ns' = ns ∧ pn' = pn ∧ pl' = pl ∧ po' = po ∧ pf' = pf ∧ pt' = pt) := by
  have main : ∀ post : (Nat → Int32) → (Nat → Int32) → (Nat → Int64) → Int32 → (Nat → Int32) → (Nat → Int64) → (Nat → Int32) → (Nat → Int32) → (Nat → Int32) → Int32 → Int32 → (Nat → Int32) → (Nat → Int32) → (Nat → Int32) → (Nat → Int32) → (Nat → Int32) → (Nat → Int32) → Int32 → (Nat → Int32) → (Nat → Int32) → (Nat → Int32) → (Nat → Int32) → (Nat → Int32) → Prop, (∀ ch' ma' br' tl' ki' co' pr' pa' tw' nv' sv' ru' le' li' bn' ip' aw' ns' pn' pl' po' pf' pt', (fun ch' ma' br' tl' ki' co' pr' pa' tw' nv' sv' ru' le' li' bn' ip' aw' ns' pn' pl' po' pf' pt' => (((tl' = 0 ∨ tl' = 1) ∧ (tl = 1 → tl' = 1) ∧ ∀ (G : Sp) (R : Nat → Nat → Prop) (lv : Nat → Nat), (∃ va mk, G = gC ki co pr pa tw pn pl po pf pt ru le li bn nv.toNatClampNeg va mk) → Ctx G R lv → Ef G R lv xs.toNatClampNeg xv.toNatClampNeg xd.toNatClampNeg (AskEl G xs.toNatClampNeg xv.toNatClampNeg) (BadEl G xs.toNatClampNeg xv.toNatClampNeg) (MrkEl G xs.toNatClampNeg xv.toNatClampNeg) True ch ma br tl ch' ma' br' tl')) ∧ ki' = ki ∧ co' = co ∧ pr' = pr ∧ pa' = pa ∧ tw' = tw ∧ nv' = nv ∧ sv' = sv ∧ ru' = ru ∧ le' = le ∧ li' = li ∧ bn' = bn ∧ ip' = ip ∧ aw' = aw ∧ ns' = ns ∧ pn' = pn ∧ pl' = pl ∧ po' = po ∧ pf' = pf ∧ pt' = pt) ch' ma' br' tl' ki' co' pr' pa' tw' nv' sv' ru' le' li' bn' ip' aw' ns' pn' pl' po' pf' pt' → post ch' ma' br' tl' ki' co' pr' pa' tw' nv' sv' ru' le' li' bn' ip' aw' ns' pn' pl' po' pf' pt') → V_Ju_weighElements z ch ma br tl ki co pr pa tw nv sv ru le li bn ip aw ns pn pl po pf pt xs xv xd post := by
    intro post hpost
    unfold V_Ju_weighElements
    obtain ⟨n0, m0, s0, v0, d0, hJ, hk4⟩ := hpre
    have hJ0 := hJ
    obtain ⟨hs24, hv40, hm, hn⟩ := JP_s hJ
    obtain ⟨hnv, hns, hS, htl, rfl, rfl, rfl, hsm, hvn, hd1, hd30, hfuel⟩ := hJ
    have hPv : vp_in (nI (v0 * 24 + s0)) 960 := vp_in_nI (by omega) (by decide)
    have cs : (nI s0).toNatClampNeg = s0 := nI_clamp (by omega)
    have cv : (nI v0).toNatClampNeg = v0 := nI_clamp (by omega)
    have cd : (nI d0).toNatClampNeg = d0 := nI_clamp (by omega)
    have cP : (nI (v0 * 24 + s0)).toNatClampNeg = v0 * 24 + s0 := nI_clamp (by omega)
    have cn : nv.toNatClampNeg = n0 := by rw [hnv]; exact nI_clamp (by omega)
    have e32 : nI s0 * 4 + 32 - 29 = nI (s0 * 4 + 3) := ix4 (k := 3)
    have e22 : nI s0 * 29 + 22 = nI (s0 * 29 + 22) := ix29 (k := 22)
    have c4 : (nI (s0 * 4 + 3)).toNatClampNeg = s0 * 4 + 3 := nI_clamp (by omega)
    have c29 : (nI (s0 * 29 + 22)).toNatClampNeg = s0 * 29 + 22 := nI_clamp (by omega)
    obtain ⟨p, hp3, ep⟩ := hS.2.2.2.1 (s0 * 4 + 3) (by omega)
    obtain ⟨L, hL, eL, hcp⟩ := row_size hS.1 hv40 hk4
    simp only [px24, e32, e22, c4, c29, cP, cs, cv, cd, cn, ep, eL] at hpost ⊢
    have hls : ∀ G, (∃ va mk, G = gC ki co pr pa tw pn pl po pf pt ru le li bn n0 va mk) → lsL G s0 3 = p := fun G hG => by unfold lsL; rw [(gC_eq hG).2.2.2.2.1, ep]; exact nI_clamp (by omega)
    have hpb : ∀ G, (∃ va mk, G = gC ki co pr pa tw pn pl po pf pt ru le li bn n0 va mk) → ∀ i, (gPb G v0 i ↔ i < L) := fun G hG i => by rw [(gC_eq hG).2.1]; exact hcp i
    have hox := (hS.2.2.2.2.1 s0 hs24).1 22 (by omega) (by omega) (by omega) (by omega)
    have toAsk : ∀ G, (∃ va mk, G = gC ki co pr pa tw pn pl po pf pt ru le li bn n0 va mk) → ∀ x w, AskEl G s0 v0 x w → Ask G s0 v0 x w := fun G hG x w q => Or.inr (Or.inl ⟨by rw [(gC_eq hG).1]; exact hk4, Or.inl q⟩)
    refine ⟨vp_in_nI hv40 (by decide), vp_in_nI (by omega) (by decide), vp_in_nI (by omega) (by decide), fun xj f g hh u => ∃ j, j ≤ L ∧ xj = nI j ∧ EG (fun G => ∃ va mk, G = gC ki co pr pa tw pn pl po pf pt ru le li bn n0 va mk) s0 v0 d0 (fun G x w => ∃ i, i < j ∧ w = gPt G v0 i ∧ ((i < p ∧ x = lsV G s0 3 i) ∨ (p ≤ i ∧ ruH G s0 22 ∧ x = ruV G s0 22))) (fun G b => ∃ i, i < j ∧ ((b = 32 ∧ i < p ∧ ¬ gVa G (lsV G s0 3 i) (gPt G v0 i)) ∨ (b = 22 ∧ p ≤ i ∧ ruH G s0 22 ∧ ¬ gVa G (ruV G s0 22) (gPt G v0 i)))) (fun G i => i < j ∧ (i < p ∨ ruH G s0 22)) (fun _ => True) ch ma br tl f g hh u, fun xj _ _ _ _ => L - xj.toInt.toNat, ⟨0, Nat.zero_le _, rfl, EG.start htl (fun G _ => ⟨fun x w ⟨i, q, _⟩ => absurd q (Nat.not_lt_zero _), fun _ ⟨i, q, _⟩ => absurd q (Nat.not_lt_zero _), fun _ q => absurd q.1 (Nat.not_lt_zero _), trivial⟩)⟩, ?_⟩
    rintro xj f g hh u ⟨j, hj, rfl, hI⟩
    refine ⟨fun h2 => ?_, fun h2 => ?_⟩
    · obtain rfl := (fill_end (N := L) h2 (by omega) hj).symm
      refine (hpost _ _ _ _ _ _ _ _ _ _ _ _ _ _ _ _ _ _ _ _ _ _ _ ⟨hI.same (fun G hG _ => ⟨fun x w => ?_, fun b => ?_, fun m => ?_, trivial⟩), rfl, rfl, rfl, rfl, rfl, rfl, rfl, rfl, rfl, rfl, rfl, rfl, rfl, rfl, rfl, rfl, rfl, rfl, rfl⟩)
      · unfold AskEl; rw [hls G hG]
        exact ⟨fun ⟨i, q1, q2⟩ => ⟨i, by omega, (hpb G hG i).mpr q1, q2⟩, fun ⟨i, _, q1, q2⟩ => ⟨i, (hpb G hG i).mp q1, q2⟩⟩
      · unfold BadEl; rw [hls G hG]
        exact ⟨fun ⟨i, q1, q2⟩ => ⟨i, by omega, (hpb G hG i).mpr q1, q2⟩, fun ⟨i, _, q1, q2⟩ => ⟨i, (hpb G hG i).mp q1, q2⟩⟩
      · unfold MrkEl; rw [hls G hG]
        exact ⟨fun q => ⟨by omega, (hpb G hG m).mpr q.1, q.2⟩, fun q => ⟨(hpb G hG m).mp q.2.1, q.2.2⟩⟩
    · have hj2 := fill_step (N := L) h2 (by omega) hj
      have cj : (nI j).toNatClampNeg = j := nI_clamp (by omega)
      have hpj : nI p ≤ nI j ↔ p ≤ j := nI_leI (by omega) (by omega)
      have mu := fill_mu (N := L) hj2 (by omega)
      rw [hpj]
      refine ⟨fun h3 => ⟨fun h4 => ⟨⟨j + 1, hj2, nI_1 j, hI.same (fun G hG _ => ?_)⟩, mu⟩, fun h4 => ?_⟩, fun h3 => ?_⟩
      · have hru : ¬ ruH G s0 22 := fun q => by unfold ruH at q; rw [(gC_eq hG).2.2.2.1, h4] at q; exact q neg1_lt
        refine ⟨fun x w => ⟨fun ⟨i, q1, q2⟩ => ⟨i, by omega, q2⟩, fun ⟨i, q1, q2, q3⟩ => ⟨i, ?_, q2, q3⟩⟩, fun b => ⟨fun ⟨i, q1, q2⟩ => ⟨i, by omega, q2⟩, fun ⟨i, q1, q3⟩ => ⟨i, ?_, q3⟩⟩, fun m => ⟨fun q => ⟨by omega, q.2⟩, fun q => ⟨?_, q.2⟩⟩, trivial⟩
        · rcases q3 with q3 | q3
          · omega
          · exact absurd q3.2.1 hru
        · rcases q3 with q3 | q3
          · omega
          · exact absurd q3.2.2.1 hru
        · rcases q.2 with q3 | q3
          · omega
          · exact absurd q3 hru
      · obtain ⟨x0, hx, ex⟩ := hox.resolve_left h4
        have cx : (nI x0).toNatClampNeg = x0 := nI_clamp (by omega)
        rw [ex, cx, cj, show ((22 : Int32).toNatClampNeg) = 22 from rfl]
        have hrV : ∀ G, (∃ va mk, G = gC ki co pr pa tw pn pl po pf pt ru le li bn n0 va mk) → ruV G s0 22 = x0 := fun G hG => by unfold ruV; rw [(gC_eq hG).2.2.2.1, ex, cx]
        have hrH : ∀ G, (∃ va mk, G = gC ki co pr pa tw pn pl po pf pt ru le li bn n0 va mk) → ruH G s0 22 := fun G hG => by unfold ruH; rw [(gC_eq hG).2.2.2.1, ex]; exact nI_pos (by omega)
        refine ⟨⟨n0, m0, s0, v0, d0, hJ0.re hI.1, ⟨j, (hcp j).mpr hj2, rfl⟩, ⟨22, by decide, rfl⟩, x0, hx, rfl⟩, fun f1 g1 h1 u1 hp => ⟨⟨j + 1, hj2, nI_1 j, ?_⟩, mu⟩⟩
        refine hI.next hp.1 hp.2.1 (fun G R lv hG hC _ => hp.2.2 G R lv hG hC (toAsk G hG _ _ ⟨j, by omega, (hpb G hG j).mpr hj2, rfl, Or.inr ⟨by rw [hls G hG]; exact h3, hrH G hG, (hrV G hG).symm⟩⟩)) (fun G hG _ _ => ⟨fun x w => ?_, fun b => ?_, fun m => ?_, trivial⟩)
        · constructor
          · rintro (⟨i, q1, q2⟩ | ⟨q1, q2⟩)
            · exact ⟨i, by omega, q2⟩
            · exact ⟨j, by omega, q2, Or.inr ⟨h3, hrH G hG, by rw [hrV G hG]; exact q1⟩⟩
          · rintro ⟨i, q1, q2, q3⟩
            by_cases e : i = j
            · subst e
              rcases q3 with q3 | q3
              · omega
              · exact Or.inr ⟨by rw [← hrV G hG]; exact q3.2.2, q2⟩
            · exact Or.inl ⟨i, by omega, q2, q3⟩
        · constructor
          · rintro (⟨i, q1, q2⟩ | ⟨q1, q2⟩)
            · exact ⟨i, by omega, q2⟩
            · exact ⟨j, by omega, Or.inr ⟨q1, h3, hrH G hG, by rw [hrV G hG]; exact q2⟩⟩
          · rintro ⟨i, q1, q3⟩
            by_cases e : i = j
            · subst e
              rcases q3 with q3 | q3
              · omega
              · exact Or.inr ⟨q3.1, by rw [← hrV G hG]; exact q3.2.2.2⟩
            · exact Or.inl ⟨i, by omega, q3⟩
        · constructor
          · rintro (⟨q1, q2⟩ | q)
            · exact ⟨by omega, q2⟩
            · subst q; exact ⟨by omega, Or.inr (hrH G hG)⟩
          · rintro ⟨q1, q2⟩
            by_cases e : m = j
            · exact Or.inr e
            · exact Or.inl ⟨by omega, q2⟩
      · have hpj2 : j < p := by omega
        have hjL : j < (le (s0 * 4 + 3)).toNatClampNeg := by rw [ep, nI_clamp (by omega)]; exact hpj2
        obtain ⟨x0, hx, ex⟩ := hS.2.2.2.2.2.2.2 s0 3 j hs24 (by omega) hjL
        have i12 : nI (s0 * 4 + 3) * 3 + nI j = nI ((s0 * 4 + 3) * 3 + j) := by rw [nI_mulR, nI_add]
        have c12 : (nI ((s0 * 4 + 3) * 3 + j)).toNatClampNeg = (s0 * 4 + 3) * 3 + j := nI_clamp (by omega)
        have cx : (nI x0).toNatClampNeg = x0 := nI_clamp (by omega)
        rw [i12, c12, ex, cx, cj, show ((32 : Int32).toNatClampNeg) = 32 from rfl]
        have hlv : ∀ G, (∃ va mk, G = gC ki co pr pa tw pn pl po pf pt ru le li bn n0 va mk) → lsV G s0 3 j = x0 := fun G hG => by unfold lsV; rw [(gC_eq hG).2.2.2.2.2.1, ex, cx]
        refine ⟨vp_in_nI (by omega) (by decide), ⟨n0, m0, s0, v0, d0, hJ0.re hI.1, ⟨j, (hcp j).mpr hj2, rfl⟩, ⟨32, by decide, rfl⟩, x0, hx, rfl⟩, fun f1 g1 h1 u1 hp => ⟨⟨j + 1, hj2, nI_1 j, ?_⟩, mu⟩⟩
        refine hI.next hp.1 hp.2.1 (fun G R lv hG hC _ => hp.2.2 G R lv hG hC (toAsk G hG _ _ ⟨j, by omega, (hpb G hG j).mpr hj2, rfl, Or.inl ⟨by rw [hls G hG]; exact hpj2, (hlv G hG).symm⟩⟩)) (fun G hG _ _ => ⟨fun x w => ?_, fun b => ?_, fun m => ?_, trivial⟩)
        · constructor
          · rintro (⟨i, q1, q2⟩ | ⟨q1, q2⟩)
            · exact ⟨i, by omega, q2⟩
            · exact ⟨j, by omega, q2, Or.inl ⟨hpj2, by rw [hlv G hG]; exact q1⟩⟩
          · rintro ⟨i, q1, q2, q3⟩
            by_cases e : i = j
            · subst e
              rcases q3 with q3 | q3
              · exact Or.inr ⟨by rw [← hlv G hG]; exact q3.2, q2⟩
              · omega
            · exact Or.inl ⟨i, by omega, q2, q3⟩
        · constructor
          · rintro (⟨i, q1, q2⟩ | ⟨q1, q2⟩)
            · exact ⟨i, by omega, q2⟩
            · exact ⟨j, by omega, Or.inl ⟨q1, hpj2, by rw [hlv G hG]; exact q2⟩⟩
          · rintro ⟨i, q1, q3⟩
            by_cases e : i = j
            · subst e
              rcases q3 with q3 | q3
              · exact Or.inr ⟨q3.1, by rw [← hlv G hG]; exact q3.2.2⟩
              · omega
            · exact Or.inl ⟨i, by omega, q3⟩
        · constructor
          · rintro (⟨q1, q2⟩ | q)
            · exact ⟨by omega, q2⟩
            · subst q; exact ⟨by omega, Or.inl hpj2⟩
          · rintro ⟨q1, q2⟩
            by_cases e : m = j
            · exact Or.inr e
            · exact Or.inl ⟨by omega, q2⟩
  exact main _ (fun _ _ _ _ _ _ _ _ _ _ _ _ _ _ _ _ _ _ _ _ _ _ _ h => h)
theorem c_Ju_weighElements (l : Launch) (D : va_G) (a : Nat → Nat) (cI cJ cZ : ClassId) (z : Nat) (HW : WQ l D a cI cJ cZ z) (ch : Nat → Int32) (ma : Nat → Int32) (br : Nat → Int64) (tl : Int32) (ki : Nat → Int32) (co : Nat → Int64) (pr : Nat → Int32) (pa : Nat → Int32) (tw : Nat → Int32) (nv : Int32) (sv : Int32) (ru : Nat → Int32) (le : Nat → Int32) (li : Nat → Int32) (bn : Nat → Int32) (ip : Nat → Int32) (aw : Nat → Int32) (ns : Int32) (pn : Nat → Int32) (pl : Nat → Int32) (po : Nat → Int32) (pf : Nat → Int32) (pt : Nat → Int32) (xs : Int32) (xv : Int32) (xd : Int32) (hpre : (∃ n0 m0 s0 v0 d0 : Nat, JP ki co pr pa pn po ru le li bn nv ns tl z xs xv xd n0 m0 s0 v0 d0 ∧ ki v0 = 4)) : Em (S := (Nat → Int32) × (Nat → Int32) × (Nat → Int64) × Int32) l y_Ju_weighElements b_Ju_weighElements 8 none (5 * z + 12) (200 * z + 150) [.ref (a 20), .int xs, .int xv, .int xd] D (tyA cI cJ cZ) (wJ a cI cJ ch ma br tl ++ wV a cI cJ ki co pr pa tw nv sv ++ wS a cI ru le li bn ip aw ns ++ wL a ++ wP a cI cZ pn pl po pf pt) (fun uu => ((uu.2.2.2 = 0 ∨ uu.2.2.2 = 1) ∧ (tl = 1 → uu.2.2.2 = 1) ∧ ∀ (G : Sp) (R : Nat → Nat → Prop) (lv : Nat → Nat), (∃ va mk, G = gC ki co pr pa tw pn pl po pf pt ru le li bn nv.toNatClampNeg va mk) → Ctx G R lv → Ef G R lv xs.toNatClampNeg xv.toNatClampNeg xd.toNatClampNeg (AskEl G xs.toNatClampNeg xv.toNatClampNeg) (BadEl G xs.toNatClampNeg xv.toNatClampNeg) (MrkEl G xs.toNatClampNeg xv.toNatClampNeg) True ch ma br tl uu.1 uu.2.1 uu.2.2.1 uu.2.2.2)) (fun uu => none) (fun uu => (wJ a cI cJ uu.1 uu.2.1 uu.2.2.1 uu.2.2.2 ++ wV a cI cJ ki co pr pa tw nv sv ++ wS a cI ru le li bn ip aw ns ++ wL a ++ wP a cI cZ pn pl po pf pt)) :=
  em_v (by decide) (Nat.le_of_ble_eq_true rfl) (fun p e s m below meth c ls Q A S hK hP hD hA hS hX hl hret => g_Ju_weighElements S (Nat.le_refl _) (Nat.le_refl _) ⟨Nat.le_refl _, Nat.le_refl _⟩ D a cI cJ cZ HW ch ma br tl ki co pr pa tw nv sv ru le li bn ip aw ns pn pl po pf pt xs xv xd hK hP hD hA hS hX hl (v_Ju_weighElements z ch ma br tl ki co pr pa tw nv sv ru le li bn ip aw ns pn pl po pf pt xs xv xd hpre) (fun ch' ma' br' tl' ki' co' pr' pa' tw' nv' sv' ru' le' li' bn' ip' aw' ns' pn' pl' po' pf' pt' ls1 pc H1 locs1 hd hv hP1 hD1 hS1 => by obtain ⟨hp, rfl, rfl, rfl, rfl, rfl, rfl, rfl, rfl, rfl, rfl, rfl, rfl, rfl, rfl, rfl, rfl, rfl, rfl, rfl⟩ := hv; exact hret (ch', ma', br', tl') ls1 pc H1 locs1 hd hp hP1 hD1 hS1))
theorem hd_Ju_weighElements : y_Ju_weighElements.cls ≠ "java/lang/invoke/MethodHandle" ∧ y_Ju_weighElements.cls ≠ "java/lang/invoke/VarHandle" ∧ (parseMethodDescriptor y_Ju_weighElements.desc).map (fun d => d.parameters.length) = some 3 := ⟨by decide, by decide, by decide +kernel⟩
