theorem WQ_all (l : Launch) (D : va_G) (a : Nat → Nat) (cI cJ cZ : ClassId) : ∀ z, WQ l D a cI cJ cZ z := by
  intro z
  induction z with
  | zero =>
    intro ch ma br tl ki co pr pa tw nv sv ru le li bn ip aw ns pn pl po pf pt xs xv xd hp
    obtain ⟨n0, m0, s0, v0, d0, hJ, h31⟩ := hp
    have := hJ.2.2.2.2.2.2.2.2.2.2.1
    omega
  | succ z ih =>
    intro ch ma br tl ki co pr pa tw nv sv ru le li bn ip aw ns pn pl po pf pt xs xv xd hp
    obtain ⟨n0, m0, s0, v0, d0, hJ, h31⟩ := hp
    have e1 : 5 * (z + 1) + 9 = 5 * z + 14 := by omega
    have e2 : 200 * (z + 1) + 60 = 200 * z + 260 := by omega
    rw [e1, e2]
    exact c_Ju_weigh l D a cI cJ cZ z ih ch ma br tl ki co pr pa tw nv sv ru le li bn ip aw ns pn pl po pf pt xs xv xd ⟨n0, m0, s0, v0, d0, hJ⟩
def Zst (ch ma : Nat → Int32) (br : Nat → Int64) (tl : Int32) : Prop := tl = 0 ∧ ∀ q, q < 960 → ch q = 0 ∧ ma q = 0 ∧ br q = 0
/-- what a judging leaves: b, whether it could be done -/
def Jdone (G : Sp) (R : Nat → Nat → Prop) (s v : Nat) (b : Bool) (ch ma : Nat → Int32) (br : Nat → Int64) : Prop :=
  (b = true ↔ ¬ Path G 31 s v) ∧ (b = true → (∀ x w, x < 24 → w < 40 → JZero ch ma br x w ∨ (R x w ∧ JGood G ch ma br x w)) ∧ ¬ ch (v * 24 + s) = 0)
def V_Ju_begin (ch : Nat → Int32) (ma : Nat → Int32) (br : Nat → Int64) (tl : Int32) (ki : Nat → Int32) (co : Nat → Int64) (pr : Nat → Int32) (pa : Nat → Int32) (tw : Nat → Int32) (nv : Int32) (sv : Int32) (ru : Nat → Int32) (le : Nat → Int32) (li : Nat → Int32) (bn : Nat → Int32) (ip : Nat → Int32) (aw : Nat → Int32) (ns : Int32) (pn : Nat → Int32) (pl : Nat → Int32) (po : Nat → Int32) (pf : Nat → Int32) (pt : Nat → Int32) (xs : Int32) (xv : Int32) (post : Int32 → (Nat → Int32) → (Nat → Int32) → (Nat → Int64) → Int32 → (Nat → Int32) → (Nat → Int64) → (Nat → Int32) → (Nat → Int32) → (Nat → Int32) → Int32 → Int32 → (Nat → Int32) → (Nat → Int32) → (Nat → Int32) → (Nat → Int32) → (Nat → Int32) → (Nat → Int32) → Int32 → (Nat → Int32) → (Nat → Int32) → (Nat → Int32) → (Nat → Int32) → (Nat → Int32) → Prop) : Prop :=
  ((∃ n k : Nat, n ≤ 40 ∧ k ≤ n ∧ nv = nI n ∧ sv = nI k ∧ (∀ j : Nat, j < 480 → vp_in (pa j) 40) ∧ PaOK pr pa ∧ TwOK ki co pr pa tw k) ∧ (∀ (f1 : Nat → Int32) (u2 : Int32), (∀ n : Nat, nv = nI n → n ≤ 40 → TwOK ki co pr pa f1 n ∧ u2 = nv) → ((∃ n0 m0 s0 v0 d0 : Nat, JP ki co pr pa pn po ru le li bn nv ns tl (30 - 1) xs xv 1 n0 m0 s0 v0 d0 ∧ 31 ≤ d0 + 30) ∧ (∀ (f3 : Nat → Int32) (f4 : Nat → Int32) (f5 : Nat → Int64) (u6 : Int32), (((u6 = 0 ∨ u6 = 1) ∧ (tl = 1 → u6 = 1) ∧ ∀ (G : Sp) (R : Nat → Nat → Prop) (lv : Nat → Nat), (∃ va mk, G = gC ki co pr pa f1 pn pl po pf pt ru le li bn nv.toNatClampNeg va mk) → Ctx G R lv → Wd G R lv xs.toNatClampNeg xv.toNatClampNeg (1 : Int32).toNatClampNeg ch ma br tl f3 f4 f5 u6)) → (∃ J7 : Int32 → Prop, ((¬ u6 = 0 → J7 0) ∧ (u6 = 0 → J7 1)) ∧ (∀ (x8 : Int32), J7 x8 → ((¬ x8 = 0 → post x8 f3 f4 f5 u6 ki co pr pa f1 nv u2 ru le li bn ip aw ns pn pl po pf pt) ∧ (x8 = 0 → post x8 (fillN 0 960 f3) (fillN 0 960 f4) (fillL 0 960 f5) 0 ki co pr pa f1 nv u2 ru le li bn ip aw ns pn pl po pf pt))))))))
set_option maxHeartbeats 4000000 in
set_option maxRecDepth 100000 in
theorem g_Ju_begin {p : Program} {l : Launch} {e : Env} {R : Room} {s : State} {m : MethodId} {args : Array Value} {below : List Frame} {meth : Method} {c : Code} {H : Heap} {locs : List Loc} {cells slots : Nat} {Q : State → Prop} {ls : Array Slot} {A : Nat → Prop} (S : CallFix p m c b_Ju_begin 4 s args W0 R_Ju) (hRf : 165 ≤ R.frames) (hRl : 6120 ≤ R.locals) (hRc : cells ≤ R.cells ∧ slots ≤ R.slots) (D : va_G) (a : Nat → Nat) (cI cJ cZ : ClassId) (ch : Nat → Int32) (ma : Nat → Int32) (br : Nat → Int64) (tl : Int32) (ki : Nat → Int32) (co : Nat → Int64) (pr : Nat → Int32) (pa : Nat → Int32) (tw : Nat → Int32) (nv : Int32) (sv : Int32) (ru : Nat → Int32) (le : Nat → Int32) (li : Nat → Int32) (bn : Nat → Int32) (ip : Nat → Int32) (aw : Nat → Int32) (ns : Int32) (pn : Nat → Int32) (pl : Nat → Int32) (po : Nat → Int32) (pf : Nat → Int32) (pt : Nat → Int32) (xs : Int32) (xv : Int32) (hK : va_K D vwCl (tyA cI cJ cZ) s) (hP : va_P D vwCl (wJ a cI cJ ch ma br tl ++ wV a cI cJ ki co pr pa tw nv sv ++ wS a cI ru le li bn ip aw ns ++ wL a ++ wP a cI cZ pn pl po pf pt) H) (hD : va_D A (wJ a cI cJ ch ma br tl ++ wV a cI cJ ki co pr pa tw nv sv ++ wS a cI ru le li bn ip aw ns ++ wL a ++ wP a cI cZ pn pl po pf pt)) (hA : ∀ q, s.heap.size ≤ q → A q) (hS : va_S A s.heap H locs) (hX : eX A s s.heap) (hl : lv_has ls 4 [(0, .ref (a 20)), (1, .int xs), (2, .int xv)]) {post : Int32 → (Nat → Int32) → (Nat → Int32) → (Nat → Int64) → Int32 → (Nat → Int32) → (Nat → Int64) → (Nat → Int32) → (Nat → Int32) → (Nat → Int32) → Int32 → Int32 → (Nat → Int32) → (Nat → Int32) → (Nat → Int32) → (Nat → Int32) → (Nat → Int32) → (Nat → Int32) → Int32 → (Nat → Int32) → (Nat → Int32) → (Nat → Int32) → (Nat → Int32) → (Nat → Int32) → Prop} (vc : V_Ju_begin ch ma br tl ki co pr pa tw nv sv ru le li bn ip aw ns pn pl po pf pt xs xv post)
    (hret : ∀ (v : Int32) (ch : Nat → Int32) (ma : Nat → Int32) (br : Nat → Int64) (tl : Int32) (ki : Nat → Int32) (co : Nat → Int64) (pr : Nat → Int32) (pa : Nat → Int32) (tw : Nat → Int32) (nv : Int32) (sv : Int32) (ru : Nat → Int32) (le : Nat → Int32) (li : Nat → Int32) (bn : Nat → Int32) (ip : Nat → Int32) (aw : Nat → Int32) (ns : Int32) (pn : Nat → Int32) (pl : Nat → Int32) (po : Nat → Int32) (pf : Nat → Int32) (pt : Nat → Int32) (ls : Array Slot) (pc : Nat) (H : Heap) (locs : List Loc), decode b_Ju_begin pc = .ok (.ireturn, 1) → post v ch ma br tl ki co pr pa tw nv sv ru le li bn ip aw ns pn pl po pf pt → va_P D vwCl (wJ a cI cJ ch ma br tl ++ wV a cI cJ ki co pr pa tw nv sv ++ wS a cI ru le li bn ip aw ns ++ wL a ++ wP a cI cZ pn pl po pf pt) H → va_D A (wJ a cI cJ ch ma br tl ++ wV a cI cJ ki co pr pa tw nv sv ++ wS a cI ru le li bn ip aw ns ++ wL a ++ wP a cI cZ pn pl po pf pt) → va_S A s.heap H locs → W p l e R s m args below meth c H locs cells slots Q (F0 m pc ls [.int v])) : W p l e R s m args below meth c H locs cells slots Q (F0 m 0 ls []) := by
  have hx := S.1
  have hb := S.2.1
  have hown := S.2.2.2.1
  have hts := S.2.2.2.2
  unfold V_Ju_begin at vc
  refine lv_aload_n hx hb d_Ju_begin_0 rfl (lv_at hl 0 rfl) ?_
  refine va_get (D := D) (ci := 0) (v := .ref (a 0)) (C := R_Ju) (T := F_Ju) (N := 7) hx hb hts in_Ju hown hK hP 0 rfl rfl 0 (by decide) (hts _ fl_Ju_11) (fun _ h => h) rfl d_Ju_begin_1 ?_
  obtain ⟨hpre, vc⟩ := vc
  refine wc_V (As := []) (rest := []) (wr := (wJ a cI cJ ch ma br tl ++ wS a cI ru le li bn ip aw ns ++ wL a ++ wP a cI cZ pn pl po pf pt)) S (c_Va_settle l D a cI cJ cZ ki co pr pa tw nv sv hpre) k_Va_settle i_Va_settle e_Va_settle o_Va ml_Ju_49 hd_Va_settle (Nat.le_trans (by omega) hRf) (Nat.le_trans (by omega) hRl) hRc (va_recv hK hP (q0 := 4) (ci := 4) rfl rfl) hK hP hD hS hA [4, 5, 6, 7, 8, 9] [0, 1, 2, 3, 10, 11, 12, 13, 14, 15, 16, 17, 18, 19, 20, 21, 22, 23] rfl rfl rfl (by decide) (by decide) (by decide) hl.1 rfl (Nat.le_of_ble_eq_true rfl) d_Ju_begin_4 (fun u H locs hu hP hD hS => ?_)
  obtain ⟨f1, u2⟩ := u
  have vc := vc f1 u2 hu
  clear hu
  have hP : va_P D vwCl (wJ a cI cJ ch ma br tl ++ wV a cI cJ ki co pr pa f1 nv u2 ++ wS a cI ru le li bn ip aw ns ++ wL a ++ wP a cI cZ pn pl po pf pt) H := hP.sub [0, 1, 2, 3, 18, 19, 20, 21, 22, 23, 4, 5, 6, 7, 8, 9, 10, 11, 12, 13, 14, 15, 16, 17] rfl
  have hD : va_D A (wJ a cI cJ ch ma br tl ++ wV a cI cJ ki co pr pa f1 nv u2 ++ wS a cI ru le li bn ip aw ns ++ wL a ++ wP a cI cZ pn pl po pf pt) := hD.sub [0, 1, 2, 3, 18, 19, 20, 21, 22, 23, 4, 5, 6, 7, 8, 9, 10, 11, 12, 13, 14, 15, 16, 17] (by decide) rfl
  refine lv_aload_n hx hb d_Ju_begin_7 rfl (lv_at hl 0 rfl) ?_
  refine lv_iload_n hx hb d_Ju_begin_8 rfl (lv_at hl 1 rfl) ?_
  refine lv_iload_n hx hb d_Ju_begin_9 rfl (lv_at hl 2 rfl) ?_
  refine lv_iconst (v := 1) hx hb d_Ju_begin_10 (by decide) ?_
  obtain ⟨hpre, vc⟩ := vc
  refine ec_V (As := [.int xs, .int xv, .int 1]) (rest := []) (wr := ([] : va_W)) S (WQ_all l D a cI cJ cZ 30 ch ma br tl ki co pr pa f1 nv u2 ru le li bn ip aw ns pn pl po pf pt xs xv 1 hpre) k_Ju_weigh i_Ju_weigh e_Ju_weigh o_Ju ml_Ju_52 hd_Ju_weigh (Nat.le_trans (by omega) hRf) (Nat.le_trans (by omega) hRl) hRc (va_recv hK hP (q0 := 0) (ci := 0) rfl rfl) hK hP hD hS hA hX [0, 1, 2, 3, 4, 5, 6, 7, 8, 9, 10, 11, 12, 13, 14, 15, 16, 17, 18, 19, 20, 21, 22, 23] [] rfl rfl rfl (by decide) (by decide) (by decide) hl.1 rfl (Nat.le_of_ble_eq_true rfl) d_Ju_begin_11 (fun u H locs hu hP hD hS => ?_)
  obtain ⟨f3, f4, f5, u6⟩ := u
  have vc := vc f3 f4 f5 u6 hu
  clear hu
  have hP : va_P D vwCl (wJ a cI cJ f3 f4 f5 u6 ++ wV a cI cJ ki co pr pa f1 nv u2 ++ wS a cI ru le li bn ip aw ns ++ wL a ++ wP a cI cZ pn pl po pf pt) H := hP
  have hD : va_D A (wJ a cI cJ f3 f4 f5 u6 ++ wV a cI cJ ki co pr pa f1 nv u2 ++ wS a cI ru le li bn ip aw ns ++ wL a ++ wP a cI cZ pn pl po pf pt) := hD
  refine lv_aload_n hx hb d_Ju_begin_14 rfl (lv_at hl 0 rfl) ?_
  refine va_get (D := D) (ci := 0) (v := .int u6) (C := R_Ju) (T := F_Ju) (N := 7) hx hb hts in_Ju hown hK hP 0 rfl rfl 6 (by decide) (hts _ fl_Ju_45) (fun _ h => h) rfl d_Ju_begin_15 ?_
  obtain ⟨J7, vc, vc2⟩ := vc
  have jJ7 : ∀ (x8 : Int32) (ls : Array Slot) (H : Heap) (locs : List Loc), J7 x8 → lv_has ls 4 [(0, .ref (a 20)), (1, .int xs), (2, .int xv)] → va_P D vwCl (wJ a cI cJ f3 f4 f5 u6 ++ wV a cI cJ ki co pr pa f1 nv u2 ++ wS a cI ru le li bn ip aw ns ++ wL a ++ wP a cI cZ pn pl po pf pt) H → va_D A (wJ a cI cJ f3 f4 f5 u6 ++ wV a cI cJ ki co pr pa f1 nv u2 ++ wS a cI ru le li bn ip aw ns ++ wL a ++ wP a cI cZ pn pl po pf pt) → va_S A s.heap H locs → W p l e R s m args below meth c H locs cells slots Q (F0 m 26 ls [.int x8]) := by
    intro x8 ls H locs vc hl hP hD hS
    have vc := vc2 x8 vc
    refine lv_istore_n hx hb d_Ju_begin_26 rfl hl (by decide) (lv' := [(3, .int x8), (0, .ref (a 20)), (1, .int xs), (2, .int xv)]) rfl (fun ls hl => ?_)
    refine lv_iload_n hx hb d_Ju_begin_27 rfl (lv_at hl 0 rfl) ?_
    refine lv_if_ne (tgt := 35) hx hb d_Ju_begin_28 (by decide) (fun h => ?_) (fun h => ?_)
    · have vc := vc.1 h
      refine lv_iload_n hx hb d_Ju_begin_35 rfl (lv_at hl 0 rfl) ?_
      exact hret _ _ _ _ _ _ _ _ _ _ _ _ _ _ _ _ _ _ _ _ _ _ _ _ ls _ H locs d_Ju_begin_36 vc hP hD hS
    · have vc := vc.2 h
      refine lv_aload_n hx hb d_Ju_begin_31 rfl (lv_at hl 1 rfl) ?_
      refine wc_V (As := []) (rest := []) (wr := (wV a cI cJ ki co pr pa f1 nv u2 ++ wS a cI ru le li bn ip aw ns ++ wL a ++ wP a cI cZ pn pl po pf pt)) S (c_Ju_forget l D a cI cJ cZ f3 f4 f5 u6) k_Ju_forget i_Ju_forget e_Ju_forget o_Ju ml_Ju_56 hd_Ju_forget (Nat.le_trans (by omega) hRf) (Nat.le_trans (by omega) hRl) hRc (va_recv hK hP (q0 := 0) (ci := 0) rfl rfl) hK hP hD hS hA [0, 1, 2, 3] [4, 5, 6, 7, 8, 9, 10, 11, 12, 13, 14, 15, 16, 17, 18, 19, 20, 21, 22, 23] rfl rfl rfl (by decide) (by decide) (by decide) hl.1 rfl (Nat.le_of_ble_eq_true rfl) d_Ju_begin_32 (fun _ H locs _ hP hD hS => ?_)
      have hP : va_P D vwCl (wJ a cI cJ (fillN 0 960 f3) (fillN 0 960 f4) (fillL 0 960 f5) 0 ++ wV a cI cJ ki co pr pa f1 nv u2 ++ wS a cI ru le li bn ip aw ns ++ wL a ++ wP a cI cZ pn pl po pf pt) H := hP.sub [20, 21, 22, 23, 0, 1, 2, 3, 4, 5, 6, 7, 8, 9, 10, 11, 12, 13, 14, 15, 16, 17, 18, 19] rfl
      have hD : va_D A (wJ a cI cJ (fillN 0 960 f3) (fillN 0 960 f4) (fillL 0 960 f5) 0 ++ wV a cI cJ ki co pr pa f1 nv u2 ++ wS a cI ru le li bn ip aw ns ++ wL a ++ wP a cI cZ pn pl po pf pt) := hD.sub [20, 21, 22, 23, 0, 1, 2, 3, 4, 5, 6, 7, 8, 9, 10, 11, 12, 13, 14, 15, 16, 17, 18, 19] (by decide) rfl
      refine lv_iload_n hx hb d_Ju_begin_35 rfl (lv_at hl 0 rfl) ?_
      exact hret _ _ _ _ _ _ _ _ _ _ _ _ _ _ _ _ _ _ _ _ _ _ _ _ ls _ H locs d_Ju_begin_36 vc hP hD hS
  clear vc2
  refine lv_if_ne (tgt := 25) hx hb d_Ju_begin_18 (by decide) (fun h => ?_) (fun h => ?_)
  · have vc := vc.1 h
    refine lv_iconst (v := 0) hx hb d_Ju_begin_25 (by decide) ?_
    exact jJ7 0 ls H locs vc (lv_sub hl [0, 1, 2] rfl) hP hD hS
  · have vc := vc.2 h
    refine lv_iconst (v := 1) hx hb d_Ju_begin_21 (by decide) ?_
    refine lv_goto (tgt := 26) hx hb d_Ju_begin_22 (by decide) ?_
    exact jJ7 1 ls H locs vc (lv_sub hl [0, 1, 2] rfl) hP hD hS
set_option maxHeartbeats 4000000 in
theorem v_Ju_begin (ch : Nat → Int32) (ma : Nat → Int32) (br : Nat → Int64) (tl : Int32) (ki : Nat → Int32) (co : Nat → Int64) (pr : Nat → Int32) (pa : Nat → Int32) (tw : Nat → Int32) (nv : Int32) (sv : Int32) (ru : Nat → Int32) (le : Nat → Int32) (li : Nat → Int32) (bn : Nat → Int32) (ip : Nat → Int32) (aw : Nat → Int32) (ns : Int32) (pn : Nat → Int32) (pl : Nat → Int32) (po : Nat → Int32) (pf : Nat → Int32) (pt : Nat → Int32) (xs : Int32) (xv : Int32) (hpre : (∃ n0 m0 s0 v0 k0 : Nat, JP ki co pr pa pn po ru le li bn nv ns tl 29 xs xv 1 n0 m0 s0 v0 1 ∧ Zst ch ma br tl ∧ k0 ≤ n0 ∧ sv = nI k0 ∧ TwOK ki co pr pa tw k0)) : V_Ju_begin ch ma br tl ki co pr pa tw nv sv ru le li bn ip aw ns pn pl po pf pt xs xv (fun v ch' ma' br' tl' ki' co' pr' pa' tw' nv' sv' ru' le' li' bn' ip' aw' ns' pn' pl' po' pf' pt' => ∃ rr : Bool, v = bI rr ∧ (((∀ n : Nat, nv = nI n → n ≤ 40 → TwOK ki co pr pa tw' n ∧ sv' = nv) ∧ tl' = 0 ∧ (rr = false → Zst ch' ma' br' tl') ∧ ∀ (G : Sp) (R : Nat → Nat → Prop) (lv : Nat → Nat), (∃ va mk, G = gC ki co pr pa tw' pn pl po pf pt ru le li bn nv.toNatClampNeg va mk) → Ctx G R lv → R xs.toNatClampNeg xv.toNatClampNeg → Jdone G R xs.toNatClampNeg xv.toNatClampNeg rr ch' ma' br')) ∧ ki' = ki ∧ co' = co ∧ pr' = pr ∧ pa' = pa ∧ nv' = nv ∧ ru' = ru ∧ le' = le ∧ li' = li ∧ bn' = bn ∧ ip' = ip ∧ aw' = aw ∧ ns' = ns ∧ pn' = pn ∧ pl' = pl ∧ po' = po ∧ pf' = pf ∧ pt' = pt) := by
  have main : ∀ post : Int32 → (Nat → Int32) → (Nat → Int32) → (Nat → Int64) → Int32 → (Nat → Int32) → (Nat → Int64) → (Nat → Int32) → (Nat → Int32) → (Nat → Int32) → Int32 → Int32 → (Nat → Int32) → (Nat → Int32) → (Nat → Int32) → (Nat → Int32) → (Nat → Int32) → (Nat → Int32) → Int32 → (Nat → Int32) → (Nat → Int32) → (Nat → Int32) → (Nat → Int32) → (Nat → Int32) → Prop, (∀ v ch' ma' br' tl' ki' co' pr' pa' tw' nv' sv' ru' le' li' bn' ip' aw' ns' pn' pl' po' pf' pt', (fun v ch' ma' br' tl' ki' co' pr' pa' tw' nv' sv' ru' le' li' bn' ip' aw' ns' pn' pl' po' pf' pt' => ∃ rr : Bool, v = bI rr ∧ (((∀ n : Nat, nv = nI n → n ≤ 40 → TwOK ki co pr pa tw' n ∧ sv' = nv) ∧ tl' = 0 ∧ (rr = false → Zst ch' ma' br' tl') ∧ ∀ (G : Sp) (R : Nat → Nat → Prop) (lv : Nat → Nat), (∃ va mk, G = gC ki co pr pa tw' pn pl po pf pt ru le li bn nv.toNatClampNeg va mk) → Ctx G R lv → R xs.toNatClampNeg xv.toNatClampNeg → Jdone G R xs.toNatClampNeg xv.toNatClampNeg rr ch' ma' br')) ∧ ki' = ki ∧ co' = co ∧ pr' = pr ∧ pa' = pa ∧ nv' = nv ∧ ru' = ru ∧ le' = le ∧ li' = li ∧ bn' = bn ∧ ip' = ip ∧ aw' = aw ∧ ns' = ns ∧ pn' = pn ∧ pl' = pl ∧ po' = po ∧ pf' = pf ∧ pt' = pt) v ch' ma' br' tl' ki' co' pr' pa' tw' nv' sv' ru' le' li' bn' ip' aw' ns' pn' pl' po' pf' pt' → post v ch' ma' br' tl' ki' co' pr' pa' tw' nv' sv' ru' le' li' bn' ip' aw' ns' pn' pl' po' pf' pt') → V_Ju_begin ch ma br tl ki co pr pa tw nv sv ru le li bn ip aw ns pn pl po pf pt xs xv post := by
    intro post hpost
    unfold V_Ju_begin
    obtain ⟨n0, m0, s0, v0, k0, hJ, hZ, hk0, hsv, hTw⟩ := hpre
    have hJ0 := hJ
    obtain ⟨hs24, hv40, hm, hn⟩ := JP_s hJ
    obtain ⟨hnv, hns, hS, htl, rfl, rfl, _, hsm, hvn, _, _, _⟩ := hJ
    have cs : (nI s0).toNatClampNeg = s0 := nI_clamp (by omega)
    have cv : (nI v0).toNatClampNeg = v0 := nI_clamp (by omega)
    have cn : nv.toNatClampNeg = n0 := by rw [hnv]; exact nI_clamp (by omega)
    have c1 : (1 : Int32).toNatClampNeg = 1 := rfl
    simp only [cs, cv, cn, c1] at hpost ⊢
    have hPa : PaOK pr pa := fun v hv i hi hb => by
      obtain ⟨p, hp, e⟩ := (hS.1.2.2 v hv).2.2.1 i hi hb
      rw [e, nI_clamp (by omega)]; exact hp
    refine ⟨⟨n0, k0, hn, hk0, hnv, hsv, hS.1.2.1, hPa, hTw⟩, fun f1 u2 hset => ⟨⟨n0, m0, s0, v0, 1, hJ0, by decide⟩, fun f3 f4 f5 u6 hw => jb_f ?_⟩⟩
    have hd : ∀ (G : Sp) (R : Nat → Nat → Prop) (lv : Nat → Nat), (∃ va mk, G = gC ki co pr pa f1 pn pl po pf pt ru le li bn n0 va mk) → Ctx G R lv → R s0 v0 → (u6 = 1 ∧ Path G 31 s0 v0) ∨ (u6 = 0 ∧ Jdone G R s0 v0 true f3 f4 f5) := fun G R lv hG hC hR => by
      have hz : ∀ x w, x < 24 → w < 40 → JZero ch ma br x w := fun x w hx hw => hZ.2 _ (by omega)
      rcases (hw.2.2 G R lv hG hC).2 hZ.1 hR (fun x w hx hw _ => Or.inl (hz x w hx hw)) (hz s0 v0 hs24 hv40) (by decide) with q | ⟨q1, q2, q3, q4⟩
      · exact Or.inl q
      · refine Or.inr ⟨q1, ⟨⟨fun _ => ?_, fun _ => rfl⟩, fun _ => ⟨fun x w hx hw => ?_, ?_⟩⟩⟩
        · obtain ⟨⟨c, _, _, e3, e4⟩, _⟩ := q2
          intro hp; have := (e4 31 (by decide)).mpr hp; omega
        · by_cases e : x = s0 ∧ w = v0
          · rw [e.1, e.2]; exact Or.inr ⟨hR, q2⟩
          · by_cases e2 : mu lv x w < mu lv s0 v0
            · exact q3 x w hx hw e2
            · obtain ⟨k1, k2, k3⟩ := q4 x w hx hw e (Or.inl (by omega))
              obtain ⟨z1, z2, z3⟩ := hz x w hx hw
              exact Or.inl ⟨by rw [k1]; exact z1, by rw [k2]; exact z2, by rw [k3]; exact z3⟩
        · obtain ⟨⟨c, e1, e2, e3, _⟩, _⟩ := q2
          rw [e1]; exact nI_nz e2 (by omega)
    have zf : ∀ q, q < 960 → fillN 0 960 f3 q = 0 ∧ fillN 0 960 f4 q = 0 ∧ fillL 0 960 f5 q = 0 := fun q hq => by simp [fillN, fillL, hq]
    refine ⟨fun h => (hpost _ _ _ _ _ _ _ _ _ _ _ _ _ _ _ _ _ _ _ _ _ _ _ _ ⟨true, ?_, ⟨hset, ?_, fun q => absurd q (by decide), fun G R lv hG hC hR => ?_⟩, rfl, rfl, rfl, rfl, rfl, rfl, rfl, rfl, rfl, rfl, rfl, rfl, rfl, rfl, rfl, rfl, rfl⟩), fun h => (hpost _ _ _ _ _ _ _ _ _ _ _ _ _ _ _ _ _ _ _ _ _ _ _ _ ⟨false, ?_, ⟨hset, rfl, fun _ => ⟨rfl, zf⟩, fun G R lv hG hC hR => ?_⟩, rfl, rfl, rfl, rfl, rfl, rfl, rfl, rfl, rfl, rfl, rfl, rfl, rfl, rfl, rfl, rfl, rfl⟩)⟩
    · rw [bI_ne.mp h]
    · exact of_decide_eq_true (bI_ne.mp h)
    · rcases hd G R lv hG hC hR with ⟨q, _⟩ | ⟨_, q⟩
      · rw [of_decide_eq_true (bI_ne.mp h)] at q; exact absurd q (by decide)
      · exact q
    · rw [bI0.mp h]
    · rcases hd G R lv hG hC hR with ⟨_, q⟩ | ⟨q, _⟩
      · exact ⟨⟨fun w => absurd w (by decide), fun w => absurd q w⟩, fun w => absurd w (by decide)⟩
      · exact absurd q (of_decide_eq_false (bI0.mp h))
  exact main _ (fun _ _ _ _ _ _ _ _ _ _ _ _ _ _ _ _ _ _ _ _ _ _ _ _ h => h)
theorem c_Ju_begin (l : Launch) (D : va_G) (a : Nat → Nat) (cI cJ cZ : ClassId) (ch : Nat → Int32) (ma : Nat → Int32) (br : Nat → Int64) (tl : Int32) (ki : Nat → Int32) (co : Nat → Int64) (pr : Nat → Int32) (pa : Nat → Int32) (tw : Nat → Int32) (nv : Int32) (sv : Int32) (ru : Nat → Int32) (le : Nat → Int32) (li : Nat → Int32) (bn : Nat → Int32) (ip : Nat → Int32) (aw : Nat → Int32) (ns : Int32) (pn : Nat → Int32) (pl : Nat → Int32) (po : Nat → Int32) (pf : Nat → Int32) (pt : Nat → Int32) (xs : Int32) (xv : Int32) (hpre : (∃ n0 m0 s0 v0 k0 : Nat, JP ki co pr pa pn po ru le li bn nv ns tl 29 xs xv 1 n0 m0 s0 v0 1 ∧ Zst ch ma br tl ∧ k0 ≤ n0 ∧ sv = nI k0 ∧ TwOK ki co pr pa tw k0)) : Em (S := Bool × (Nat → Int32) × (Nat → Int32) × (Nat → Int64) × Int32 × (Nat → Int32) × Int32) l y_Ju_begin b_Ju_begin 4 (some .boolean) (165) (6120) [.ref (a 20), .int xs, .int xv] D (tyA cI cJ cZ) (wJ a cI cJ ch ma br tl ++ wV a cI cJ ki co pr pa tw nv sv ++ wS a cI ru le li bn ip aw ns ++ wL a ++ wP a cI cZ pn pl po pf pt) (fun uu => ((∀ n : Nat, nv = nI n → n ≤ 40 → TwOK ki co pr pa uu.2.2.2.2.2.1 n ∧ uu.2.2.2.2.2.2 = nv) ∧ uu.2.2.2.2.1 = 0 ∧ (uu.1 = false → Zst uu.2.1 uu.2.2.1 uu.2.2.2.1 uu.2.2.2.2.1) ∧ ∀ (G : Sp) (R : Nat → Nat → Prop) (lv : Nat → Nat), (∃ va mk, G = gC ki co pr pa uu.2.2.2.2.2.1 pn pl po pf pt ru le li bn nv.toNatClampNeg va mk) → Ctx G R lv → R xs.toNatClampNeg xv.toNatClampNeg → Jdone G R xs.toNatClampNeg xv.toNatClampNeg uu.1 uu.2.1 uu.2.2.1 uu.2.2.2.1)) (fun uu => some (.int (bI uu.1))) (fun uu => (wJ a cI cJ uu.2.1 uu.2.2.1 uu.2.2.2.1 uu.2.2.2.2.1 ++ wV a cI cJ ki co pr pa uu.2.2.2.2.2.1 nv uu.2.2.2.2.2.2 ++ wS a cI ru le li bn ip aw ns ++ wL a ++ wP a cI cZ pn pl po pf pt)) :=
  em_i (by decide) (fun _ _ => bI_nar _) (Nat.le_of_ble_eq_true rfl) (fun p e s m below meth c ls Q A S hK hP hD hA hS hX hl hret => g_Ju_begin S (Nat.le_refl _) (Nat.le_refl _) ⟨Nat.le_refl _, Nat.le_refl _⟩ D a cI cJ cZ ch ma br tl ki co pr pa tw nv sv ru le li bn ip aw ns pn pl po pf pt xs xv hK hP hD hA hS hX hl (v_Ju_begin ch ma br tl ki co pr pa tw nv sv ru le li bn ip aw ns pn pl po pf pt xs xv hpre) (fun v ch' ma' br' tl' ki' co' pr' pa' tw' nv' sv' ru' le' li' bn' ip' aw' ns' pn' pl' po' pf' pt' ls1 pc H1 locs1 hd hv hP1 hD1 hS1 => by obtain ⟨rr, rfl, hp, rfl, rfl, rfl, rfl, rfl, rfl, rfl, rfl, rfl, rfl, rfl, rfl, rfl, rfl, rfl, rfl, rfl⟩ := hv; exact hret (rr, ch', ma', br', tl', tw', sv') _ ls1 pc H1 locs1 hd hp rfl hP1 hD1 hS1))
theorem hd_Ju_begin : y_Ju_begin.cls ≠ "java/lang/invoke/MethodHandle" ∧ y_Ju_begin.cls ≠ "java/lang/invoke/VarHandle" ∧ (parseMethodDescriptor y_Ju_begin.desc).map (fun d => d.parameters.length) = some 2 := ⟨by decide, by decide, by decide +kernel⟩
def V_Ju_isValid (ch : Nat → Int32) (ma : Nat → Int32) (br : Nat → Int64) (tl : Int32) (x : Int32) (y : Int32) (post : Int32 → Prop) : Prop :=
  (vp_in (y * 24 + x) 960 ∧ ((¬ (lg_cmp (br (y * 24 + x : Int32).toNatClampNeg) 0) = 0 → post 0) ∧ ((lg_cmp (br (y * 24 + x : Int32).toNatClampNeg) 0) = 0 → post 1)))
set_option maxHeartbeats 4000000 in
set_option maxRecDepth 100000 in
theorem g_Ju_isValid {p : Program} {l : Launch} {e : Env} {R : Room} {s : State} {m : MethodId} {args : Array Value} {below : List Frame} {meth : Method} {c : Code} {H : Heap} {locs : List Loc} {cells slots : Nat} {Q : State → Prop} {ls : Array Slot} (S : CallFix p m c b_Ju_isValid 3 s args W0 R_Ju) (hRf : 1 ≤ R.frames) (hRl : 21 ≤ R.locals) (hRc : cells ≤ R.cells ∧ slots ≤ R.slots) (D : va_G) (a : Nat → Nat) (cI cJ cZ : ClassId) (ch : Nat → Int32) (ma : Nat → Int32) (br : Nat → Int64) (tl : Int32) (x : Int32) (y : Int32) (hK : va_K D vwCl (tyA cI cJ cZ) s) (hP : va_P D vwCl (wJ a cI cJ ch ma br tl) H) (hl : lv_has ls 3 [(0, .ref (a 20)), (1, .int x), (2, .int y)]) {post : Int32 → Prop} (vc : V_Ju_isValid ch ma br tl x y post)
    (hret : ∀ (v : Int32) (ls : Array Slot) (pc : Nat), decode b_Ju_isValid pc = .ok (.ireturn, 1) → post v → W p l e R s m args below meth c H locs cells slots Q (F0 m pc ls [.int v])) : W p l e R s m args below meth c H locs cells slots Q (F0 m 0 ls []) := by
  have hx := S.1
  have hb := S.2.1
  have hown := S.2.2.2.1
  have hts := S.2.2.2.2
  unfold V_Ju_isValid at vc
  refine lv_aload_n hx hb d_Ju_isValid_0 rfl (lv_at hl 0 rfl) ?_
  refine va_get (D := D) (ci := 0) (v := .ref (a 23)) (C := R_Ju) (T := F_Ju) (N := 7) hx hb hts in_Ju hown hK hP 0 rfl rfl 5 (by decide) (hts _ fl_Ju_32) (fun _ h => h) rfl d_Ju_isValid_1 ?_
  refine lv_iload_n hx hb d_Ju_isValid_4 rfl (lv_at hl 1 rfl) ?_
  refine lv_iload_n hx hb d_Ju_isValid_5 rfl (lv_at hl 2 rfl) ?_
  refine pc_S (As := [.int x, .int y]) (rest := [.ref (a 23)]) S (c_Ju_pairOf l x y) wT_blind k_Ju_pairOf s_Ju_pairOf o_Ju ml_Ju_59 hd_Ju_pairOf (Nat.le_trans (by decide) hRf) (Nat.le_trans (by decide) hRl) hRc (fun _ _ _ => trivial) hl.1 rfl (Nat.le_of_ble_eq_true rfl) d_Ju_isValid_6 ?_
  obtain ⟨vcb, vc⟩ := vc
  refine va_lald hx hb hK hP 3 1 rfl rfl vcb d_Ju_isValid_9 ?_
  refine lv_lconst (v := 0) hx hb d_Ju_isValid_10 (by decide) ?_
  refine W.lcmp hx hb d_Ju_isValid_11 ?_
  refine lv_if_ne (tgt := 19) hx hb d_Ju_isValid_12 (by decide) (fun h => ?_) (fun h => ?_)
  · have vc := vc.1 h
    refine lv_iconst (v := 0) hx hb d_Ju_isValid_19 (by decide) ?_
    exact hret _ ls _ d_Ju_isValid_20 vc
  · have vc := vc.2 h
    refine lv_iconst (v := 1) hx hb d_Ju_isValid_15 (by decide) ?_
    refine lv_goto (tgt := 20) hx hb d_Ju_isValid_16 (by decide) ?_
    exact hret _ ls _ d_Ju_isValid_20 vc
theorem h_Ju_isValid (l : Launch) (D : va_G) (a : Nat → Nat) (cI cJ cZ : ClassId) (ch : Nat → Int32) (ma : Nat → Int32) (br : Nat → Int64) (tl : Int32) (x : Int32) (y : Int32) (r : Int32) (hr : narrow .boolean (.int r) = .int r) (vc : V_Ju_isValid ch ma br tl x y (fun v => v = r)) : Pm l y_Ju_isValid b_Ju_isValid 3 (some .boolean) 1 21 [.ref (a 20), .int x, .int y] (wB D (tyA cI cJ cZ) (wJ a cI cJ ch ma br tl)) (.int r) :=
  pm_i (by decide) hr (Nat.le_of_ble_eq_true rfl) (fun p e s m below meth c ls Q S hB hl hret => g_Ju_isValid S (Nat.le_refl _) (Nat.le_refl _) ⟨Nat.le_refl _, Nat.le_refl _⟩ D a cI cJ cZ ch ma br tl x y hB.2 hB.1 hl vc hret)
theorem c_Ju_isValid (l : Launch) (D : va_G) (a : Nat → Nat) (cI cJ cZ : ClassId) (ch : Nat → Int32) (ma : Nat → Int32) (br : Nat → Int64) (tl : Int32) (x : Int32) (y : Int32) (hpre : vp_in (y * 24 + x) 960) : Pm l y_Ju_isValid b_Ju_isValid 3 (some .boolean) 1 21 [.ref (a 20), .int x, .int y] (wB D (tyA cI cJ cZ) (wJ a cI cJ ch ma br tl)) (.int (bI (decide (br (y * 24 + x : Int32).toNatClampNeg = 0)))) := h_Ju_isValid l D a cI cJ cZ ch ma br tl x y _ (bI_nar _) (by
  unfold V_Ju_isValid
  rw [lg_eq0]
  exact ⟨hpre, fun h => by rw [decide_eq_false h]; rfl, fun h => by rw [decide_eq_true h]; rfl⟩)
theorem hd_Ju_isValid : y_Ju_isValid.cls ≠ "java/lang/invoke/MethodHandle" ∧ y_Ju_isValid.cls ≠ "java/lang/invoke/VarHandle" ∧ (parseMethodDescriptor y_Ju_isValid.desc).map (fun d => d.parameters.length) = some 2 := ⟨by decide, by decide, by decide +kernel⟩
