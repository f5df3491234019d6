/-! ===== pieces, one after another ===== -/
theorem Ef.congrZ {G : Sp} {R : Nat → Nat → Prop} {lv : Nat → Nat} {s v dp : Nat} {A A' : Nat → Nat → Prop} {B M B' M' : Nat → Prop} {Z Z' : Prop} {ch ma ch' ma' : Nat → Int32} {br br' : Nat → Int64} {tl tl' : Int32} (h : Ef G R lv s v dp A B M Z ch ma br tl ch' ma' br' tl') (hc : Z → (∀ x w, A x w ↔ A' x w) ∧ (∀ b, B b ↔ B' b) ∧ (∀ i, M i ↔ M' i) ∧ Z') : Ef G R lv s v dp A' B' M' Z' ch ma br tl ch' ma' br' tl' := by
  refine ⟨h.1, fun a1 a2 A0 B0 M0 a3 => ?_⟩
  rcases h.2 a1 a2 A0 B0 M0 a3 with q | ⟨q1, q2, q3, q4⟩
  · exact Or.inl q
  · obtain ⟨c1, c2, c3, c4⟩ := hc q4
    exact Or.inr ⟨q1, q2.congr (fun x w => or_congr_right (c1 x w)) (fun b => or_congr_right (c2 b)) (fun i => or_congr_right (c3 i)), q3, c4⟩
def EG (K : Sp → Prop) (s v d : Nat) (A : Sp → Nat → Nat → Prop) (B M : Sp → Nat → Prop) (Z : Sp → Prop) (ch ma : Nat → Int32) (br : Nat → Int64) (tl : Int32) (ch' ma' : Nat → Int32) (br' : Nat → Int64) (tl' : Int32) : Prop :=
  (tl' = 0 ∨ tl' = 1) ∧ (tl = 1 → tl' = 1) ∧ ∀ (G : Sp) (R : Nat → Nat → Prop) (lv : Nat → Nat), K G → Ctx G R lv → Ef G R lv s v d (A G) (B G) (M G) (Z G) ch ma br tl ch' ma' br' tl'
theorem EG.start {K : Sp → Prop} {s v d : Nat} {A : Sp → Nat → Nat → Prop} {B M : Sp → Nat → Prop} {Z : Sp → Prop} {ch ma : Nat → Int32} {br : Nat → Int64} {tl : Int32} (h : tl = 0 ∨ tl = 1) (hc : ∀ G, K G → (∀ x w, ¬ A G x w) ∧ (∀ b, ¬ B G b) ∧ (∀ i, ¬ M G i) ∧ Z G) : EG K s v d A B M Z ch ma br tl ch ma br tl :=
  ⟨h, id, fun G R lv hK _ => (Ef.refl trivial).congrZ (fun _ => by
    obtain ⟨c1, c2, c3, c4⟩ := hc G hK
    exact ⟨fun x w => ⟨False.elim, c1 x w⟩, fun b => ⟨False.elim, c2 b⟩, fun i => ⟨False.elim, c3 i⟩, c4⟩)⟩
theorem EG.next {K : Sp → Prop} {s v d : Nat} {A A' A2 : Sp → Nat → Nat → Prop} {B M B' M' B2 M2 : Sp → Nat → Prop} {Z Z' Z2 : Sp → Prop} {ch ma ch1 ma1 ch2 ma2 : Nat → Int32} {br br1 br2 : Nat → Int64} {tl tl1 tl2 : Int32} (h : EG K s v d A B M Z ch ma br tl ch1 ma1 br1 tl1) (h0 : tl2 = 0 ∨ tl2 = 1) (h1 : tl1 = 1 → tl2 = 1)
    (h' : ∀ (G : Sp) (R : Nat → Nat → Prop) (lv : Nat → Nat), K G → Ctx G R lv → Z G → Ef G R lv s v d (A' G) (B' G) (M' G) (Z' G) ch1 ma1 br1 tl1 ch2 ma2 br2 tl2) (hc : ∀ G, K G → Z G → Z' G → (∀ x w, (A G x w ∨ A' G x w) ↔ A2 G x w) ∧ (∀ b, (B G b ∨ B' G b) ↔ B2 G b) ∧ (∀ i, (M G i ∨ M' G i) ↔ M2 G i) ∧ Z2 G) : EG K s v d A2 B2 M2 Z2 ch ma br tl ch2 ma2 br2 tl2 :=
  ⟨h0, fun q => h1 (h.2.1 q), fun G R lv hK hC => (Ef.trans (h.2.2 G R lv hK hC) h1 (fun z => h' G R lv hK hC z)).congrZ (fun z => hc G hK z.1 z.2)⟩
theorem EG.same {K : Sp → Prop} {s v d : Nat} {A A2 : Sp → Nat → Nat → Prop} {B M B2 M2 : Sp → Nat → Prop} {Z Z2 : Sp → Prop} {ch ma ch1 ma1 : Nat → Int32} {br br1 : Nat → Int64} {tl tl1 : Int32} (h : EG K s v d A B M Z ch ma br tl ch1 ma1 br1 tl1) (hc : ∀ G, K G → Z G → (∀ x w, A G x w ↔ A2 G x w) ∧ (∀ b, B G b ↔ B2 G b) ∧ (∀ i, M G i ↔ M2 G i) ∧ Z2 G) : EG K s v d A2 B2 M2 Z2 ch ma br tl ch1 ma1 br1 tl1 :=
  ⟨h.1, h.2.1, fun G R lv hK hC => (h.2.2 G R lv hK hC).congrZ (fun z => hc G hK z)⟩
theorem EG.fail {K : Sp → Prop} {s v d k : Nat} {A A2 : Sp → Nat → Nat → Prop} {B M B2 M2 : Sp → Nat → Prop} {Z Z2 : Sp → Prop} {ch ma ch1 ma1 : Nat → Int32} {br br1 : Nat → Int64} {tl tl1 : Int32} (h : EG K s v d A B M Z ch ma br tl ch1 ma1 br1 tl1) (hs : s < 24) (hk : k < 64) (hc : ∀ G, K G → Z G → (∀ x w, A G x w ↔ A2 G x w) ∧ (∀ b, (B G b ∨ b = k) ↔ B2 G b) ∧ (∀ i, M G i ↔ M2 G i) ∧ Z2 G) : EG K s v d A2 B2 M2 Z2 ch ma br tl ch1 ma1 (vp_updL br1 (v * 24 + s) (br1 (v * 24 + s) ||| (1 <<< ((nI k).toInt64 &&& 63)))) tl1 :=
  h.next h.1 id (fun G R lv _ _ _ => Ef.fail hs hk) (fun G hK z _ => by
    obtain ⟨c1, c2, c3, c4⟩ := hc G hK z
    exact ⟨fun x w => ⟨fun q => (c1 x w).mp (q.elim id False.elim), fun q => Or.inl ((c1 x w).mpr q)⟩, c2, fun i => ⟨fun q => (c3 i).mp (q.elim id False.elim), fun q => Or.inl ((c3 i).mpr q)⟩, c4⟩)
theorem AskL_Ask {G : Sp} {s v k x w : Nat} (hk : k < 3) (h : AskL G s v k x w) : Ask G s v x w := by
  have : k = 0 ∨ k = 1 ∨ k = 2 := by omega
  rcases this with rfl | rfl | rfl
  · exact Or.inl (Or.inr (Or.inr (Or.inr (Or.inr (Or.inr (Or.inl h))))))
  · exact Or.inl (Or.inr (Or.inr (Or.inr (Or.inr (Or.inr (Or.inr (Or.inl h)))))))
  · exact Or.inl (Or.inr (Or.inr (Or.inr (Or.inr (Or.inr (Or.inr (Or.inr h)))))))
theorem cN_s {p : Nat → Prop} {k : Nat} : (p k → cN p (k + 1) = cN p k + 1) ∧ (¬ p k → cN p (k + 1) = cN p k) := by
  refine ⟨fun h => ?_, fun h => ?_⟩
  · simp only [cN]; rw [if_pos h]
  · simp only [cN]; rw [if_neg h]; rfl
def V_Ju_weighList (z : Nat) (ch : Nat → Int32) (ma : Nat → Int32) (br : Nat → Int64) (tl : Int32) (ki : Nat → Int32) (co : Nat → Int64) (pr : Nat → Int32) (pa : Nat → Int32) (tw : Nat → Int32) (nv : Int32) (sv : Int32) (ru : Nat → Int32) (le : Nat → Int32) (li : Nat → Int32) (bn : Nat → Int32) (ip : Nat → Int32) (aw : Nat → Int32) (ns : Int32) (pn : Nat → Int32) (pl : Nat → Int32) (po : Nat → Int32) (pf : Nat → Int32) (pt : Nat → Int32) (xs : Int32) (xv : Int32) (xk : Int32) (xd : Int32) (post : (Nat → Int32) → (Nat → Int32) → (Nat → Int64) → Int32 → (Nat → Int32) → (Nat → Int64) → (Nat → Int32) → (Nat → Int32) → (Nat → Int32) → Int32 → Int32 → (Nat → Int32) → (Nat → Int32) → (Nat → Int32) → (Nat → Int32) → (Nat → Int32) → (Nat → Int32) → Int32 → (Nat → Int32) → (Nat → Int32) → (Nat → Int32) → (Nat → Int32) → (Nat → Int32) → Prop) : Prop :=
  (vp_in (xs * 4 + xk - 29) 96 ∧ (∃ (I13 : Int32 → Int32 → (Nat → Int32) → (Nat → Int32) → (Nat → Int64) → Int32 → Prop) (mI13 : Int32 → Int32 → (Nat → Int32) → (Nat → Int32) → (Nat → Int64) → Int32 → Nat), I13 0 0 ch ma br tl ∧ (∀ (x7 : Int32) (x8 : Int32) (f9 : Nat → Int32) (f10 : Nat → Int32) (f11 : Nat → Int64) (u12 : Int32), I13 x7 x8 f9 f10 f11 u12 → (((le (xs * 4 + xk - 29 : Int32).toNatClampNeg) ≤ x8 → (((le (xs * 4 + xk - 29 : Int32).toNatClampNeg) ≤ 0 → post f9 f10 f11 u12 ki co pr pa tw nv sv ru le li bn ip aw ns pn pl po pf pt) ∧ (¬ (le (xs * 4 + xk - 29 : Int32).toNatClampNeg) ≤ 0 → ((¬ (bI (if xk = 29 then decide (x7 = (le (xs * 4 + xk - 29 : Int32).toNatClampNeg)) else if xk = 30 then decide (¬ x7 ≤ 0) else decide (x7 = 1))) = 0 → post f9 f10 f11 u12 ki co pr pa tw nv sv ru le li bn ip aw ns pn pl po pf pt) ∧ ((bI (if xk = 29 then decide (x7 = (le (xs * 4 + xk - 29 : Int32).toNatClampNeg)) else if xk = 30 then decide (¬ x7 ≤ 0) else decide (x7 = 1))) = 0 → (vp_in (xv * 24 + xs) 960 ∧ post f9 f10 (vp_updL f11 (xv * 24 + xs : Int32).toNatClampNeg ((f11 (xv * 24 + xs : Int32).toNatClampNeg) ||| (1 <<< (xk.toInt64 &&& 63)))) u12 ki co pr pa tw nv sv ru le li bn ip aw ns pn pl po pf pt)))))) ∧ (¬ (le (xs * 4 + xk - 29 : Int32).toNatClampNeg) ≤ x8 → (vp_in ((xs * 4 + xk - 29) * 3 + x8) 288 ∧ ((∃ n0 m0 s0 v0 d0 : Nat, JP ki co pr pa pn po ru le li bn nv ns u12 z xs xv xd n0 m0 s0 v0 d0 ∧ ∃ x0 : Nat, x0 < m0 ∧ li ((xs * 4 + xk - 29) * 3 + x8 : Int32).toNatClampNeg = nI x0) ∧ (∀ (t14 : Bool) (f15 : Nat → Int32) (f16 : Nat → Int32) (f17 : Nat → Int64) (u18 : Int32), (((u18 = 0 ∨ u18 = 1) ∧ (u12 = 1 → u18 = 1) ∧ ∀ (G : Sp) (R : Nat → Nat → Prop) (lv : Nat → Nat), (∃ va mk, G = gC ki co pr pa tw pn pl po pf pt ru le li bn nv.toNatClampNeg va mk) → Ctx G R lv → Ask G xs.toNatClampNeg xv.toNatClampNeg (li ((xs * 4 + xk - 29) * 3 + x8 : Int32).toNatClampNeg : Int32).toNatClampNeg xv.toNatClampNeg → Ef G R lv xs.toNatClampNeg xv.toNatClampNeg xd.toNatClampNeg (fun x' w' => x' = (li ((xs * 4 + xk - 29) * 3 + x8 : Int32).toNatClampNeg : Int32).toNatClampNeg ∧ w' = xv.toNatClampNeg) (fun _ => False) (fun i => gMk G (li ((xs * 4 + xk - 29) * 3 + x8 : Int32).toNatClampNeg : Int32).toNatClampNeg xv.toNatClampNeg i) (t14 = true ↔ gVa G (li ((xs * 4 + xk - 29) * 3 + x8 : Int32).toNatClampNeg : Int32).toNatClampNeg xv.toNatClampNeg) f9 f10 f11 u12 f15 f16 f17 u18)) → (((bI t14) = 0 → (I13 x7 (x8 + 1) f15 f16 f17 u18 ∧ mI13 x7 (x8 + 1) f15 f16 f17 u18 < mI13 x7 x8 f9 f10 f11 u12)) ∧ (¬ (bI t14) = 0 → (I13 (x7 + 1) (x8 + 1) f15 f16 f17 u18 ∧ mI13 (x7 + 1) (x8 + 1) f15 f16 f17 u18 < mI13 x7 x8 f9 f10 f11 u12)))))))))))
set_option maxHeartbeats 4000000 in
set_option maxRecDepth 100000 in
theorem g_Ju_weighList {p : Program} {l : Launch} {e : Env} {R : Room} {s : State} {m : MethodId} {args : Array Value} {below : List Frame} {meth : Method} {c : Code} {H : Heap} {locs : List Loc} {cells slots : Nat} {Q : State → Prop} {ls : Array Slot} {A : Nat → Prop} {z : Nat} (S : CallFix p m c b_Ju_weighList 8 s args W0 R_Ju) (hRf : 5 * z + 12 ≤ R.frames) (hRl : 200 * z + 150 ≤ R.locals) (hRc : cells ≤ R.cells ∧ slots ≤ R.slots) (D : va_G) (a : Nat → Nat) (cI cJ cZ : ClassId) (HW : WQ l D a cI cJ cZ z) (ch : Nat → Int32) (ma : Nat → Int32) (br : Nat → Int64) (tl : Int32) (ki : Nat → Int32) (co : Nat → Int64) (pr : Nat → Int32) (pa : Nat → Int32) (tw : Nat → Int32) (nv : Int32) (sv : Int32) (ru : Nat → Int32) (le : Nat → Int32) (li : Nat → Int32) (bn : Nat → Int32) (ip : Nat → Int32) (aw : Nat → Int32) (ns : Int32) (pn : Nat → Int32) (pl : Nat → Int32) (po : Nat → Int32) (pf : Nat → Int32) (pt : Nat → Int32) (xs : Int32) (xv : Int32) (xk : Int32) (xd : Int32) (hK : va_K D vwCl (tyA cI cJ cZ) s) (hP : va_P D vwCl (wJ a cI cJ ch ma br tl ++ wV a cI cJ ki co pr pa tw nv sv ++ wS a cI ru le li bn ip aw ns ++ wL a ++ wP a cI cZ pn pl po pf pt) H) (hD : va_D A (wJ a cI cJ ch ma br tl ++ wV a cI cJ ki co pr pa tw nv sv ++ wS a cI ru le li bn ip aw ns ++ wL a ++ wP a cI cZ pn pl po pf pt)) (hA : ∀ q, s.heap.size ≤ q → A q) (hS : va_S A s.heap H locs) (hX : eX A s s.heap) (hl : lv_has ls 8 [(0, .ref (a 20)), (1, .int xs), (2, .int xv), (3, .int xk), (4, .int xd)]) {post : (Nat → Int32) → (Nat → Int32) → (Nat → Int64) → Int32 → (Nat → Int32) → (Nat → Int64) → (Nat → Int32) → (Nat → Int32) → (Nat → Int32) → Int32 → Int32 → (Nat → Int32) → (Nat → Int32) → (Nat → Int32) → (Nat → Int32) → (Nat → Int32) → (Nat → Int32) → Int32 → (Nat → Int32) → (Nat → Int32) → (Nat → Int32) → (Nat → Int32) → (Nat → Int32) → Prop} (vc : V_Ju_weighList z ch ma br tl ki co pr pa tw nv sv ru le li bn ip aw ns pn pl po pf pt xs xv xk xd post)
    (hret : ∀ (ch : Nat → Int32) (ma : Nat → Int32) (br : Nat → Int64) (tl : Int32) (ki : Nat → Int32) (co : Nat → Int64) (pr : Nat → Int32) (pa : Nat → Int32) (tw : Nat → Int32) (nv : Int32) (sv : Int32) (ru : Nat → Int32) (le : Nat → Int32) (li : Nat → Int32) (bn : Nat → Int32) (ip : Nat → Int32) (aw : Nat → Int32) (ns : Int32) (pn : Nat → Int32) (pl : Nat → Int32) (po : Nat → Int32) (pf : Nat → Int32) (pt : Nat → Int32) (ls : Array Slot) (pc : Nat) (H : Heap) (locs : List Loc), decode b_Ju_weighList pc = .ok (.return_, 1) → post ch ma br tl ki co pr pa tw nv sv ru le li bn ip aw ns pn pl po pf pt → va_P D vwCl (wJ a cI cJ ch ma br tl ++ wV a cI cJ ki co pr pa tw nv sv ++ wS a cI ru le li bn ip aw ns ++ wL a ++ wP a cI cZ pn pl po pf pt) H → va_D A (wJ a cI cJ ch ma br tl ++ wV a cI cJ ki co pr pa tw nv sv ++ wS a cI ru le li bn ip aw ns ++ wL a ++ wP a cI cZ pn pl po pf pt) → va_S A s.heap H locs → W p l e R s m args below meth c H locs cells slots Q (F0 m pc ls [])) : W p l e R s m args below meth c H locs cells slots Q (F0 m 0 ls []) := by
  have hx := S.1
  have hb := S.2.1
  have hown := S.2.2.2.1
  have hts := S.2.2.2.2
  unfold V_Ju_weighList at vc
  refine lv_aload_n hx hb d_Ju_weighList_0 rfl (lv_at hl 0 rfl) ?_
  refine va_get (D := D) (ci := 0) (v := .ref (a 12)) (C := R_Ju) (T := F_Ju) (N := 7) hx hb hts in_Ju hown hK hP 0 rfl rfl 1 (by decide) (hts _ fl_Ju_17) (fun _ h => h) rfl d_Ju_weighList_1 ?_
  refine lv_iload_n hx hb d_Ju_weighList_4 rfl (lv_at hl 1 rfl) ?_
  refine lv_iload_n hx hb d_Ju_weighList_5 rfl (lv_at hl 3 rfl) ?_
  obtain ⟨hpre, vc⟩ := vc
  refine pc_V (As := [.int xs, .int xk]) (rest := []) S (c_Sc_lengthOf l D a cI cJ cZ ru le li bn ip aw ns xs xk hpre) wB_blind k_Sc_lengthOf i_Sc_lengthOf e_Sc_lengthOf o_Sc ml_Ju_126 hd_Sc_lengthOf (Nat.le_trans (by omega) hRf) (Nat.le_trans (by omega) hRl) hRc (va_recv hK hP (q0 := 10) (ci := 3) rfl rfl) (wB_at (hP.sub (ws' := (wS a cI ru le li bn ip aw ns)) [10, 11, 12, 13, 14, 15, 16] rfl) hK) hl.1 rfl (Nat.le_of_ble_eq_true rfl) d_Ju_weighList_6 ?_
  refine lv_istore hx hb d_Ju_weighList_9 hl (by decide) (lv' := [(5, .int (le (xs * 4 + xk - 29 : Int32).toNatClampNeg)), (0, .ref (a 20)), (1, .int xs), (2, .int xv), (3, .int xk), (4, .int xd)]) rfl (fun ls hl => ?_)
  refine lv_iconst (v := 0) hx hb d_Ju_weighList_11 (by decide) ?_
  refine lv_istore hx hb d_Ju_weighList_12 hl (by decide) (lv' := [(6, .int 0), (5, .int (le (xs * 4 + xk - 29 : Int32).toNatClampNeg)), (0, .ref (a 20)), (1, .int xs), (2, .int xv), (3, .int xk), (4, .int xd)]) rfl (fun ls hl => ?_)
  refine lv_iconst (v := 0) hx hb d_Ju_weighList_14 (by decide) ?_
  refine lv_istore hx hb d_Ju_weighList_15 hl (by decide) (lv' := [(7, .int 0), (6, .int 0), (5, .int (le (xs * 4 + xk - 29 : Int32).toNatClampNeg)), (0, .ref (a 20)), (1, .int xs), (2, .int xv), (3, .int xk), (4, .int xd)]) rfl (fun ls hl => ?_)
  obtain ⟨I13, mI13, vc0, vcs⟩ := vc
  have lI13 : ∀ n : Nat, ∀ (x7 : Int32) (x8 : Int32) (f9 : Nat → Int32) (f10 : Nat → Int32) (f11 : Nat → Int64) (u12 : Int32) (ls : Array Slot) (H : Heap) (locs : List Loc), I13 x7 x8 f9 f10 f11 u12 → mI13 x7 x8 f9 f10 f11 u12 < n → lv_has ls 8 [(0, .ref (a 20)), (1, .int xs), (2, .int xv), (3, .int xk), (4, .int xd), (5, .int (le (xs * 4 + xk - 29 : Int32).toNatClampNeg)), (6, .int x7), (7, .int x8)] → va_P D vwCl (wJ a cI cJ f9 f10 f11 u12 ++ wV a cI cJ ki co pr pa tw nv sv ++ wS a cI ru le li bn ip aw ns ++ wL a ++ wP a cI cZ pn pl po pf pt) H → va_D A (wJ a cI cJ f9 f10 f11 u12 ++ wV a cI cJ ki co pr pa tw nv sv ++ wS a cI ru le li bn ip aw ns ++ wL a ++ wP a cI cZ pn pl po pf pt) → va_S A s.heap H locs → W p l e R s m args below meth c H locs cells slots Q (F0 m 17 ls []) := by
    intro n
    induction n with
    | zero => intro x7 x8 f9 f10 f11 u12 ls H locs _ h; exact absurd h (Nat.not_lt_zero _)
    | succ n ihI13 =>
      intro x7 x8 f9 f10 f11 u12 ls H locs vc hmI13 hl hP hD hS
      have vc := vcs x7 x8 f9 f10 f11 u12 vc
      refine lv_iload hx hb d_Ju_weighList_17 (lv_at hl 7 rfl) ?_
      refine lv_iload hx hb d_Ju_weighList_19 (lv_at hl 5 rfl) ?_
      refine lv_icmp_ge (tgt := 55) hx hb d_Ju_weighList_21 (by decide) (fun h => ?_) (fun h => ?_)
      · have vc := vc.1 h
        refine lv_iload hx hb d_Ju_weighList_55 (lv_at hl 5 rfl) ?_
        refine lv_if_le (tgt := 78) hx hb d_Ju_weighList_57 (by decide) (fun h => ?_) (fun h => ?_)
        · have vc := vc.1 h
          exact hret _ _ _ _ _ _ _ _ _ _ _ _ _ _ _ _ _ _ _ _ _ _ _ ls _ H locs d_Ju_weighList_78 vc hP hD hS
        · have vc := vc.2 h
          refine lv_iload_n hx hb d_Ju_weighList_60 rfl (lv_at hl 3 rfl) ?_
          refine lv_iload hx hb d_Ju_weighList_61 (lv_at hl 6 rfl) ?_
          refine lv_iload hx hb d_Ju_weighList_63 (lv_at hl 5 rfl) ?_
          refine pc_S (As := [.int xk, .int x7, .int (le (xs * 4 + xk - 29 : Int32).toNatClampNeg)]) (rest := []) S (c_Ju_isEnough l xk x7 (le (xs * 4 + xk - 29 : Int32).toNatClampNeg)) wT_blind k_Ju_isEnough s_Ju_isEnough o_Ju ml_Ju_133 hd_Ju_isEnough (Nat.le_trans (by omega) hRf) (Nat.le_trans (by omega) hRl) hRc (fun _ _ _ => trivial) hl.1 rfl (Nat.le_of_ble_eq_true rfl) d_Ju_weighList_65 ?_
          refine lv_if_ne (tgt := 78) hx hb d_Ju_weighList_68 (by decide) (fun h => ?_) (fun h => ?_)
          · have vc := vc.1 h
            exact hret _ _ _ _ _ _ _ _ _ _ _ _ _ _ _ _ _ _ _ _ _ _ _ ls _ H locs d_Ju_weighList_78 vc hP hD hS
          · have vc := vc.2 h
            refine lv_aload_n hx hb d_Ju_weighList_71 rfl (lv_at hl 0 rfl) ?_
            refine lv_iload_n hx hb d_Ju_weighList_72 rfl (lv_at hl 1 rfl) ?_
            refine lv_iload_n hx hb d_Ju_weighList_73 rfl (lv_at hl 2 rfl) ?_
            refine lv_iload_n hx hb d_Ju_weighList_74 rfl (lv_at hl 3 rfl) ?_
            obtain ⟨hpre, vc⟩ := vc
            refine wc_V (As := [.int xs, .int xv, .int xk]) (rest := []) (wr := (wV a cI cJ ki co pr pa tw nv sv ++ wS a cI ru le li bn ip aw ns ++ wL a ++ wP a cI cZ pn pl po pf pt)) S (c_Ju_fail l D a cI cJ cZ f9 f10 f11 u12 xs xv xk hpre) k_Ju_fail i_Ju_fail e_Ju_fail o_Ju ml_Ju_87 hd_Ju_fail (Nat.le_trans (by omega) hRf) (Nat.le_trans (by omega) hRl) hRc (va_recv hK hP (q0 := 0) (ci := 0) rfl rfl) hK hP hD hS hA [0, 1, 2, 3] [4, 5, 6, 7, 8, 9, 10, 11, 12, 13, 14, 15, 16, 17, 18, 19, 20, 21, 22, 23] rfl rfl rfl (by decide) (by decide) (by decide) hl.1 rfl (Nat.le_of_ble_eq_true rfl) d_Ju_weighList_75 (fun _ H locs _ hP hD hS => ?_)
            have hP : va_P D vwCl (wJ a cI cJ f9 f10 (vp_updL f11 (xv * 24 + xs : Int32).toNatClampNeg ((f11 (xv * 24 + xs : Int32).toNatClampNeg) ||| (1 <<< (xk.toInt64 &&& 63)))) u12 ++ wV a cI cJ ki co pr pa tw nv sv ++ wS a cI ru le li bn ip aw ns ++ wL a ++ wP a cI cZ pn pl po pf pt) H := hP.sub [20, 21, 22, 23, 0, 1, 2, 3, 4, 5, 6, 7, 8, 9, 10, 11, 12, 13, 14, 15, 16, 17, 18, 19] rfl
            have hD : va_D A (wJ a cI cJ f9 f10 (vp_updL f11 (xv * 24 + xs : Int32).toNatClampNeg ((f11 (xv * 24 + xs : Int32).toNatClampNeg) ||| (1 <<< (xk.toInt64 &&& 63)))) u12 ++ wV a cI cJ ki co pr pa tw nv sv ++ wS a cI ru le li bn ip aw ns ++ wL a ++ wP a cI cZ pn pl po pf pt) := hD.sub [20, 21, 22, 23, 0, 1, 2, 3, 4, 5, 6, 7, 8, 9, 10, 11, 12, 13, 14, 15, 16, 17, 18, 19] (by decide) rfl
            exact hret _ _ _ _ _ _ _ _ _ _ _ _ _ _ _ _ _ _ _ _ _ _ _ ls _ H locs d_Ju_weighList_78 vc hP hD hS
      · have vc := vc.2 h
        refine lv_aload_n hx hb d_Ju_weighList_24 rfl (lv_at hl 0 rfl) ?_
        refine lv_iload_n hx hb d_Ju_weighList_25 rfl (lv_at hl 1 rfl) ?_
        refine lv_iload_n hx hb d_Ju_weighList_26 rfl (lv_at hl 2 rfl) ?_
        refine lv_aload_n hx hb d_Ju_weighList_27 rfl (lv_at hl 0 rfl) ?_
        refine va_get (D := D) (ci := 0) (v := .ref (a 12)) (C := R_Ju) (T := F_Ju) (N := 7) hx hb hts in_Ju hown hK hP 0 rfl rfl 1 (by decide) (hts _ fl_Ju_17) (fun _ h => h) rfl d_Ju_weighList_28 ?_
        refine lv_iload_n hx hb d_Ju_weighList_31 rfl (lv_at hl 1 rfl) ?_
        refine lv_iload_n hx hb d_Ju_weighList_32 rfl (lv_at hl 3 rfl) ?_
        refine lv_iload hx hb d_Ju_weighList_33 (lv_at hl 7 rfl) ?_
        obtain ⟨hpre, vc⟩ := vc
        refine pc_V (As := [.int xs, .int xk, .int x8]) (rest := [.int xv, .int xs, .ref (a 20)]) S (c_Sc_listedAt l D a cI cJ cZ ru le li bn ip aw ns xs xk x8 hpre) wB_blind k_Sc_listedAt i_Sc_listedAt e_Sc_listedAt o_Sc ml_Ju_129 hd_Sc_listedAt (Nat.le_trans (by omega) hRf) (Nat.le_trans (by omega) hRl) hRc (va_recv hK hP (q0 := 10) (ci := 3) rfl rfl) (wB_at (hP.sub (ws' := (wS a cI ru le li bn ip aw ns)) [10, 11, 12, 13, 14, 15, 16] rfl) hK) hl.1 rfl (Nat.le_of_ble_eq_true rfl) d_Ju_weighList_35 ?_
        refine lv_iload hx hb d_Ju_weighList_38 (lv_at hl 4 rfl) ?_
        obtain ⟨hpre, vc⟩ := vc
        refine ec_V (As := [.int xs, .int xv, .int (li ((xs * 4 + xk - 29) * 3 + x8 : Int32).toNatClampNeg), .int xd]) (rest := []) (wr := ([] : va_W)) S (c_Ju_adopt l D a cI cJ cZ z HW f9 f10 f11 u12 ki co pr pa tw nv sv ru le li bn ip aw ns pn pl po pf pt xs xv (li ((xs * 4 + xk - 29) * 3 + x8 : Int32).toNatClampNeg) xd hpre) k_Ju_adopt i_Ju_adopt e_Ju_adopt o_Ju ml_Ju_116 hd_Ju_adopt (Nat.le_trans (by omega) hRf) (Nat.le_trans (by omega) hRl) hRc (va_recv hK hP (q0 := 0) (ci := 0) rfl rfl) hK hP hD hS hA hX [0, 1, 2, 3, 4, 5, 6, 7, 8, 9, 10, 11, 12, 13, 14, 15, 16, 17, 18, 19, 20, 21, 22, 23] [] rfl rfl rfl (by decide) (by decide) (by decide) hl.1 rfl (Nat.le_of_ble_eq_true rfl) d_Ju_weighList_40 (fun u H locs hu hP hD hS => ?_)
        obtain ⟨t14, f15, f16, f17, u18⟩ := u
        have vc := vc t14 f15 f16 f17 u18 hu
        clear hu
        have hP : va_P D vwCl (wJ a cI cJ f15 f16 f17 u18 ++ wV a cI cJ ki co pr pa tw nv sv ++ wS a cI ru le li bn ip aw ns ++ wL a ++ wP a cI cZ pn pl po pf pt) H := hP
        have hD : va_D A (wJ a cI cJ f15 f16 f17 u18 ++ wV a cI cJ ki co pr pa tw nv sv ++ wS a cI ru le li bn ip aw ns ++ wL a ++ wP a cI cZ pn pl po pf pt) := hD
        refine lv_if_eq (tgt := 49) hx hb d_Ju_weighList_43 (by decide) (fun h => ?_) (fun h => ?_)
        · have vc := vc.1 h
          refine lv_iinc (k := 7) (v := x8 + 1) hx hb d_Ju_weighList_49 hl rfl rfl (by decide) (lv' := [(7, .int (x8 + 1)), (0, .ref (a 20)), (1, .int xs), (2, .int xv), (3, .int xk), (4, .int xd), (5, .int (le (xs * 4 + xk - 29 : Int32).toNatClampNeg)), (6, .int x7)]) rfl (fun ls hl => ?_)
          refine lv_goto (tgt := 17) hx hb d_Ju_weighList_52 (by decide) ?_
          exact ihI13 x7 (x8 + 1) f15 f16 f17 u18 ls H locs vc.1 (Nat.lt_of_lt_of_le vc.2 (Nat.le_of_lt_succ hmI13)) (lv_sub hl [1, 2, 3, 4, 5, 6, 7, 0] rfl) hP hD hS
        · have vc := vc.2 h
          refine lv_iinc (k := 6) (v := x7 + 1) hx hb d_Ju_weighList_46 hl rfl rfl (by decide) (lv' := [(6, .int (x7 + 1)), (0, .ref (a 20)), (1, .int xs), (2, .int xv), (3, .int xk), (4, .int xd), (5, .int (le (xs * 4 + xk - 29 : Int32).toNatClampNeg)), (7, .int x8)]) rfl (fun ls hl => ?_)
          refine lv_iinc (k := 7) (v := x8 + 1) hx hb d_Ju_weighList_49 hl rfl rfl (by decide) (lv' := [(7, .int (x8 + 1)), (6, .int (x7 + 1)), (0, .ref (a 20)), (1, .int xs), (2, .int xv), (3, .int xk), (4, .int xd), (5, .int (le (xs * 4 + xk - 29 : Int32).toNatClampNeg))]) rfl (fun ls hl => ?_)
          refine lv_goto (tgt := 17) hx hb d_Ju_weighList_52 (by decide) ?_
          exact ihI13 (x7 + 1) (x8 + 1) f15 f16 f17 u18 ls H locs vc.1 (Nat.lt_of_lt_of_le vc.2 (Nat.le_of_lt_succ hmI13)) (lv_sub hl [2, 3, 4, 5, 6, 7, 1, 0] rfl) hP hD hS
  exact lI13 _ 0 0 ch ma br tl ls H locs vc0 (Nat.lt_succ_self _) (lv_sub hl [3, 4, 5, 6, 7, 2, 1, 0] rfl) hP hD hS
set_option maxHeartbeats 4000000 in
theorem v_Ju_weighList (z : Nat) (ch : Nat → Int32) (ma : Nat → Int32) (br : Nat → Int64) (tl : Int32) (ki : Nat → Int32) (co : Nat → Int64) (pr : Nat → Int32) (pa : Nat → Int32) (tw : Nat → Int32) (nv : Int32) (sv : Int32) (ru : Nat → Int32) (le : Nat → Int32) (li : Nat → Int32) (bn : Nat → Int32) (ip : Nat → Int32) (aw : Nat → Int32) (ns : Int32) (pn : Nat → Int32) (pl : Nat → Int32) (po : Nat → Int32) (pf : Nat → Int32) (pt : Nat → Int32) (xs : Int32) (xv : Int32) (xk : Int32) (xd : Int32) (hpre : (∃ n0 m0 s0 v0 d0 : Nat, JP ki co pr pa pn po ru le li bn nv ns tl z xs xv xd n0 m0 s0 v0 d0 ∧ ∃ k0 : Nat, k0 < 3 ∧ xk = nI (29 + k0))) : V_Ju_weighList z ch ma br tl ki co pr pa tw nv sv ru le li bn ip aw ns pn pl po pf pt xs xv xk xd (fun ch' ma' br' tl' ki' co' pr' pa' tw' nv' sv' ru' le' li' bn' ip' aw' ns' pn' pl' po' pf' pt' => (((tl' = 0 ∨ tl' = 1) ∧ (tl = 1 → tl' = 1) ∧ ∀ (G : Sp) (R : Nat → Nat → Prop) (lv : Nat → Nat), (∃ va mk, G = gC ki co pr pa tw pn pl po pf pt ru le li bn nv.toNatClampNeg va mk) → Ctx G R lv → Ef G R lv xs.toNatClampNeg xv.toNatClampNeg xd.toNatClampNeg (AskL G xs.toNatClampNeg xv.toNatClampNeg (xk.toNatClampNeg - 29)) (BadL G xs.toNatClampNeg xv.toNatClampNeg (xk.toNatClampNeg - 29)) (MrkL G xs.toNatClampNeg xv.toNatClampNeg (xk.toNatClampNeg - 29)) True ch ma br tl ch' ma' br' tl')) ∧ ki' = ki ∧ co' = co ∧ pr' = pr ∧ pa' = pa ∧ tw' = tw ∧ nv' = nv ∧ sv' = sv ∧ ru' = ru ∧ le' = le ∧ li' = li ∧ bn' = bn ∧ ip' = ip ∧ aw' = aw ∧ ns' = ns ∧ pn' = pn ∧ pl' = pl ∧ po' = po ∧ pf' = pf ∧ pt' = pt) := by
  have main : ∀ post : (Nat → Int32) → (Nat → Int32) → (Nat → Int64) → Int32 → (Nat → Int32) → (Nat → Int64) → (Nat → Int32) → (Nat → Int32) → (Nat → Int32) → Int32 → Int32 → (Nat → Int32) → (Nat → Int32) → (Nat → Int32) → (Nat → Int32) → (Nat → Int32) → (Nat → Int32) → Int32 → (Nat → Int32) → (Nat → Int32) → (Nat → Int32) → (Nat → Int32) → (Nat → Int32) → Prop, (∀ ch' ma' br' tl' ki' co' pr' pa' tw' nv' sv' ru' le' li' bn' ip' aw' ns' pn' pl' po' pf' pt', (fun ch' ma' br' tl' ki' co' pr' pa' tw' nv' sv' ru' le' li' bn' ip' aw' ns' pn' pl' po' pf' pt' => (((tl' = 0 ∨ tl' = 1) ∧ (tl = 1 → tl' = 1) ∧ ∀ (G : Sp) (R : Nat → Nat → Prop) (lv : Nat → Nat), (∃ va mk, G = gC ki co pr pa tw pn pl po pf pt ru le li bn nv.toNatClampNeg va mk) → Ctx G R lv → Ef G R lv xs.toNatClampNeg xv.toNatClampNeg xd.toNatClampNeg (AskL G xs.toNatClampNeg xv.toNatClampNeg (xk.toNatClampNeg - 29)) (BadL G xs.toNatClampNeg xv.toNatClampNeg (xk.toNatClampNeg - 29)) (MrkL G xs.toNatClampNeg xv.toNatClampNeg (xk.toNatClampNeg - 29)) True ch ma br tl ch' ma' br' tl')) ∧ ki' = ki ∧ co' = co ∧ pr' = pr ∧ pa' = pa ∧ tw' = tw ∧ nv' = nv ∧ sv' = sv ∧ ru' = ru ∧ le' = le ∧ li' = li ∧ bn' = bn ∧ ip' = ip ∧ aw' = aw ∧ ns' = ns ∧ pn' = pn ∧ pl' = pl ∧ po' = po ∧ pf' = pf ∧ pt' = pt) ch' ma' br' tl' ki' co' pr' pa' tw' nv' sv' ru' le' li' bn' ip' aw' ns' pn' pl' po' pf' pt' → post ch' ma' br' tl' ki' co' pr' pa' tw' nv' sv' ru' le' li' bn' ip' aw' ns' pn' pl' po' pf' pt') → V_Ju_weighList z ch ma br tl ki co pr pa tw nv sv ru le li bn ip aw ns pn pl po pf pt xs xv xk xd post := by
    intro post hpost
    unfold V_Ju_weighList
    obtain ⟨n0, m0, s0, v0, d0, hJ, k0, hk, rfl⟩ := hpre
    have hJ0 := hJ
    obtain ⟨hs24, hv40, hm, hn⟩ := JP_s hJ
    obtain ⟨hnv, hns, hS, htl, rfl, rfl, rfl, hsm, hvn, hd1, hd30, hfuel⟩ := hJ
    have hPv : vp_in (nI (v0 * 24 + s0)) 960 := vp_in_nI (by omega) (by decide)
    have cs : (nI s0).toNatClampNeg = s0 := nI_clamp (by omega)
    have cv : (nI v0).toNatClampNeg = v0 := nI_clamp (by omega)
    have cd : (nI d0).toNatClampNeg = d0 := nI_clamp (by omega)
    have cP : (nI (v0 * 24 + s0)).toNatClampNeg = v0 * 24 + s0 := nI_clamp (by omega)
    have cn : nv.toNatClampNeg = n0 := by rw [hnv]; exact nI_clamp (by omega)
    have ck : (nI (29 + k0)).toNatClampNeg - 29 = k0 := by rw [nI_clamp (by omega)]; omega
    have c4 : (nI (s0 * 4 + k0)).toNatClampNeg = s0 * 4 + k0 := nI_clamp (by omega)
    obtain ⟨L, hL, eL⟩ := hS.2.2.2.1 (s0 * 4 + k0) (by omega)
    simp only [px24, ix4, c4, cP, cs, cv, ck, cd, cn, eL] at hpost ⊢
    have hls : ∀ G, (∃ va mk, G = gC ki co pr pa tw pn pl po pf pt ru le li bn n0 va mk) → lsL G s0 k0 = L := fun G hG => by unfold lsL; rw [(gC_eq hG).2.2.2.2.1, eL]; exact nI_clamp (by omega)
    refine ⟨vp_in_nI (by omega) (by decide), fun xc xj f g hh u => ∃ j c, j ≤ L ∧ c ≤ j ∧ xj = nI j ∧ xc = nI c ∧ EG (fun G => ∃ va mk, G = gC ki co pr pa tw pn pl po pf pt ru le li bn n0 va mk) s0 v0 d0 (fun G x w => w = v0 ∧ ∃ i, i < j ∧ x = lsV G s0 k0 i) (fun _ _ => False) (fun G m => ∃ i, i < j ∧ gMk G (lsV G s0 k0 i) v0 m) (fun G => c = cN (fun i => gVa G (lsV G s0 k0 i) v0) j) ch ma br tl f g hh u, fun _ xj _ _ _ _ => L - xj.toInt.toNat, ⟨0, 0, Nat.zero_le _, Nat.le_refl _, rfl, rfl, EG.start htl (fun G _ => ⟨fun x w ⟨_, i, q, _⟩ => absurd q (Nat.not_lt_zero _), fun _ q => q, fun _ ⟨i, q, _⟩ => absurd q (Nat.not_lt_zero _), rfl⟩)⟩, ?_⟩
    rintro xc xj f g hh u ⟨j, c, hj, hc, rfl, rfl, hI⟩
    refine ⟨fun h => ?_, fun h => ?_⟩
    · obtain rfl := (fill_end (N := L) h (by omega) hj).symm
      have n29 : nI (29 + k0) = 29 ↔ k0 = 0 := by rw [show (29 : Int32) = nI 29 from rfl, nI_eq (by omega) (by omega)]; omega
      have n30 : nI (29 + k0) = 30 ↔ k0 = 1 := by rw [show (30 : Int32) = nI 30 from rfl, nI_eq (by omega) (by omega)]; omega
      have hen : ∀ G, (∃ va mk, G = gC ki co pr pa tw pn pl po pf pt ru le li bn n0 va mk) → c = cN (fun i => gVa G (lsV G s0 k0 i) v0) L → (((if nI (29 + k0) = 29 then decide (nI c = nI L) else if nI (29 + k0) = 30 then decide (¬ nI c ≤ 0) else decide (nI c = 1)) = true) ↔ (if k0 = 0 then cntL' G s0 v0 k0 = lsL G s0 k0 else if k0 = 1 then 0 < cntL' G s0 v0 k0 else cntL' G s0 v0 k0 = 1)) := fun G hG hz => by
        have e1 : cntL' G s0 v0 k0 = c := by unfold cntL'; rw [hls G hG]; exact hz.symm
        rw [e1, hls G hG]
        have : k0 = 0 ∨ k0 = 1 ∨ k0 = 2 := by omega
        rcases this with rfl | rfl | rfl
        · rw [if_pos (n29.mpr rfl), if_pos rfl, decide_eq_true_eq, nI_eq (by omega) (by omega)]
        · rw [if_neg (fun q => absurd (n29.mp q) (by decide)), if_pos (n30.mpr rfl), if_neg (by decide), if_pos rfl, decide_eq_true_eq, nI_le0 (by omega)]; omega
        · rw [if_neg (fun q => absurd (n29.mp q) (by decide)), if_neg (fun q => absurd (n30.mp q) (by decide)), if_neg (by decide), if_neg (by decide), decide_eq_true_eq]
          exact nI_eqR (n := 1) (by decide) (by omega)
      have hA : ∀ G, (∃ va mk, G = gC ki co pr pa tw pn pl po pf pt ru le li bn n0 va mk) → ∀ x w, (w = v0 ∧ ∃ i, i < L ∧ x = lsV G s0 k0 i) ↔ AskL G s0 v0 k0 x w := fun G hG x w => by unfold AskL; rw [hls G hG]
      have hM : ∀ G, (∃ va mk, G = gC ki co pr pa tw pn pl po pf pt ru le li bn n0 va mk) → ∀ m, (∃ i, i < L ∧ gMk G (lsV G s0 k0 i) v0 m) ↔ MrkL G s0 v0 k0 m := fun G hG m => by unfold MrkL; rw [hls G hG]
      refine ⟨fun h2 => (hpost _ _ _ _ _ _ _ _ _ _ _ _ _ _ _ _ _ _ _ _ _ _ _ ⟨hI.same (fun G hG hz => ⟨hA G hG, fun b => ⟨False.elim, fun q => ?_⟩, hM G hG, trivial⟩), rfl, rfl, rfl, rfl, rfl, rfl, rfl, rfl, rfl, rfl, rfl, rfl, rfl, rfl, rfl, rfl, rfl, rfl, rfl⟩), fun h2 => ⟨fun h3 => (hpost _ _ _ _ _ _ _ _ _ _ _ _ _ _ _ _ _ _ _ _ _ _ _ ⟨hI.same (fun G hG hz => ⟨hA G hG, fun b => ⟨False.elim, fun q => ?_⟩, hM G hG, trivial⟩), rfl, rfl, rfl, rfl, rfl, rfl, rfl, rfl, rfl, rfl, rfl, rfl, rfl, rfl, rfl, rfl, rfl, rfl, rfl⟩), fun h3 => ⟨hPv, (hpost _ _ _ _ _ _ _ _ _ _ _ _ _ _ _ _ _ _ _ _ _ _ _ ⟨hI.fail hs24 (by omega) (fun G hG hz => ⟨hA G hG, fun b => ⟨fun q => ?_, fun q => Or.inr q.1⟩, hM G hG, trivial⟩), rfl, rfl, rfl, rfl, rfl, rfl, rfl, rfl, rfl, rfl, rfl, rfl, rfl, rfl, rfl, rfl, rfl, rfl, rfl⟩)⟩⟩⟩
      · rw [nI_le0 (by omega)] at h2
        have := q.2.1; rw [hls G hG] at this; omega
      · exact q.2.2 ((hen G hG hz).mp (bI_ne.mp h3))
      · rw [nI_le0 (by omega)] at h2
        refine ⟨q.elim False.elim id, by rw [hls G hG]; omega, fun z => ?_⟩
        have := (hen G hG hz).mpr z
        rw [bI0.mp h3] at this; exact absurd this (by decide)
    · have hj2 := fill_step (N := L) h (by omega) hj
      have hjL : j < (le (s0 * 4 + k0)).toNatClampNeg := by rw [eL, nI_clamp (by omega)]; exact hj2
      have i12 : nI (s0 * 4 + k0) * 3 + nI j = nI ((s0 * 4 + k0) * 3 + j) := by rw [nI_mulR, nI_add]
      have c12 : (nI ((s0 * 4 + k0) * 3 + j)).toNatClampNeg = (s0 * 4 + k0) * 3 + j := nI_clamp (by omega)
      rw [i12, c12]
      obtain ⟨x0, hx, ex⟩ := hS.2.2.2.2.2.2.2 s0 k0 j hs24 (by omega) hjL
      have cx : (nI x0).toNatClampNeg = x0 := nI_clamp (by omega)
      rw [ex, cx]
      have hlv : ∀ G, (∃ va mk, G = gC ki co pr pa tw pn pl po pf pt ru le li bn n0 va mk) → lsV G s0 k0 j = x0 := fun G hG => by unfold lsV; rw [(gC_eq hG).2.2.2.2.2.1, ex, cx]
      have step : ∀ {t : Bool} {f1 g1 : Nat → Int32} {h1 : Nat → Int64} {u1 : Int32} (c1 : Nat), c1 = c + (if t = true then 1 else 0) → ((u1 = 0 ∨ u1 = 1) ∧ (u = 1 → u1 = 1) ∧ ∀ (G : Sp) (R : Nat → Nat → Prop) (lv : Nat → Nat), (∃ va mk, G = gC ki co pr pa tw pn pl po pf pt ru le li bn n0 va mk) → Ctx G R lv → Ask G s0 v0 x0 v0 → Ef G R lv s0 v0 d0 (fun x' w' => x' = x0 ∧ w' = v0) (fun _ => False) (fun i => gMk G x0 v0 i) (t = true ↔ gVa G x0 v0) f g hh u f1 g1 h1 u1) → EG (fun G => ∃ va mk, G = gC ki co pr pa tw pn pl po pf pt ru le li bn n0 va mk) s0 v0 d0 (fun G x w => w = v0 ∧ ∃ i, i < j + 1 ∧ x = lsV G s0 k0 i) (fun _ _ => False) (fun G m => ∃ i, i < j + 1 ∧ gMk G (lsV G s0 k0 i) v0 m) (fun G => c1 = cN (fun i => gVa G (lsV G s0 k0 i) v0) (j + 1)) ch ma br tl f1 g1 h1 u1 := fun {t f1 g1 h1 u1} c1 hc1 hp => by
        refine hI.next hp.1 hp.2.1 (fun G R lv hG hC _ => hp.2.2 G R lv hG hC (AskL_Ask hk ⟨rfl, j, by rw [hls G hG]; exact hj2, (hlv G hG).symm⟩)) (fun G hG hz hz' => ⟨fun x w => ?_, fun b => ⟨fun q => q.elim id id, Or.inl⟩, fun i => ?_, ?_⟩)
        · constructor
          · rintro (⟨q1, i, q2, q3⟩ | ⟨q1, q2⟩)
            · exact ⟨q1, i, by omega, q3⟩
            · exact ⟨q2, j, by omega, by rw [hlv G hG]; exact q1⟩
          · rintro ⟨q1, i, q2, q3⟩
            by_cases e : i = j
            · subst e; rw [hlv G hG] at q3; exact Or.inr ⟨q3, q1⟩
            · exact Or.inl ⟨q1, i, by omega, q3⟩
        · constructor
          · rintro (⟨a, q2, q3⟩ | q)
            · exact ⟨a, by omega, q3⟩
            · exact ⟨j, by omega, by rw [hlv G hG]; exact q⟩
          · rintro ⟨a, q2, q3⟩
            by_cases e : a = j
            · subst e; rw [hlv G hG] at q3; exact Or.inr q3
            · exact Or.inl ⟨a, by omega, q3⟩
        · rw [hc1]
          cases t
          · rw [cN_s.2 (by rw [hlv G hG]; exact fun q => absurd (hz'.mpr q) (by decide)), ← hz]; rfl
          · rw [cN_s.1 (by rw [hlv G hG]; exact hz'.mp rfl), ← hz]; rfl
      refine ⟨vp_in_nI (by omega) (by decide), ⟨n0, m0, s0, v0, d0, hJ0.re hI.1, x0, hx, rfl⟩, fun t f1 g1 h1 u1 hp => ⟨fun h2 => ⟨⟨j + 1, c, hj2, by omega, nI_1 j, rfl, step c (by rw [bI0.mp h2]; rfl) hp⟩, fill_mu hj2 (by omega)⟩, fun h2 => ⟨⟨j + 1, c + 1, hj2, by omega, nI_1 j, nI_1 c, step (c + 1) (by rw [bI_ne.mp h2]; rfl) hp⟩, fill_mu hj2 (by omega)⟩⟩⟩
  exact main _ (fun _ _ _ _ _ _ _ _ _ _ _ _ _ _ _ _ _ _ _ _ _ _ _ h => h)
theorem c_Ju_weighList (l : Launch) (D : va_G) (a : Nat → Nat) (cI cJ cZ : ClassId) (z : Nat) (HW : WQ l D a cI cJ cZ z) (ch : Nat → Int32) (ma : Nat → Int32) (br : Nat → Int64) (tl : Int32) (ki : Nat → Int32) (co : Nat → Int64) (pr : Nat → Int32) (pa : Nat → Int32) (tw : Nat → Int32) (nv : Int32) (sv : Int32) (ru : Nat → Int32) (le : Nat → Int32) (li : Nat → Int32) (bn : Nat → Int32) (ip : Nat → Int32) (aw : Nat → Int32) (ns : Int32) (pn : Nat → Int32) (pl : Nat → Int32) (po : Nat → Int32) (pf : Nat → Int32) (pt : Nat → Int32) (xs : Int32) (xv : Int32) (xk : Int32) (xd : Int32) (hpre : (∃ n0 m0 s0 v0 d0 : Nat, JP ki co pr pa pn po ru le li bn nv ns tl z xs xv xd n0 m0 s0 v0 d0 ∧ ∃ k0 : Nat, k0 < 3 ∧ xk = nI (29 + k0))) : Em (S := (Nat → Int32) × (Nat → Int32) × (Nat → Int64) × Int32) l y_Ju_weighList b_Ju_weighList 8 none (5 * z + 12) (200 * z + 150) [.ref (a 20), .int xs, .int xv, .int xk, .int xd] D (tyA cI cJ cZ) (wJ a cI cJ ch ma br tl ++ wV a cI cJ ki co pr pa tw nv sv ++ wS a cI ru le li bn ip aw ns ++ wL a ++ wP a cI cZ pn pl po pf pt) (fun uu => ((uu.2.2.2 = 0 ∨ uu.2.2.2 = 1) ∧ (tl = 1 → uu.2.2.2 = 1) ∧ ∀ (G : Sp) (R : Nat → Nat → Prop) (lv : Nat → Nat), (∃ va mk, G = gC ki co pr pa tw pn pl po pf pt ru le li bn nv.toNatClampNeg va mk) → Ctx G R lv → Ef G R lv xs.toNatClampNeg xv.toNatClampNeg xd.toNatClampNeg (AskL G xs.toNatClampNeg xv.toNatClampNeg (xk.toNatClampNeg - 29)) (BadL G xs.toNatClampNeg xv.toNatClampNeg (xk.toNatClampNeg - 29)) (MrkL G xs.toNatClampNeg xv.toNatClampNeg (xk.toNatClampNeg - 29)) True ch ma br tl uu.1 uu.2.1 uu.2.2.1 uu.2.2.2)) (fun uu => none) (fun uu => (wJ a cI cJ uu.1 uu.2.1 uu.2.2.1 uu.2.2.2 ++ wV a cI cJ ki co pr pa tw nv sv ++ wS a cI ru le li bn ip aw ns ++ wL a ++ wP a cI cZ pn pl po pf pt)) :=
  em_v (by decide) (Nat.le_of_ble_eq_true rfl) (fun p e s m below meth c ls Q A S hK hP hD hA hS hX hl hret => g_Ju_weighList S (Nat.le_refl _) (Nat.le_refl _) ⟨Nat.le_refl _, Nat.le_refl _⟩ D a cI cJ cZ HW ch ma br tl ki co pr pa tw nv sv ru le li bn ip aw ns pn pl po pf pt xs xv xk xd hK hP hD hA hS hX hl (v_Ju_weighList z ch ma br tl ki co pr pa tw nv sv ru le li bn ip aw ns pn pl po pf pt xs xv xk xd hpre) (fun ch' ma' br' tl' ki' co' pr' pa' tw' nv' sv' ru' le' li' bn' ip' aw' ns' pn' pl' po' pf' pt' ls1 pc H1 locs1 hd hv hP1 hD1 hS1 => by obtain ⟨hp, rfl, rfl, rfl, rfl, rfl, rfl, rfl, rfl, rfl, rfl, rfl, rfl, rfl, rfl, rfl, rfl, rfl, rfl, rfl⟩ := hv; exact hret (ch', ma', br', tl') ls1 pc H1 locs1 hd hp hP1 hD1 hS1))
theorem hd_Ju_weighList : y_Ju_weighList.cls ≠ "java/lang/invoke/MethodHandle" ∧ y_Ju_weighList.cls ≠ "java/lang/invoke/VarHandle" ∧ (parseMethodDescriptor y_Ju_weighList.desc).map (fun d => d.parameters.length) = some 4 := ⟨by decide, by decide, by decide +kernel⟩
