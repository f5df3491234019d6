def MeA1 (G : Sp) (s v n x w : Nat) : Prop := (nmH G s 0 n ∧ x = nmV G s 0 n ∧ w = gPt G v n) ∨ (¬ nmH G s 0 n ∧ ruH G s 26 ∧ x = ruV G s 26 ∧ w = gPt G v n)
def MeA2 (G : Sp) (s v n x w : Nat) : Prop := nmH G s 1 n ∧ x = nmV G s 1 n ∧ w = v
def MeB1 (G : Sp) (s v n b : Nat) : Prop := (b = 33 ∧ nmH G s 0 n ∧ ¬ gVa G (nmV G s 0 n) (gPt G v n)) ∨ (b = 26 ∧ ¬ nmH G s 0 n ∧ ruH G s 26 ∧ ¬ gVa G (ruV G s 26) (gPt G v n))
def MeB2 (G : Sp) (s v n b : Nat) : Prop := b = 34 ∧ nmH G s 1 n ∧ ¬ gVa G (nmV G s 1 n) v
def MeB3 (G : Sp) (s v n b : Nat) : Prop := b = 35 ∧ nmH G s 2 n ∧ ∃ i, i < 12 ∧ bt (gBn G ((s * 3 + 2) * 12 + n)) i = true ∧ ¬ gPb G v i
def MeM1 (G : Sp) (s _v n i : Nat) : Prop := i = n ∧ (nmH G s 0 n ∨ ruH G s 26)
def MeM2 (G : Sp) (s v n i : Nat) : Prop := nmH G s 1 n ∧ gMk G (nmV G s 1 n) v i
theorem ex_succ {P : Nat → Prop} {j : Nat} : (∃ n, n < j + 1 ∧ P n) ↔ (∃ n, n < j ∧ P n) ∨ P j := by
  constructor
  · rintro ⟨n, h1, h2⟩
    by_cases e : n = j
    · subst e; exact Or.inr h2
    · exact Or.inl ⟨n, by omega, h2⟩
  · rintro (⟨n, h1, h2⟩ | h)
    · exact ⟨n, by omega, h2⟩
    · exact ⟨j, by omega, h⟩
theorem AskMe_iff {G : Sp} {s v x w : Nat} : AskMe G s v x w ↔ ∃ n, n < 12 ∧ gPb G v n ∧ (MeA1 G s v n x w ∨ MeA2 G s v n x w) := by
  unfold AskMe MeA1 MeA2
  refine exists_congr (fun n => and_congr_right (fun _ => and_congr_right (fun _ => or_assoc.symm)))
theorem BadMe_iff {G : Sp} {s v b : Nat} : BadMe G s v b ↔ ∃ n, n < 12 ∧ gPb G v n ∧ ((MeB1 G s v n b ∨ MeB2 G s v n b) ∨ MeB3 G s v n b) := by
  unfold BadMe MeB1 MeB2 MeB3
  refine exists_congr (fun n => and_congr_right (fun _ => and_congr_right (fun _ => ?_)))
  rw [or_assoc, or_assoc]
theorem MrkMe_iff {G : Sp} {s v i : Nat} : MrkMe G s v i ↔ ∃ n, n < 12 ∧ gPb G v n ∧ (MeM1 G s v n i ∨ MeM2 G s v n i) := Iff.rfl
def V_Ju_weighMembers (z : Nat) (ch : Nat → Int32) (ma : Nat → Int32) (br : Nat → Int64) (tl : Int32) (ki : Nat → Int32) (co : Nat → Int64) (pr : Nat → Int32) (pa : Nat → Int32) (tw : Nat → Int32) (nv : Int32) (sv : Int32) (ru : Nat → Int32) (le : Nat → Int32) (li : Nat → Int32) (bn : Nat → Int32) (ip : Nat → Int32) (aw : Nat → Int32) (ns : Int32) (pn : Nat → Int32) (pl : Nat → Int32) (po : Nat → Int32) (pf : Nat → Int32) (pt : Nat → Int32) (xs : Int32) (xv : Int32) (xd : Int32) (post : (Nat → Int32) → (Nat → Int32) → (Nat → Int64) → Int32 → (Nat → Int32) → (Nat → Int64) → (Nat → Int32) → (Nat → Int32) → (Nat → Int32) → Int32 → Int32 → (Nat → Int32) → (Nat → Int32) → (Nat → Int32) → (Nat → Int32) → (Nat → Int32) → (Nat → Int32) → Int32 → (Nat → Int32) → (Nat → Int32) → (Nat → Int32) → (Nat → Int32) → (Nat → Int32) → Prop) : Prop :=
  (vp_in (xs * 29 + 26) 696 ∧ (∃ (I32 : Int32 → (Nat → Int32) → (Nat → Int32) → (Nat → Int64) → Int32 → Prop) (mI32 : Int32 → (Nat → Int32) → (Nat → Int32) → (Nat → Int64) → Int32 → Nat), I32 0 ch ma br tl ∧ (∀ (x27 : Int32) (f28 : Nat → Int32) (f29 : Nat → Int32) (f30 : Nat → Int64) (u31 : Int32), I32 x27 f28 f29 f30 u31 → ((12 ≤ x27 → post f28 f29 f30 u31 ki co pr pa tw nv sv ru le li bn ip aw ns pn pl po pf pt) ∧ (¬ 12 ≤ x27 → (vp_in xv 40 ∧ ((¬ (bI (sBit (pr xv.toNatClampNeg) x27)) = 0 → (vp_in ((xs * 3 + 33 - 33) * 12 + x27) 864 ∧ (∃ J33 : (Nat → Int32) → (Nat → Int32) → (Nat → Int64) → Int32 → Prop, (((bn ((xs * 3 + 33 - 33) * 12 + x27 : Int32).toNatClampNeg) = (-1) → (((ru (xs * 29 + 26 : Int32).toNatClampNeg) = (-1) → J33 f28 f29 f30 u31) ∧ (¬ (ru (xs * 29 + 26 : Int32).toNatClampNeg) = (-1) → ((∃ n0 m0 s0 v0 d0 : Nat, JP ki co pr pa pn po ru le li bn nv ns u31 z xs xv xd n0 m0 s0 v0 d0 ∧ (∃ i0 : Nat, cpb ki pr v0 i0 ∧ x27 = nI i0) ∧ (∃ k0 : Nat, k0 < 36 ∧ 26 = nI k0) ∧ ∃ x0 : Nat, x0 < m0 ∧ ru (xs * 29 + 26 : Int32).toNatClampNeg = nI x0) ∧ (∀ (f35 : Nat → Int32) (f36 : Nat → Int32) (f37 : Nat → Int64) (u38 : Int32), (((u38 = 0 ∨ u38 = 1) ∧ (u31 = 1 → u38 = 1) ∧ ∀ (G : Sp) (R : Nat → Nat → Prop) (lv : Nat → Nat), (∃ va mk, G = gC ki co pr pa tw pn pl po pf pt ru le li bn nv.toNatClampNeg va mk) → Ctx G R lv → Ask G xs.toNatClampNeg xv.toNatClampNeg (ru (xs * 29 + 26 : Int32).toNatClampNeg : Int32).toNatClampNeg (gPt G xv.toNatClampNeg x27.toNatClampNeg) → Ef G R lv xs.toNatClampNeg xv.toNatClampNeg xd.toNatClampNeg (fun x' w' => x' = (ru (xs * 29 + 26 : Int32).toNatClampNeg : Int32).toNatClampNeg ∧ w' = gPt G xv.toNatClampNeg x27.toNatClampNeg) (fun b => b = (26 : Int32).toNatClampNeg ∧ ¬ gVa G (ru (xs * 29 + 26 : Int32).toNatClampNeg : Int32).toNatClampNeg (gPt G xv.toNatClampNeg x27.toNatClampNeg)) (fun i => i = x27.toNatClampNeg) True f28 f29 f30 u31 f35 f36 f37 u38)) → J33 f35 f36 f37 u38))))) ∧ (¬ (bn ((xs * 3 + 33 - 33) * 12 + x27 : Int32).toNatClampNeg) = (-1) → ((∃ n0 m0 s0 v0 d0 : Nat, JP ki co pr pa pn po ru le li bn nv ns u31 z xs xv xd n0 m0 s0 v0 d0 ∧ (∃ i0 : Nat, cpb ki pr v0 i0 ∧ x27 = nI i0) ∧ (∃ k0 : Nat, k0 < 36 ∧ 33 = nI k0) ∧ ∃ x0 : Nat, x0 < m0 ∧ bn ((xs * 3 + 33 - 33) * 12 + x27 : Int32).toNatClampNeg = nI x0) ∧ (∀ (f39 : Nat → Int32) (f40 : Nat → Int32) (f41 : Nat → Int64) (u42 : Int32), (((u42 = 0 ∨ u42 = 1) ∧ (u31 = 1 → u42 = 1) ∧ ∀ (G : Sp) (R : Nat → Nat → Prop) (lv : Nat → Nat), (∃ va mk, G = gC ki co pr pa tw pn pl po pf pt ru le li bn nv.toNatClampNeg va mk) → Ctx G R lv → Ask G xs.toNatClampNeg xv.toNatClampNeg (bn ((xs * 3 + 33 - 33) * 12 + x27 : Int32).toNatClampNeg : Int32).toNatClampNeg (gPt G xv.toNatClampNeg x27.toNatClampNeg) → Ef G R lv xs.toNatClampNeg xv.toNatClampNeg xd.toNatClampNeg (fun x' w' => x' = (bn ((xs * 3 + 33 - 33) * 12 + x27 : Int32).toNatClampNeg : Int32).toNatClampNeg ∧ w' = gPt G xv.toNatClampNeg x27.toNatClampNeg) (fun b => b = (33 : Int32).toNatClampNeg ∧ ¬ gVa G (bn ((xs * 3 + 33 - 33) * 12 + x27 : Int32).toNatClampNeg : Int32).toNatClampNeg (gPt G xv.toNatClampNeg x27.toNatClampNeg)) (fun i => i = x27.toNatClampNeg) True f28 f29 f30 u31 f39 f40 f41 u42)) → J33 f39 f40 f41 u42)))) ∧ (∀ (f43 : Nat → Int32) (f44 : Nat → Int32) (f45 : Nat → Int64) (u46 : Int32), J33 f43 f44 f45 u46 → (vp_in ((xs * 3 + 34 - 33) * 12 + x27) 864 ∧ (∃ J47 : (Nat → Int32) → (Nat → Int32) → (Nat → Int64) → Int32 → Prop, (((bn ((xs * 3 + 34 - 33) * 12 + x27 : Int32).toNatClampNeg) = (-1) → J47 f43 f44 f45 u46) ∧ (¬ (bn ((xs * 3 + 34 - 33) * 12 + x27 : Int32).toNatClampNeg) = (-1) → ((∃ n0 m0 s0 v0 d0 : Nat, JP ki co pr pa pn po ru le li bn nv ns u46 z xs xv xd n0 m0 s0 v0 d0 ∧ ∃ x0 : Nat, x0 < m0 ∧ bn ((xs * 3 + 34 - 33) * 12 + x27 : Int32).toNatClampNeg = nI x0) ∧ (∀ (t48 : Bool) (f49 : Nat → Int32) (f50 : Nat → Int32) (f51 : Nat → Int64) (u52 : Int32), (((u52 = 0 ∨ u52 = 1) ∧ (u46 = 1 → u52 = 1) ∧ ∀ (G : Sp) (R : Nat → Nat → Prop) (lv : Nat → Nat), (∃ va mk, G = gC ki co pr pa tw pn pl po pf pt ru le li bn nv.toNatClampNeg va mk) → Ctx G R lv → Ask G xs.toNatClampNeg xv.toNatClampNeg (bn ((xs * 3 + 34 - 33) * 12 + x27 : Int32).toNatClampNeg : Int32).toNatClampNeg xv.toNatClampNeg → Ef G R lv xs.toNatClampNeg xv.toNatClampNeg xd.toNatClampNeg (fun x' w' => x' = (bn ((xs * 3 + 34 - 33) * 12 + x27 : Int32).toNatClampNeg : Int32).toNatClampNeg ∧ w' = xv.toNatClampNeg) (fun _ => False) (fun i => gMk G (bn ((xs * 3 + 34 - 33) * 12 + x27 : Int32).toNatClampNeg : Int32).toNatClampNeg xv.toNatClampNeg i) (t48 = true ↔ gVa G (bn ((xs * 3 + 34 - 33) * 12 + x27 : Int32).toNatClampNeg : Int32).toNatClampNeg xv.toNatClampNeg) f43 f44 f45 u46 f49 f50 f51 u52)) → ((¬ (bI t48) = 0 → J47 f49 f50 f51 u52) ∧ ((bI t48) = 0 → (vp_in (xv * 24 + xs) 960 ∧ J47 f49 f50 (vp_updL f51 (xv * 24 + xs : Int32).toNatClampNeg ((f51 (xv * 24 + xs : Int32).toNatClampNeg) ||| (1 <<< ((34 : Int32).toInt64 &&& 63)))) u52))))))) ∧ (∀ (f54 : Nat → Int32) (f55 : Nat → Int32) (f56 : Nat → Int64) (u57 : Int32), J47 f54 f55 f56 u57 → (vp_in ((xs * 3 + 35 - 33) * 12 + x27) 864 ∧ (((bn ((xs * 3 + 35 - 33) * 12 + x27 : Int32).toNatClampNeg) = (-1) → (I32 (x27 + 1) f54 f55 f56 u57 ∧ mI32 (x27 + 1) f54 f55 f56 u57 < mI32 x27 f28 f29 f30 u31)) ∧ (¬ (bn ((xs * 3 + 35 - 33) * 12 + x27 : Int32).toNatClampNeg) = (-1) → (vp_in xv 40 ∧ ((((bn ((xs * 3 + 35 - 33) * 12 + x27 : Int32).toNatClampNeg) &&& ((pr xv.toNatClampNeg) ^^^ (-1))) = 0 → (I32 (x27 + 1) f54 f55 f56 u57 ∧ mI32 (x27 + 1) f54 f55 f56 u57 < mI32 x27 f28 f29 f30 u31)) ∧ (¬ ((bn ((xs * 3 + 35 - 33) * 12 + x27 : Int32).toNatClampNeg) &&& ((pr xv.toNatClampNeg) ^^^ (-1))) = 0 → (vp_in (xv * 24 + xs) 960 ∧ (I32 (x27 + 1) f54 f55 (vp_updL f56 (xv * 24 + xs : Int32).toNatClampNeg ((f56 (xv * 24 + xs : Int32).toNatClampNeg) ||| (1 <<< ((35 : Int32).toInt64 &&& 63)))) u57 ∧ mI32 (x27 + 1) f54 f55 (vp_updL f56 (xv * 24 + xs : Int32).toNatClampNeg ((f56 (xv * 24 + xs : Int32).toNatClampNeg) ||| (1 <<< ((35 : Int32).toInt64 &&& 63)))) u57 < mI32 x27 f28 f29 f30 u31))))))))))))))) ∧ ((bI (sBit (pr xv.toNatClampNeg) x27)) = 0 → (I32 (x27 + 1) f28 f29 f30 u31 ∧ mI32 (x27 + 1) f28 f29 f30 u31 < mI32 x27 f28 f29 f30 u31)))))))))
set_option maxHeartbeats 4000000 in
set_option maxRecDepth 100000 in
theorem g_Ju_weighMembers {p : Program} {l : Launch} {e : Env} {R : Room} {s : State} {m : MethodId} {args : Array Value} {below : List Frame} {meth : Method} {c : Code} {H : Heap} {locs : List Loc} {cells slots : Nat} {Q : State → Prop} {ls : Array Slot} {A : Nat → Prop} {z : Nat} (S : CallFix p m c b_Ju_weighMembers 9 s args W0 R_Ju) (hRf : 5 * z + 12 ≤ R.frames) (hRl : 200 * z + 150 ≤ R.locals) (hRc : cells ≤ R.cells ∧ slots ≤ R.slots) (D : va_G) (a : Nat → Nat) (cI cJ cZ : ClassId) (HW : WQ l D a cI cJ cZ z) (ch : Nat → Int32) (ma : Nat → Int32) (br : Nat → Int64) (tl : Int32) (ki : Nat → Int32) (co : Nat → Int64) (pr : Nat → Int32) (pa : Nat → Int32) (tw : Nat → Int32) (nv : Int32) (sv : Int32) (ru : Nat → Int32) (le : Nat → Int32) (li : Nat → Int32) (bn : Nat → Int32) (ip : Nat → Int32) (aw : Nat → Int32) (ns : Int32) (pn : Nat → Int32) (pl : Nat → Int32) (po : Nat → Int32) (pf : Nat → Int32) (pt : Nat → Int32) (xs : Int32) (xv : Int32) (xd : Int32) (hK : va_K D vwCl (tyA cI cJ cZ) s) (hP : va_P D vwCl (wJ a cI cJ ch ma br tl ++ wV a cI cJ ki co pr pa tw nv sv ++ wS a cI ru le li bn ip aw ns ++ wL a ++ wP a cI cZ pn pl po pf pt) H) (hD : va_D A (wJ a cI cJ ch ma br tl ++ wV a cI cJ ki co pr pa tw nv sv ++ wS a cI ru le li bn ip aw ns ++ wL a ++ wP a cI cZ pn pl po pf pt)) (hA : ∀ q, s.heap.size ≤ q → A q) (hS : va_S A s.heap H locs) (hX : eX A s s.heap) (hl : lv_has ls 9 [(0, .ref (a 20)), (1, .int xs), (2, .int xv), (3, .int xd)]) {post : (Nat → Int32) → (Nat → Int32) → (Nat → Int64) → Int32 → (Nat → Int32) → (Nat → Int64) → (Nat → Int32) → (Nat → Int32) → (Nat → Int32) → Int32 → Int32 → (Nat → Int32) → (Nat → Int32) → (Nat → Int32) → (Nat → Int32) → (Nat → Int32) → (Nat → Int32) → Int32 → (Nat → Int32) → (Nat → Int32) → (Nat → Int32) → (Nat → Int32) → (Nat → Int32) → Prop} (vc : V_Ju_weighMembers z ch ma br tl ki co pr pa tw nv sv ru le li bn ip aw ns pn pl po pf pt xs xv xd post)
    (hret : ∀ (ch : Nat → Int32) (ma : Nat → Int32) (br : Nat → Int64) (tl : Int32) (ki : Nat → Int32) (co : Nat → Int64) (pr : Nat → Int32) (pa : Nat → Int32) (tw : Nat → Int32) (nv : Int32) (sv : Int32) (ru : Nat → Int32) (le : Nat → Int32) (li : Nat → Int32) (bn : Nat → Int32) (ip : Nat → Int32) (aw : Nat → Int32) (ns : Int32) (pn : Nat → Int32) (pl : Nat → Int32) (po : Nat → Int32) (pf : Nat → Int32) (pt : Nat → Int32) (ls : Array Slot) (pc : Nat) (H : Heap) (locs : List Loc), decode b_Ju_weighMembers pc = .ok (.return_, 1) → post ch ma br tl ki co pr pa tw nv sv ru le li bn ip aw ns pn pl po pf pt → va_P D vwCl (wJ a cI cJ ch ma br tl ++ wV a cI cJ ki co pr pa tw nv sv ++ wS a cI ru le li bn ip aw ns ++ wL a ++ wP a cI cZ pn pl po pf pt) H → va_D A (wJ a cI cJ ch ma br tl ++ wV a cI cJ ki co pr pa tw nv sv ++ wS a cI ru le li bn ip aw ns ++ wL a ++ wP a cI cZ pn pl po pf pt) → va_S A s.heap H locs → W p l e R s m args below meth c H locs cells slots Q (F0 m pc ls [])) : W p l e R s m args below meth c H locs cells slots Q (F0 m 0 ls []) := by
  have hx := S.1
  have hb := S.2.1
  have hown := S.2.2.2.1
  have hts := S.2.2.2.2
  unfold V_Ju_weighMembers at vc
  refine lv_aload_n hx hb d_Ju_weighMembers_0 rfl (lv_at hl 0 rfl) ?_
  refine va_get (D := D) (ci := 0) (v := .ref (a 12)) (C := R_Ju) (T := F_Ju) (N := 7) hx hb hts in_Ju hown hK hP 0 rfl rfl 1 (by decide) (hts _ fl_Ju_17) (fun _ h => h) rfl d_Ju_weighMembers_1 ?_
  refine lv_iload_n hx hb d_Ju_weighMembers_4 rfl (lv_at hl 1 rfl) ?_
  refine lv_bipush (v := 26) hx hb d_Ju_weighMembers_5 (by decide) ?_
  obtain ⟨hpre, vc⟩ := vc
  refine pc_V (As := [.int xs, .int 26]) (rest := []) S (c_Sc_ruleOf l D a cI cJ cZ ru le li bn ip aw ns xs 26 hpre) wB_blind k_Sc_ruleOf i_Sc_ruleOf e_Sc_ruleOf o_Sc ml_Ju_78 hd_Sc_ruleOf (Nat.le_trans (by omega) hRf) (Nat.le_trans (by omega) hRl) hRc (va_recv hK hP (q0 := 10) (ci := 3) rfl rfl) (wB_at (hP.sub (ws' := (wS a cI ru le li bn ip aw ns)) [10, 11, 12, 13, 14, 15, 16] rfl) hK) hl.1 rfl (Nat.le_of_ble_eq_true rfl) d_Ju_weighMembers_7 ?_
  refine lv_istore hx hb d_Ju_weighMembers_10 hl (by decide) (lv' := [(4, .int (ru (xs * 29 + 26 : Int32).toNatClampNeg)), (0, .ref (a 20)), (1, .int xs), (2, .int xv), (3, .int xd)]) rfl (fun ls hl => ?_)
  refine lv_iconst (v := 0) hx hb d_Ju_weighMembers_12 (by decide) ?_
  refine lv_istore hx hb d_Ju_weighMembers_13 hl (by decide) (lv' := [(5, .int 0), (4, .int (ru (xs * 29 + 26 : Int32).toNatClampNeg)), (0, .ref (a 20)), (1, .int xs), (2, .int xv), (3, .int xd)]) rfl (fun ls hl => ?_)
  obtain ⟨I32, mI32, vc0, vcs⟩ := vc
  have lI32 : ∀ n : Nat, ∀ (x27 : Int32) (f28 : Nat → Int32) (f29 : Nat → Int32) (f30 : Nat → Int64) (u31 : Int32) (ls : Array Slot) (H : Heap) (locs : List Loc), I32 x27 f28 f29 f30 u31 → mI32 x27 f28 f29 f30 u31 < n → lv_has ls 9 [(0, .ref (a 20)), (1, .int xs), (2, .int xv), (3, .int xd), (4, .int (ru (xs * 29 + 26 : Int32).toNatClampNeg)), (5, .int x27)] → va_P D vwCl (wJ a cI cJ f28 f29 f30 u31 ++ wV a cI cJ ki co pr pa tw nv sv ++ wS a cI ru le li bn ip aw ns ++ wL a ++ wP a cI cZ pn pl po pf pt) H → va_D A (wJ a cI cJ f28 f29 f30 u31 ++ wV a cI cJ ki co pr pa tw nv sv ++ wS a cI ru le li bn ip aw ns ++ wL a ++ wP a cI cZ pn pl po pf pt) → va_S A s.heap H locs → W p l e R s m args below meth c H locs cells slots Q (F0 m 15 ls []) := by
    intro n
    induction n with
    | zero => intro x27 f28 f29 f30 u31 ls H locs _ h; exact absurd h (Nat.not_lt_zero _)
    | succ n ihI32 =>
      intro x27 f28 f29 f30 u31 ls H locs vc hmI32 hl hP hD hS
      have vc := vcs x27 f28 f29 f30 u31 vc
      refine lv_iload hx hb d_Ju_weighMembers_15 (lv_at hl 5 rfl) ?_
      refine lv_bipush (v := 12) hx hb d_Ju_weighMembers_17 (by decide) ?_
      refine lv_icmp_ge (tgt := 183) hx hb d_Ju_weighMembers_19 (by decide) (fun h => ?_) (fun h => ?_)
      · have vc := vc.1 h
        exact hret _ _ _ _ _ _ _ _ _ _ _ _ _ _ _ _ _ _ _ _ _ _ _ ls _ H locs d_Ju_weighMembers_183 vc hP hD hS
      · have vc := vc.2 h
        refine lv_aload_n hx hb d_Ju_weighMembers_22 rfl (lv_at hl 0 rfl) ?_
        refine va_get (D := D) (ci := 0) (v := .ref (a 0)) (C := R_Ju) (T := F_Ju) (N := 7) hx hb hts in_Ju hown hK hP 0 rfl rfl 0 (by decide) (hts _ fl_Ju_11) (fun _ h => h) rfl d_Ju_weighMembers_23 ?_
        refine lv_iload_n hx hb d_Ju_weighMembers_26 rfl (lv_at hl 2 rfl) ?_
        refine lv_iload hx hb d_Ju_weighMembers_27 (lv_at hl 5 rfl) ?_
        obtain ⟨hpre, vc⟩ := vc
        refine pc_V (As := [.int xv, .int x27]) (rest := []) S (c_Va_isPresent l D a cI cJ cZ ki co pr pa tw nv sv xv x27 hpre) wB_blind k_Va_isPresent i_Va_isPresent e_Va_isPresent o_Va ml_Ju_146 hd_Va_isPresent (Nat.le_trans (by omega) hRf) (Nat.le_trans (by omega) hRl) hRc (va_recv hK hP (q0 := 4) (ci := 4) rfl rfl) (wB_at (hP.sub (ws' := (wV a cI cJ ki co pr pa tw nv sv)) [4, 5, 6, 7, 8, 9] rfl) hK) hl.1 rfl (Nat.le_of_ble_eq_true rfl) d_Ju_weighMembers_29 ?_
        refine lv_if_ne (tgt := 38) hx hb d_Ju_weighMembers_32 (by decide) (fun h => ?_) (fun h => ?_)
        · have vc := vc.1 h
          refine lv_aload_n hx hb d_Ju_weighMembers_38 rfl (lv_at hl 0 rfl) ?_
          refine va_get (D := D) (ci := 0) (v := .ref (a 12)) (C := R_Ju) (T := F_Ju) (N := 7) hx hb hts in_Ju hown hK hP 0 rfl rfl 1 (by decide) (hts _ fl_Ju_17) (fun _ h => h) rfl d_Ju_weighMembers_39 ?_
          refine lv_iload_n hx hb d_Ju_weighMembers_42 rfl (lv_at hl 1 rfl) ?_
          refine lv_bipush (v := 33) hx hb d_Ju_weighMembers_43 (by decide) ?_
          refine lv_iload hx hb d_Ju_weighMembers_45 (lv_at hl 5 rfl) ?_
          obtain ⟨hpre, vc⟩ := vc
          refine pc_V (As := [.int xs, .int 33, .int x27]) (rest := []) S (c_Sc_byNameOf l D a cI cJ cZ ru le li bn ip aw ns xs 33 x27 hpre) wB_blind k_Sc_byNameOf i_Sc_byNameOf e_Sc_byNameOf o_Sc ml_Ju_150 hd_Sc_byNameOf (Nat.le_trans (by omega) hRf) (Nat.le_trans (by omega) hRl) hRc (va_recv hK hP (q0 := 10) (ci := 3) rfl rfl) (wB_at (hP.sub (ws' := (wS a cI ru le li bn ip aw ns)) [10, 11, 12, 13, 14, 15, 16] rfl) hK) hl.1 rfl (Nat.le_of_ble_eq_true rfl) d_Ju_weighMembers_47 ?_
          refine lv_istore hx hb d_Ju_weighMembers_50 hl (by decide) (lv' := [(6, .int (bn ((xs * 3 + 33 - 33) * 12 + x27 : Int32).toNatClampNeg)), (0, .ref (a 20)), (1, .int xs), (2, .int xv), (3, .int xd), (4, .int (ru (xs * 29 + 26 : Int32).toNatClampNeg)), (5, .int x27)]) rfl (fun ls hl => ?_)
          refine lv_iload hx hb d_Ju_weighMembers_52 (lv_at hl 0 rfl) ?_
          refine lv_iconst (v := (-1)) hx hb d_Ju_weighMembers_54 (by decide) ?_
          obtain ⟨J33, vc, vc2⟩ := vc
          have jJ33 : ∀ (f43 : Nat → Int32) (f44 : Nat → Int32) (f45 : Nat → Int64) (u46 : Int32) (ls : Array Slot) (H : Heap) (locs : List Loc), J33 f43 f44 f45 u46 → lv_has ls 9 [(0, .ref (a 20)), (1, .int xs), (2, .int xv), (3, .int xd), (4, .int (ru (xs * 29 + 26 : Int32).toNatClampNeg)), (5, .int x27), (6, .int (bn ((xs * 3 + 33 - 33) * 12 + x27 : Int32).toNatClampNeg))] → va_P D vwCl (wJ a cI cJ f43 f44 f45 u46 ++ wV a cI cJ ki co pr pa tw nv sv ++ wS a cI ru le li bn ip aw ns ++ wL a ++ wP a cI cZ pn pl po pf pt) H → va_D A (wJ a cI cJ f43 f44 f45 u46 ++ wV a cI cJ ki co pr pa tw nv sv ++ wS a cI ru le li bn ip aw ns ++ wL a ++ wP a cI cZ pn pl po pf pt) → va_S A s.heap H locs → W p l e R s m args below meth c H locs cells slots Q (F0 m 93 ls []) := by
            intro f43 f44 f45 u46 ls H locs vc hl hP hD hS
            have vc := vc2 f43 f44 f45 u46 vc
            refine lv_aload_n hx hb d_Ju_weighMembers_93 rfl (lv_at hl 0 rfl) ?_
            refine va_get (D := D) (ci := 0) (v := .ref (a 12)) (C := R_Ju) (T := F_Ju) (N := 7) hx hb hts in_Ju hown hK hP 0 rfl rfl 1 (by decide) (hts _ fl_Ju_17) (fun _ h => h) rfl d_Ju_weighMembers_94 ?_
            refine lv_iload_n hx hb d_Ju_weighMembers_97 rfl (lv_at hl 1 rfl) ?_
            refine lv_bipush (v := 34) hx hb d_Ju_weighMembers_98 (by decide) ?_
            refine lv_iload hx hb d_Ju_weighMembers_100 (lv_at hl 5 rfl) ?_
            obtain ⟨hpre, vc⟩ := vc
            refine pc_V (As := [.int xs, .int 34, .int x27]) (rest := []) S (c_Sc_byNameOf l D a cI cJ cZ ru le li bn ip aw ns xs 34 x27 hpre) wB_blind k_Sc_byNameOf i_Sc_byNameOf e_Sc_byNameOf o_Sc ml_Ju_150 hd_Sc_byNameOf (Nat.le_trans (by omega) hRf) (Nat.le_trans (by omega) hRl) hRc (va_recv hK hP (q0 := 10) (ci := 3) rfl rfl) (wB_at (hP.sub (ws' := (wS a cI ru le li bn ip aw ns)) [10, 11, 12, 13, 14, 15, 16] rfl) hK) hl.1 rfl (Nat.le_of_ble_eq_true rfl) d_Ju_weighMembers_102 ?_
            refine lv_istore hx hb d_Ju_weighMembers_105 hl (by decide) (lv' := [(7, .int (bn ((xs * 3 + 34 - 33) * 12 + x27 : Int32).toNatClampNeg)), (0, .ref (a 20)), (1, .int xs), (2, .int xv), (3, .int xd), (4, .int (ru (xs * 29 + 26 : Int32).toNatClampNeg)), (5, .int x27), (6, .int (bn ((xs * 3 + 33 - 33) * 12 + x27 : Int32).toNatClampNeg))]) rfl (fun ls hl => ?_)
            refine lv_iload hx hb d_Ju_weighMembers_107 (lv_at hl 0 rfl) ?_
            refine lv_iconst (v := (-1)) hx hb d_Ju_weighMembers_109 (by decide) ?_
            obtain ⟨J47, vc, vc2⟩ := vc
            have jJ47 : ∀ (f54 : Nat → Int32) (f55 : Nat → Int32) (f56 : Nat → Int64) (u57 : Int32) (ls : Array Slot) (H : Heap) (locs : List Loc), J47 f54 f55 f56 u57 → lv_has ls 9 [(0, .ref (a 20)), (1, .int xs), (2, .int xv), (3, .int xd), (4, .int (ru (xs * 29 + 26 : Int32).toNatClampNeg)), (5, .int x27), (6, .int (bn ((xs * 3 + 33 - 33) * 12 + x27 : Int32).toNatClampNeg)), (7, .int (bn ((xs * 3 + 34 - 33) * 12 + x27 : Int32).toNatClampNeg))] → va_P D vwCl (wJ a cI cJ f54 f55 f56 u57 ++ wV a cI cJ ki co pr pa tw nv sv ++ wS a cI ru le li bn ip aw ns ++ wL a ++ wP a cI cZ pn pl po pf pt) H → va_D A (wJ a cI cJ f54 f55 f56 u57 ++ wV a cI cJ ki co pr pa tw nv sv ++ wS a cI ru le li bn ip aw ns ++ wL a ++ wP a cI cZ pn pl po pf pt) → va_S A s.heap H locs → W p l e R s m args below meth c H locs cells slots Q (F0 m 133 ls []) := by
              intro f54 f55 f56 u57 ls H locs vc hl hP hD hS
              have vc := vc2 f54 f55 f56 u57 vc
              refine lv_aload_n hx hb d_Ju_weighMembers_133 rfl (lv_at hl 0 rfl) ?_
              refine va_get (D := D) (ci := 0) (v := .ref (a 12)) (C := R_Ju) (T := F_Ju) (N := 7) hx hb hts in_Ju hown hK hP 0 rfl rfl 1 (by decide) (hts _ fl_Ju_17) (fun _ h => h) rfl d_Ju_weighMembers_134 ?_
              refine lv_iload_n hx hb d_Ju_weighMembers_137 rfl (lv_at hl 1 rfl) ?_
              refine lv_bipush (v := 35) hx hb d_Ju_weighMembers_138 (by decide) ?_
              refine lv_iload hx hb d_Ju_weighMembers_140 (lv_at hl 5 rfl) ?_
              obtain ⟨hpre, vc⟩ := vc
              refine pc_V (As := [.int xs, .int 35, .int x27]) (rest := []) S (c_Sc_byNameOf l D a cI cJ cZ ru le li bn ip aw ns xs 35 x27 hpre) wB_blind k_Sc_byNameOf i_Sc_byNameOf e_Sc_byNameOf o_Sc ml_Ju_150 hd_Sc_byNameOf (Nat.le_trans (by omega) hRf) (Nat.le_trans (by omega) hRl) hRc (va_recv hK hP (q0 := 10) (ci := 3) rfl rfl) (wB_at (hP.sub (ws' := (wS a cI ru le li bn ip aw ns)) [10, 11, 12, 13, 14, 15, 16] rfl) hK) hl.1 rfl (Nat.le_of_ble_eq_true rfl) d_Ju_weighMembers_142 ?_
              refine lv_istore hx hb d_Ju_weighMembers_145 hl (by decide) (lv' := [(8, .int (bn ((xs * 3 + 35 - 33) * 12 + x27 : Int32).toNatClampNeg)), (0, .ref (a 20)), (1, .int xs), (2, .int xv), (3, .int xd), (4, .int (ru (xs * 29 + 26 : Int32).toNatClampNeg)), (5, .int x27), (6, .int (bn ((xs * 3 + 33 - 33) * 12 + x27 : Int32).toNatClampNeg)), (7, .int (bn ((xs * 3 + 34 - 33) * 12 + x27 : Int32).toNatClampNeg))]) rfl (fun ls hl => ?_)
              refine lv_iload hx hb d_Ju_weighMembers_147 (lv_at hl 0 rfl) ?_
              refine lv_iconst (v := (-1)) hx hb d_Ju_weighMembers_149 (by decide) ?_
              refine lv_icmp_eq (tgt := 177) hx hb d_Ju_weighMembers_150 (by decide) (fun h => ?_) (fun h => ?_)
              · have vc := vc.1 h
                refine lv_iinc (k := 6) (v := x27 + 1) hx hb d_Ju_weighMembers_177 hl rfl rfl (by decide) (lv' := [(5, .int (x27 + 1)), (8, .int (bn ((xs * 3 + 35 - 33) * 12 + x27 : Int32).toNatClampNeg)), (0, .ref (a 20)), (1, .int xs), (2, .int xv), (3, .int xd), (4, .int (ru (xs * 29 + 26 : Int32).toNatClampNeg)), (6, .int (bn ((xs * 3 + 33 - 33) * 12 + x27 : Int32).toNatClampNeg)), (7, .int (bn ((xs * 3 + 34 - 33) * 12 + x27 : Int32).toNatClampNeg))]) rfl (fun ls hl => ?_)
                refine lv_goto (tgt := 15) hx hb d_Ju_weighMembers_180 (by decide) ?_
                exact ihI32 (x27 + 1) f54 f55 f56 u57 ls H locs vc.1 (Nat.lt_of_lt_of_le vc.2 (Nat.le_of_lt_succ hmI32)) (lv_sub hl [2, 3, 4, 5, 6, 0] rfl) hP hD hS
              · have vc := vc.2 h
                refine lv_iload hx hb d_Ju_weighMembers_153 (lv_at hl 0 rfl) ?_
                refine lv_aload_n hx hb d_Ju_weighMembers_155 rfl (lv_at hl 1 rfl) ?_
                refine va_get (D := D) (ci := 0) (v := .ref (a 0)) (C := R_Ju) (T := F_Ju) (N := 7) hx hb hts in_Ju hown hK hP 0 rfl rfl 0 (by decide) (hts _ fl_Ju_11) (fun _ h => h) rfl d_Ju_weighMembers_156 ?_
                refine lv_iload_n hx hb d_Ju_weighMembers_159 rfl (lv_at hl 3 rfl) ?_
                obtain ⟨hpre, vc⟩ := vc
                refine pc_V (As := [.int xv]) (rest := [.int (bn ((xs * 3 + 35 - 33) * 12 + x27 : Int32).toNatClampNeg)]) S (c_Va_presentIn l D a cI cJ cZ ki co pr pa tw nv sv xv hpre) wB_blind k_Va_presentIn i_Va_presentIn e_Va_presentIn o_Va ml_Ju_153 hd_Va_presentIn (Nat.le_trans (by omega) hRf) (Nat.le_trans (by omega) hRl) hRc (va_recv hK hP (q0 := 4) (ci := 4) rfl rfl) (wB_at (hP.sub (ws' := (wV a cI cJ ki co pr pa tw nv sv)) [4, 5, 6, 7, 8, 9] rfl) hK) hl.1 rfl (Nat.le_of_ble_eq_true rfl) d_Ju_weighMembers_160 ?_
                refine lv_iconst (v := (-1)) hx hb d_Ju_weighMembers_163 (by decide) ?_
                refine lv_ixor hx hb d_Ju_weighMembers_164 ?_
                refine lv_iand hx hb d_Ju_weighMembers_165 ?_
                refine lv_if_eq (tgt := 177) hx hb d_Ju_weighMembers_166 (by decide) (fun h => ?_) (fun h => ?_)
                · have vc := vc.1 h
                  refine lv_iinc (k := 6) (v := x27 + 1) hx hb d_Ju_weighMembers_177 hl rfl rfl (by decide) (lv' := [(5, .int (x27 + 1)), (8, .int (bn ((xs * 3 + 35 - 33) * 12 + x27 : Int32).toNatClampNeg)), (0, .ref (a 20)), (1, .int xs), (2, .int xv), (3, .int xd), (4, .int (ru (xs * 29 + 26 : Int32).toNatClampNeg)), (6, .int (bn ((xs * 3 + 33 - 33) * 12 + x27 : Int32).toNatClampNeg)), (7, .int (bn ((xs * 3 + 34 - 33) * 12 + x27 : Int32).toNatClampNeg))]) rfl (fun ls hl => ?_)
                  refine lv_goto (tgt := 15) hx hb d_Ju_weighMembers_180 (by decide) ?_
                  exact ihI32 (x27 + 1) f54 f55 f56 u57 ls H locs vc.1 (Nat.lt_of_lt_of_le vc.2 (Nat.le_of_lt_succ hmI32)) (lv_sub hl [2, 3, 4, 5, 6, 0] rfl) hP hD hS
                · have vc := vc.2 h
                  refine lv_aload_n hx hb d_Ju_weighMembers_169 rfl (lv_at hl 1 rfl) ?_
                  refine lv_iload_n hx hb d_Ju_weighMembers_170 rfl (lv_at hl 2 rfl) ?_
                  refine lv_iload_n hx hb d_Ju_weighMembers_171 rfl (lv_at hl 3 rfl) ?_
                  refine lv_bipush (v := 35) hx hb d_Ju_weighMembers_172 (by decide) ?_
                  obtain ⟨hpre, vc⟩ := vc
                  refine wc_V (As := [.int xs, .int xv, .int 35]) (rest := []) (wr := (wV a cI cJ ki co pr pa tw nv sv ++ wS a cI ru le li bn ip aw ns ++ wL a ++ wP a cI cZ pn pl po pf pt)) S (c_Ju_fail l D a cI cJ cZ f54 f55 f56 u57 xs xv 35 hpre) k_Ju_fail i_Ju_fail e_Ju_fail o_Ju ml_Ju_87 hd_Ju_fail (Nat.le_trans (by omega) hRf) (Nat.le_trans (by omega) hRl) hRc (va_recv hK hP (q0 := 0) (ci := 0) rfl rfl) hK hP hD hS hA [0, 1, 2, 3] [4, 5, 6, 7, 8, 9, 10, 11, 12, 13, 14, 15, 16, 17, 18, 19, 20, 21, 22, 23] rfl rfl rfl (by decide) (by decide) (by decide) hl.1 rfl (Nat.le_of_ble_eq_true rfl) d_Ju_weighMembers_174 (fun _ H locs _ hP hD hS => ?_)
                  have hP : va_P D vwCl (wJ a cI cJ f54 f55 (vp_updL f56 (xv * 24 + xs : Int32).toNatClampNeg ((f56 (xv * 24 + xs : Int32).toNatClampNeg) ||| (1 <<< ((35 : Int32).toInt64 &&& 63)))) u57 ++ wV a cI cJ ki co pr pa tw nv sv ++ wS a cI ru le li bn ip aw ns ++ wL a ++ wP a cI cZ pn pl po pf pt) H := hP.sub [20, 21, 22, 23, 0, 1, 2, 3, 4, 5, 6, 7, 8, 9, 10, 11, 12, 13, 14, 15, 16, 17, 18, 19] rfl
                  have hD : va_D A (wJ a cI cJ f54 f55 (vp_updL f56 (xv * 24 + xs : Int32).toNatClampNeg ((f56 (xv * 24 + xs : Int32).toNatClampNeg) ||| (1 <<< ((35 : Int32).toInt64 &&& 63)))) u57 ++ wV a cI cJ ki co pr pa tw nv sv ++ wS a cI ru le li bn ip aw ns ++ wL a ++ wP a cI cZ pn pl po pf pt) := hD.sub [20, 21, 22, 23, 0, 1, 2, 3, 4, 5, 6, 7, 8, 9, 10, 11, 12, 13, 14, 15, 16, 17, 18, 19] (by decide) rfl
                  refine lv_iinc (k := 6) (v := x27 + 1) hx hb d_Ju_weighMembers_177 hl rfl rfl (by decide) (lv' := [(5, .int (x27 + 1)), (8, .int (bn ((xs * 3 + 35 - 33) * 12 + x27 : Int32).toNatClampNeg)), (0, .ref (a 20)), (1, .int xs), (2, .int xv), (3, .int xd), (4, .int (ru (xs * 29 + 26 : Int32).toNatClampNeg)), (6, .int (bn ((xs * 3 + 33 - 33) * 12 + x27 : Int32).toNatClampNeg)), (7, .int (bn ((xs * 3 + 34 - 33) * 12 + x27 : Int32).toNatClampNeg))]) rfl (fun ls hl => ?_)
                  refine lv_goto (tgt := 15) hx hb d_Ju_weighMembers_180 (by decide) ?_
                  exact ihI32 (x27 + 1) f54 f55 (vp_updL f56 (xv * 24 + xs : Int32).toNatClampNeg ((f56 (xv * 24 + xs : Int32).toNatClampNeg) ||| (1 <<< ((35 : Int32).toInt64 &&& 63)))) u57 ls H locs vc.1 (Nat.lt_of_lt_of_le vc.2 (Nat.le_of_lt_succ hmI32)) (lv_sub hl [2, 3, 4, 5, 6, 0] rfl) hP hD hS
            clear vc2
            refine lv_icmp_eq (tgt := 133) hx hb d_Ju_weighMembers_110 (by decide) (fun h => ?_) (fun h => ?_)
            · have vc := vc.1 h
              exact jJ47 f43 f44 f45 u46 ls H locs vc (lv_sub hl [1, 2, 3, 4, 5, 6, 7, 0] rfl) hP hD hS
            · have vc := vc.2 h
              refine lv_aload_n hx hb d_Ju_weighMembers_113 rfl (lv_at hl 1 rfl) ?_
              refine lv_iload_n hx hb d_Ju_weighMembers_114 rfl (lv_at hl 2 rfl) ?_
              refine lv_iload_n hx hb d_Ju_weighMembers_115 rfl (lv_at hl 3 rfl) ?_
              refine lv_iload hx hb d_Ju_weighMembers_116 (lv_at hl 0 rfl) ?_
              refine lv_iload_n hx hb d_Ju_weighMembers_118 rfl (lv_at hl 4 rfl) ?_
              obtain ⟨hpre, vc⟩ := vc
              refine ec_V (As := [.int xs, .int xv, .int (bn ((xs * 3 + 34 - 33) * 12 + x27 : Int32).toNatClampNeg), .int xd]) (rest := []) (wr := ([] : va_W)) S (c_Ju_adopt l D a cI cJ cZ z HW f43 f44 f45 u46 ki co pr pa tw nv sv ru le li bn ip aw ns pn pl po pf pt xs xv (bn ((xs * 3 + 34 - 33) * 12 + x27 : Int32).toNatClampNeg) xd hpre) k_Ju_adopt i_Ju_adopt e_Ju_adopt o_Ju ml_Ju_116 hd_Ju_adopt (Nat.le_trans (by omega) hRf) (Nat.le_trans (by omega) hRl) hRc (va_recv hK hP (q0 := 0) (ci := 0) rfl rfl) hK hP hD hS hA hX [0, 1, 2, 3, 4, 5, 6, 7, 8, 9, 10, 11, 12, 13, 14, 15, 16, 17, 18, 19, 20, 21, 22, 23] [] rfl rfl rfl (by decide) (by decide) (by decide) hl.1 rfl (Nat.le_of_ble_eq_true rfl) d_Ju_weighMembers_119 (fun u H locs hu hP hD hS => ?_)
              obtain ⟨t48, f49, f50, f51, u52⟩ := u
              have vc := vc t48 f49 f50 f51 u52 hu
              clear hu
              have hP : va_P D vwCl (wJ a cI cJ f49 f50 f51 u52 ++ wV a cI cJ ki co pr pa tw nv sv ++ wS a cI ru le li bn ip aw ns ++ wL a ++ wP a cI cZ pn pl po pf pt) H := hP
              have hD : va_D A (wJ a cI cJ f49 f50 f51 u52 ++ wV a cI cJ ki co pr pa tw nv sv ++ wS a cI ru le li bn ip aw ns ++ wL a ++ wP a cI cZ pn pl po pf pt) := hD
              refine lv_if_ne (tgt := 133) hx hb d_Ju_weighMembers_122 (by decide) (fun h => ?_) (fun h => ?_)
              · have vc := vc.1 h
                exact jJ47 f49 f50 f51 u52 ls H locs vc (lv_sub hl [1, 2, 3, 4, 5, 6, 7, 0] rfl) hP hD hS
              · have vc := vc.2 h
                refine lv_aload_n hx hb d_Ju_weighMembers_125 rfl (lv_at hl 1 rfl) ?_
                refine lv_iload_n hx hb d_Ju_weighMembers_126 rfl (lv_at hl 2 rfl) ?_
                refine lv_iload_n hx hb d_Ju_weighMembers_127 rfl (lv_at hl 3 rfl) ?_
                refine lv_bipush (v := 34) hx hb d_Ju_weighMembers_128 (by decide) ?_
                obtain ⟨hpre, vc⟩ := vc
                refine wc_V (As := [.int xs, .int xv, .int 34]) (rest := []) (wr := (wV a cI cJ ki co pr pa tw nv sv ++ wS a cI ru le li bn ip aw ns ++ wL a ++ wP a cI cZ pn pl po pf pt)) S (c_Ju_fail l D a cI cJ cZ f49 f50 f51 u52 xs xv 34 hpre) k_Ju_fail i_Ju_fail e_Ju_fail o_Ju ml_Ju_87 hd_Ju_fail (Nat.le_trans (by omega) hRf) (Nat.le_trans (by omega) hRl) hRc (va_recv hK hP (q0 := 0) (ci := 0) rfl rfl) hK hP hD hS hA [0, 1, 2, 3] [4, 5, 6, 7, 8, 9, 10, 11, 12, 13, 14, 15, 16, 17, 18, 19, 20, 21, 22, 23] rfl rfl rfl (by decide) (by decide) (by decide) hl.1 rfl (Nat.le_of_ble_eq_true rfl) d_Ju_weighMembers_130 (fun _ H locs _ hP hD hS => ?_)
                have hP : va_P D vwCl (wJ a cI cJ f49 f50 (vp_updL f51 (xv * 24 + xs : Int32).toNatClampNeg ((f51 (xv * 24 + xs : Int32).toNatClampNeg) ||| (1 <<< ((34 : Int32).toInt64 &&& 63)))) u52 ++ wV a cI cJ ki co pr pa tw nv sv ++ wS a cI ru le li bn ip aw ns ++ wL a ++ wP a cI cZ pn pl po pf pt) H := hP.sub [20, 21, 22, 23, 0, 1, 2, 3, 4, 5, 6, 7, 8, 9, 10, 11, 12, 13, 14, 15, 16, 17, 18, 19] rfl
                have hD : va_D A (wJ a cI cJ f49 f50 (vp_updL f51 (xv * 24 + xs : Int32).toNatClampNeg ((f51 (xv * 24 + xs : Int32).toNatClampNeg) ||| (1 <<< ((34 : Int32).toInt64 &&& 63)))) u52 ++ wV a cI cJ ki co pr pa tw nv sv ++ wS a cI ru le li bn ip aw ns ++ wL a ++ wP a cI cZ pn pl po pf pt) := hD.sub [20, 21, 22, 23, 0, 1, 2, 3, 4, 5, 6, 7, 8, 9, 10, 11, 12, 13, 14, 15, 16, 17, 18, 19] (by decide) rfl
                exact jJ47 f49 f50 (vp_updL f51 (xv * 24 + xs : Int32).toNatClampNeg ((f51 (xv * 24 + xs : Int32).toNatClampNeg) ||| (1 <<< ((34 : Int32).toInt64 &&& 63)))) u52 ls H locs vc (lv_sub hl [1, 2, 3, 4, 5, 6, 7, 0] rfl) hP hD hS
          clear vc2
          refine lv_icmp_eq (tgt := 74) hx hb d_Ju_weighMembers_55 (by decide) (fun h => ?_) (fun h => ?_)
          · have vc := vc.1 h
            refine lv_iload hx hb d_Ju_weighMembers_74 (lv_at hl 5 rfl) ?_
            refine lv_iconst (v := (-1)) hx hb d_Ju_weighMembers_76 (by decide) ?_
            refine lv_icmp_eq (tgt := 93) hx hb d_Ju_weighMembers_77 (by decide) (fun h => ?_) (fun h => ?_)
            · have vc := vc.1 h
              exact jJ33 f28 f29 f30 u31 ls H locs vc (lv_sub hl [1, 2, 3, 4, 5, 6, 0] rfl) hP hD hS
            · have vc := vc.2 h
              refine lv_aload_n hx hb d_Ju_weighMembers_80 rfl (lv_at hl 1 rfl) ?_
              refine lv_iload_n hx hb d_Ju_weighMembers_81 rfl (lv_at hl 2 rfl) ?_
              refine lv_iload_n hx hb d_Ju_weighMembers_82 rfl (lv_at hl 3 rfl) ?_
              refine lv_iload hx hb d_Ju_weighMembers_83 (lv_at hl 6 rfl) ?_
              refine lv_bipush (v := 26) hx hb d_Ju_weighMembers_85 (by decide) ?_
              refine lv_iload hx hb d_Ju_weighMembers_87 (lv_at hl 5 rfl) ?_
              refine lv_iload_n hx hb d_Ju_weighMembers_89 rfl (lv_at hl 4 rfl) ?_
              obtain ⟨hpre, vc⟩ := vc
              refine ec_V (As := [.int xs, .int xv, .int x27, .int 26, .int (ru (xs * 29 + 26 : Int32).toNatClampNeg), .int xd]) (rest := []) (wr := ([] : va_W)) S (c_Ju_weighPart l D a cI cJ cZ z HW f28 f29 f30 u31 ki co pr pa tw nv sv ru le li bn ip aw ns pn pl po pf pt xs xv x27 26 (ru (xs * 29 + 26 : Int32).toNatClampNeg) xd hpre) k_Ju_weighPart i_Ju_weighPart e_Ju_weighPart o_Ju ml_Ju_139 hd_Ju_weighPart (Nat.le_trans (by omega) hRf) (Nat.le_trans (by omega) hRl) hRc (va_recv hK hP (q0 := 0) (ci := 0) rfl rfl) hK hP hD hS hA hX [0, 1, 2, 3, 4, 5, 6, 7, 8, 9, 10, 11, 12, 13, 14, 15, 16, 17, 18, 19, 20, 21, 22, 23] [] rfl rfl rfl (by decide) (by decide) (by decide) hl.1 rfl (Nat.le_of_ble_eq_true rfl) d_Ju_weighMembers_90 (fun u H locs hu hP hD hS => ?_)
              obtain ⟨f35, f36, f37, u38⟩ := u
              have vc := vc f35 f36 f37 u38 hu
              clear hu
              have hP : va_P D vwCl (wJ a cI cJ f35 f36 f37 u38 ++ wV a cI cJ ki co pr pa tw nv sv ++ wS a cI ru le li bn ip aw ns ++ wL a ++ wP a cI cZ pn pl po pf pt) H := hP
              have hD : va_D A (wJ a cI cJ f35 f36 f37 u38 ++ wV a cI cJ ki co pr pa tw nv sv ++ wS a cI ru le li bn ip aw ns ++ wL a ++ wP a cI cZ pn pl po pf pt) := hD
              exact jJ33 f35 f36 f37 u38 ls H locs vc (lv_sub hl [1, 2, 3, 4, 5, 6, 0] rfl) hP hD hS
          · have vc := vc.2 h
            refine lv_aload_n hx hb d_Ju_weighMembers_58 rfl (lv_at hl 1 rfl) ?_
            refine lv_iload_n hx hb d_Ju_weighMembers_59 rfl (lv_at hl 2 rfl) ?_
            refine lv_iload_n hx hb d_Ju_weighMembers_60 rfl (lv_at hl 3 rfl) ?_
            refine lv_iload hx hb d_Ju_weighMembers_61 (lv_at hl 6 rfl) ?_
            refine lv_bipush (v := 33) hx hb d_Ju_weighMembers_63 (by decide) ?_
            refine lv_iload hx hb d_Ju_weighMembers_65 (lv_at hl 0 rfl) ?_
            refine lv_iload_n hx hb d_Ju_weighMembers_67 rfl (lv_at hl 4 rfl) ?_
            obtain ⟨hpre, vc⟩ := vc
            refine ec_V (As := [.int xs, .int xv, .int x27, .int 33, .int (bn ((xs * 3 + 33 - 33) * 12 + x27 : Int32).toNatClampNeg), .int xd]) (rest := []) (wr := ([] : va_W)) S (c_Ju_weighPart l D a cI cJ cZ z HW f28 f29 f30 u31 ki co pr pa tw nv sv ru le li bn ip aw ns pn pl po pf pt xs xv x27 33 (bn ((xs * 3 + 33 - 33) * 12 + x27 : Int32).toNatClampNeg) xd hpre) k_Ju_weighPart i_Ju_weighPart e_Ju_weighPart o_Ju ml_Ju_139 hd_Ju_weighPart (Nat.le_trans (by omega) hRf) (Nat.le_trans (by omega) hRl) hRc (va_recv hK hP (q0 := 0) (ci := 0) rfl rfl) hK hP hD hS hA hX [0, 1, 2, 3, 4, 5, 6, 7, 8, 9, 10, 11, 12, 13, 14, 15, 16, 17, 18, 19, 20, 21, 22, 23] [] rfl rfl rfl (by decide) (by decide) (by decide) hl.1 rfl (Nat.le_of_ble_eq_true rfl) d_Ju_weighMembers_68 (fun u H locs hu hP hD hS => ?_)
            obtain ⟨f39, f40, f41, u42⟩ := u
            have vc := vc f39 f40 f41 u42 hu
            clear hu
            have hP : va_P D vwCl (wJ a cI cJ f39 f40 f41 u42 ++ wV a cI cJ ki co pr pa tw nv sv ++ wS a cI ru le li bn ip aw ns ++ wL a ++ wP a cI cZ pn pl po pf pt) H := hP
            have hD : va_D A (wJ a cI cJ f39 f40 f41 u42 ++ wV a cI cJ ki co pr pa tw nv sv ++ wS a cI ru le li bn ip aw ns ++ wL a ++ wP a cI cZ pn pl po pf pt) := hD
            refine lv_goto (tgt := 93) hx hb d_Ju_weighMembers_71 (by decide) ?_
            exact jJ33 f39 f40 f41 u42 ls H locs vc (lv_sub hl [1, 2, 3, 4, 5, 6, 0] rfl) hP hD hS
        · have vc := vc.2 h
          refine lv_goto (tgt := 177) hx hb d_Ju_weighMembers_35 (by decide) ?_
          refine lv_iinc (k := 5) (v := x27 + 1) hx hb d_Ju_weighMembers_177 hl rfl rfl (by decide) (lv' := [(5, .int (x27 + 1)), (0, .ref (a 20)), (1, .int xs), (2, .int xv), (3, .int xd), (4, .int (ru (xs * 29 + 26 : Int32).toNatClampNeg))]) rfl (fun ls hl => ?_)
          refine lv_goto (tgt := 15) hx hb d_Ju_weighMembers_180 (by decide) ?_
          exact ihI32 (x27 + 1) f28 f29 f30 u31 ls H locs vc.1 (Nat.lt_of_lt_of_le vc.2 (Nat.le_of_lt_succ hmI32)) (lv_sub hl [1, 2, 3, 4, 5, 0] rfl) hP hD hS
  exact lI32 _ 0 ch ma br tl ls H locs vc0 (Nat.lt_succ_self _) (lv_sub hl [2, 3, 4, 5, 1, 0] rfl) hP hD hS
set_option maxHeartbeats 4000000 in
theorem v_Ju_weighMembers (z : Nat) (ch : Nat → Int32) (ma : Nat → Int32) (br : Nat → Int64) (tl : Int32) (ki : Nat → Int32) (co : Nat → Int64) (pr : Nat → Int32) (pa : Nat → Int32) (tw : Nat → Int32) (nv : Int32) (sv : Int32) (ru : Nat → Int32) (le : Nat → Int32) (li : Nat → Int32) (bn : Nat → Int32) (ip : Nat → Int32) (aw : Nat → Int32) (ns : Int32) (pn : Nat → Int32) (pl : Nat → Int32) (po : Nat → Int32) (pf : Nat → Int32) (pt : Nat → Int32) (xs : Int32) (xv : Int32) (xd : Int32) (hpre : (∃ n0 m0 s0 v0 d0 : Nat, JP ki co pr pa pn po ru le li bn nv ns tl z xs xv xd n0 m0 s0 v0 d0 ∧ ki v0 = 5)) : V_Ju_weighMembers z ch ma br tl ki co pr pa tw nv sv ru le li bn ip aw ns pn pl po pf pt xs xv xd (fun ch' ma' br' tl' ki' co' pr' pa' tw' nv' sv' ru' le' li' bn' ip' aw' ns' pn' pl' po' pf' pt' => (((tl' = 0 ∨ tl' = 1) ∧ (tl = 1 → tl' = 1) ∧ ∀ (G : Sp) (R : Nat → Nat → Prop) (lv : Nat → Nat), (∃ va mk, G = gC ki co pr pa tw pn pl po pf pt ru le li bn nv.toNatClampNeg va mk) → Ctx G R lv → Ef G R lv xs.toNatClampNeg xv.toNatClampNeg xd.toNatClampNeg (AskMe G xs.toNatClampNeg xv.toNatClampNeg) (BadMe G xs.toNatClampNeg xv.toNatClampNeg) (MrkMe G xs.toNatClampNeg xv.toNatClampNeg) True ch ma br tl ch' ma' br' tl')) ∧ ki' = ki ∧ co' = co ∧ pr' = pr ∧ pa' = pa ∧ tw' = tw ∧ nv' = nv ∧ sv' = sv ∧ ru' = ru ∧ le' = le ∧ li' = li ∧ bn' = bn ∧ ip' = ip ∧ aw' = aw ∧ ns' = ns ∧ pn' = pn ∧ pl' = pl ∧ po' = po ∧ pf' = pf ∧ pt' = pt) := by
  have main : ∀ post : (Nat → Int32) → (Nat → Int32) → (Nat → Int64) → Int32 → (Nat → Int32) → (Nat → Int64) → (Nat → Int32) → (Nat → Int32) → (Nat → Int32) → Int32 → Int32 → (Nat → Int32) → (Nat → Int32) → (Nat → Int32) → (Nat → Int32) → (Nat → Int32) → (Nat → Int32) → Int32 → (Nat → Int32) → (Nat → Int32) → (Nat → Int32) → (Nat → Int32) → (Nat → Int32) → Prop, (∀ ch' ma' br' tl' ki' co' pr' pa' tw' nv' sv' ru' le' li' bn' ip' aw' ns' pn' pl' po' pf' pt', (fun ch' ma' br' tl' ki' co' pr' pa' tw' nv' sv' ru' le' li' bn' ip' aw' ns' pn' pl' po' pf' pt' => (((tl' = 0 ∨ tl' = 1) ∧ (tl = 1 → tl' = 1) ∧ ∀ (G : Sp) (R : Nat → Nat → Prop) (lv : Nat → Nat), (∃ va mk, G = gC ki co pr pa tw pn pl po pf pt ru le li bn nv.toNatClampNeg va mk) → Ctx G R lv → Ef G R lv xs.toNatClampNeg xv.toNatClampNeg xd.toNatClampNeg (AskMe G xs.toNatClampNeg xv.toNatClampNeg) (BadMe G xs.toNatClampNeg xv.toNatClampNeg) (MrkMe G xs.toNatClampNeg xv.toNatClampNeg) True ch ma br tl ch' ma' br' tl')) ∧ ki' = ki ∧ co' = co ∧ pr' = pr ∧ pa' = pa ∧ tw' = tw ∧ nv' = nv ∧ sv' = sv ∧ ru' = ru ∧ le' = le ∧ li' = li ∧ bn' = bn ∧ ip' = ip ∧ aw' = aw ∧ ns' = ns ∧ pn' = pn ∧ pl' = pl ∧ po' = po ∧ pf' = pf ∧ pt' = pt) ch' ma' br' tl' ki' co' pr' pa' tw' nv' sv' ru' le' li' bn' ip' aw' ns' pn' pl' po' pf' pt' → post ch' ma' br' tl' ki' co' pr' pa' tw' nv' sv' ru' le' li' bn' ip' aw' ns' pn' pl' po' pf' pt') → V_Ju_weighMembers z ch ma br tl ki co pr pa tw nv sv ru le li bn ip aw ns pn pl po pf pt xs xv xd post := by
    intro post hpost
    unfold V_Ju_weighMembers
    obtain ⟨n0, m0, s0, v0, d0, hJ, hk5⟩ := hpre
    have hJ0 := hJ
    obtain ⟨hs24, hv40, hm, hn⟩ := JP_s hJ
    obtain ⟨hnv, hns, hS, htl, rfl, rfl, rfl, hsm, hvn, hd1, hd30, hfuel⟩ := hJ
    have hPv : vp_in (nI (v0 * 24 + s0)) 960 := vp_in_nI (by omega) (by decide)
    have cs : (nI s0).toNatClampNeg = s0 := nI_clamp (by omega)
    have cv : (nI v0).toNatClampNeg = v0 := nI_clamp (by omega)
    have cd : (nI d0).toNatClampNeg = d0 := nI_clamp (by omega)
    have cP : (nI (v0 * 24 + s0)).toNatClampNeg = v0 * 24 + s0 := nI_clamp (by omega)
    have cn : nv.toNatClampNeg = n0 := by rw [hnv]; exact nI_clamp (by omega)
    have e26 : nI s0 * 29 + 26 = nI (s0 * 29 + 26) := ix29 (k := 26)
    have c26 : (nI (s0 * 29 + 26)).toNatClampNeg = s0 * 29 + 26 := nI_clamp (by omega)
    simp only [px24, e26, c26, cP, cs, cv, cd, cn] at hpost ⊢
    have hpb : ∀ G, (∃ va mk, G = gC ki co pr pa tw pn pl po pf pt ru le li bn n0 va mk) → ∀ i, i < 12 → (gPb G v0 i ↔ bt (pr v0) i = true) := fun G hG i hi => by
      rw [(gC_eq hG).2.1]; exact ⟨fun q => q.1, fun q => ⟨q, hi, hv40, Or.inr hk5⟩⟩
    have hox := (hS.2.2.2.2.1 s0 hs24).1 26 (by omega) (by omega) (by omega) (by omega)
    have toAsk : ∀ G, (∃ va mk, G = gC ki co pr pa tw pn pl po pf pt ru le li bn n0 va mk) → ∀ x w, AskMe G s0 v0 x w → Ask G s0 v0 x w := fun G hG x w q => Or.inr (Or.inr ⟨by rw [(gC_eq hG).1]; exact hk5, Or.inl q⟩)
    refine ⟨vp_in_nI (by omega) (by decide), fun xj f g hh u => ∃ j, j ≤ 12 ∧ xj = nI j ∧ EG (fun G => ∃ va mk, G = gC ki co pr pa tw pn pl po pf pt ru le li bn n0 va mk) s0 v0 d0 (fun G x w => ∃ n, n < j ∧ gPb G v0 n ∧ (MeA1 G s0 v0 n x w ∨ MeA2 G s0 v0 n x w)) (fun G b => ∃ n, n < j ∧ gPb G v0 n ∧ ((MeB1 G s0 v0 n b ∨ MeB2 G s0 v0 n b) ∨ MeB3 G s0 v0 n b)) (fun G i => ∃ n, n < j ∧ gPb G v0 n ∧ (MeM1 G s0 v0 n i ∨ MeM2 G s0 v0 n i)) (fun _ => True) ch ma br tl f g hh u, fun xj _ _ _ _ => 12 - xj.toInt.toNat, ⟨0, Nat.zero_le _, rfl, EG.start htl (fun G _ => ⟨fun x w ⟨i, q, _⟩ => absurd q (Nat.not_lt_zero _), fun _ ⟨i, q, _⟩ => absurd q (Nat.not_lt_zero _), fun _ ⟨i, q, _⟩ => absurd q (Nat.not_lt_zero _), trivial⟩)⟩, ?_⟩
    rintro xj f g hh u ⟨j, hj, rfl, hI⟩
    refine ⟨fun h2 => ?_, fun h2 => ?_⟩
    · obtain rfl := fill_end (N := 12) h2 (by decide) hj
      exact (hpost _ _ _ _ _ _ _ _ _ _ _ _ _ _ _ _ _ _ _ _ _ _ _ ⟨hI.same (fun G hG _ => ⟨fun x w => AskMe_iff.symm, fun b => BadMe_iff.symm, fun m => MrkMe_iff.symm, trivial⟩), rfl, rfl, rfl, rfl, rfl, rfl, rfl, rfl, rfl, rfl, rfl, rfl, rfl, rfl, rfl, rfl, rfl, rfl, rfl⟩)
    have hj2 := fill_step (N := 12) h2 (by decide) hj
    have cj : (nI j).toNatClampNeg = j := nI_clamp (by omega)
    have mu := fill_mu (N := 12) hj2 (by decide)
    have e33 : (nI s0 * 3 + 33 - 33) * 12 + nI j = nI ((s0 * 3 + 0) * 12 + j) := ix36 (k := 0)
    have e34 : (nI s0 * 3 + 34 - 33) * 12 + nI j = nI ((s0 * 3 + 1) * 12 + j) := ix36 (k := 1)
    have e35 : (nI s0 * 3 + 35 - 33) * 12 + nI j = nI ((s0 * 3 + 2) * 12 + j) := ix36 (k := 2)
    have c33 : (nI ((s0 * 3 + 0) * 12 + j)).toNatClampNeg = (s0 * 3 + 0) * 12 + j := nI_clamp (by omega)
    have c34 : (nI ((s0 * 3 + 1) * 12 + j)).toNatClampNeg = (s0 * 3 + 1) * 12 + j := nI_clamp (by omega)
    have c35 : (nI ((s0 * 3 + 2) * 12 + j)).toNatClampNeg = (s0 * 3 + 2) * 12 + j := nI_clamp (by omega)
    rw [sBit_bt _ (by omega), e33, e34, e35, c33, c34, c35]
    have hbn : ∀ G, (∃ va mk, G = gC ki co pr pa tw pn pl po pf pt ru le li bn n0 va mk) → gBn G = bn := fun G hG => (gC_eq hG).2.2.2.2.2.2.1
    refine ⟨vp_in_nI hv40 (by decide), fun h3 => ?_, fun h3 => ⟨⟨j + 1, hj2, nI_1 j, hI.same (fun G hG _ => ?_)⟩, mu⟩⟩
    rotate_left
    · have hno : ¬ gPb G v0 j := fun q => by rw [hpb G hG j hj2, bI0.mp h3] at q; exact absurd q (by decide)
      exact ⟨fun x w => by rw [ex_succ]; exact ⟨Or.inl, fun q => q.elim id (fun q => absurd q.1 hno)⟩, fun b => by rw [ex_succ]; exact ⟨Or.inl, fun q => q.elim id (fun q => absurd q.1 hno)⟩, fun i => by rw [ex_succ]; exact ⟨Or.inl, fun q => q.elim id (fun q => absurd q.1 hno)⟩, trivial⟩
    have hbt : bt (pr v0) j = true := bI_ne.mp h3
    have hcb : cpb ki pr v0 j := ⟨hbt, hj2, hv40, Or.inr hk5⟩
    have hyes : ∀ G, (∃ va mk, G = gC ki co pr pa tw pn pl po pf pt ru le li bn n0 va mk) → gPb G v0 j := fun G hG => (hpb G hG j hj2).mpr hbt
    have ho0 := (hS.2.2.2.2.1 s0 hs24).2.2 0 j (by decide) hj2
    have ho1 := (hS.2.2.2.2.1 s0 hs24).2.2 1 j (by decide) hj2
    have ho2 := hS.2.2.2.2.2.2.1 s0 j hs24 hj2
    refine ⟨vp_in_nI (by omega) (by decide), fun f g hh u => EG (fun G => ∃ va mk, G = gC ki co pr pa tw pn pl po pf pt ru le li bn n0 va mk) s0 v0 d0 (fun G x w => (∃ n, n < j ∧ gPb G v0 n ∧ (MeA1 G s0 v0 n x w ∨ MeA2 G s0 v0 n x w)) ∨ MeA1 G s0 v0 j x w) (fun G b => (∃ n, n < j ∧ gPb G v0 n ∧ ((MeB1 G s0 v0 n b ∨ MeB2 G s0 v0 n b) ∨ MeB3 G s0 v0 n b)) ∨ MeB1 G s0 v0 j b) (fun G i => (∃ n, n < j ∧ gPb G v0 n ∧ (MeM1 G s0 v0 n i ∨ MeM2 G s0 v0 n i)) ∨ MeM1 G s0 v0 j i) (fun _ => True) ch ma br tl f g hh u, ⟨fun h4 => ⟨fun h5 => hI.same (fun G hG _ => ?_), fun h5 => ?_⟩, fun h4 => ?_⟩, ?_⟩
    · have n0' : ¬ nmH G s0 0 j := fun q => by unfold nmH at q; rw [hbn G hG, h4] at q; exact q neg1_lt
      have n26 : ¬ ruH G s0 26 := fun q => by unfold ruH at q; rw [(gC_eq hG).2.2.2.1, h5] at q; exact q neg1_lt
      exact ⟨fun x w => ⟨Or.inl, fun q => q.elim id (fun q => q.elim (fun q => absurd q.1 n0') (fun q => absurd q.2.1 n26))⟩, fun b => ⟨Or.inl, fun q => q.elim id (fun q => q.elim (fun q => absurd q.2.1 n0') (fun q => absurd q.2.2.1 n26))⟩, fun i => ⟨Or.inl, fun q => q.elim id (fun q => q.2.elim (fun q => absurd q n0') (fun q => absurd q n26))⟩, trivial⟩
    · obtain ⟨x0, hx, ex⟩ := hox.resolve_left h5
      have cx : (nI x0).toNatClampNeg = x0 := nI_clamp (by omega)
      rw [ex, cx, cj, show ((26 : Int32).toNatClampNeg) = 26 from rfl]
      have hrV : ∀ G, (∃ va mk, G = gC ki co pr pa tw pn pl po pf pt ru le li bn n0 va mk) → ruV G s0 26 = x0 := fun G hG => by unfold ruV; rw [(gC_eq hG).2.2.2.1, ex, cx]
      have hrH : ∀ G, (∃ va mk, G = gC ki co pr pa tw pn pl po pf pt ru le li bn n0 va mk) → ruH G s0 26 := fun G hG => by unfold ruH; rw [(gC_eq hG).2.2.2.1, ex]; exact nI_pos (by omega)
      have n0' : ∀ G, (∃ va mk, G = gC ki co pr pa tw pn pl po pf pt ru le li bn n0 va mk) → ¬ nmH G s0 0 j := fun G hG q => by unfold nmH at q; rw [hbn G hG, h4] at q; exact q neg1_lt
      have hA1 : ∀ G, (∃ va mk, G = gC ki co pr pa tw pn pl po pf pt ru le li bn n0 va mk) → ∀ x w, MeA1 G s0 v0 j x w ↔ (x = x0 ∧ w = gPt G v0 j) := fun G hG x w => by
        unfold MeA1; rw [hrV G hG]
        exact ⟨fun q => q.elim (fun q => absurd q.1 (n0' G hG)) (fun q => ⟨q.2.2.1, q.2.2.2⟩), fun q => Or.inr ⟨n0' G hG, hrH G hG, q.1, q.2⟩⟩
      refine ⟨⟨n0, m0, s0, v0, d0, hJ0.re hI.1, ⟨j, hcb, rfl⟩, ⟨26, by decide, rfl⟩, x0, hx, rfl⟩, fun f1 g1 h1 u1 hp => ?_⟩
      refine hI.next hp.1 hp.2.1 (fun G R lv hG hC _ => hp.2.2 G R lv hG hC (toAsk G hG _ _ (AskMe_iff.mpr ⟨j, hj2, hyes G hG, Or.inl ((hA1 G hG _ _).mpr ⟨rfl, rfl⟩)⟩))) (fun G hG _ _ => ⟨fun x w => or_congr_right (hA1 G hG x w).symm, fun b => or_congr_right ?_, fun m => or_congr_right ?_, trivial⟩)
      · unfold MeB1; rw [hrV G hG]
        exact ⟨fun q => Or.inr ⟨q.1, n0' G hG, hrH G hG, q.2⟩, fun q => q.elim (fun q => absurd q.2.1 (n0' G hG)) (fun q => ⟨q.1, q.2.2.2⟩)⟩
      · unfold MeM1
        exact ⟨fun q => ⟨q, Or.inr (hrH G hG)⟩, fun q => q.1⟩
    · obtain ⟨x0, hx, ex⟩ := ho0.resolve_left h4
      have cx : (nI x0).toNatClampNeg = x0 := nI_clamp (by omega)
      rw [ex, cx, cj, show ((33 : Int32).toNatClampNeg) = 33 from rfl]
      have hrV : ∀ G, (∃ va mk, G = gC ki co pr pa tw pn pl po pf pt ru le li bn n0 va mk) → nmV G s0 0 j = x0 := fun G hG => by unfold nmV; rw [hbn G hG, ex, cx]
      have hrH : ∀ G, (∃ va mk, G = gC ki co pr pa tw pn pl po pf pt ru le li bn n0 va mk) → nmH G s0 0 j := fun G hG => by unfold nmH; rw [hbn G hG, ex]; exact nI_pos (by omega)
      have hA1 : ∀ G, (∃ va mk, G = gC ki co pr pa tw pn pl po pf pt ru le li bn n0 va mk) → ∀ x w, MeA1 G s0 v0 j x w ↔ (x = x0 ∧ w = gPt G v0 j) := fun G hG x w => by
        unfold MeA1; rw [hrV G hG]
        exact ⟨fun q => q.elim (fun q => q.2) (fun q => absurd (hrH G hG) q.1), fun q => Or.inl ⟨hrH G hG, q.1, q.2⟩⟩
      refine ⟨⟨n0, m0, s0, v0, d0, hJ0.re hI.1, ⟨j, hcb, rfl⟩, ⟨33, by decide, rfl⟩, x0, hx, rfl⟩, fun f1 g1 h1 u1 hp => ?_⟩
      refine hI.next hp.1 hp.2.1 (fun G R lv hG hC _ => hp.2.2 G R lv hG hC (toAsk G hG _ _ (AskMe_iff.mpr ⟨j, hj2, hyes G hG, Or.inl ((hA1 G hG _ _).mpr ⟨rfl, rfl⟩)⟩))) (fun G hG _ _ => ⟨fun x w => or_congr_right (hA1 G hG x w).symm, fun b => or_congr_right ?_, fun m => or_congr_right ?_, trivial⟩)
      · unfold MeB1; rw [hrV G hG]
        exact ⟨fun q => Or.inl ⟨q.1, hrH G hG, q.2⟩, fun q => q.elim (fun q => ⟨q.1, q.2.2⟩) (fun q => absurd (hrH G hG) q.2.1)⟩
      · unfold MeM1
        exact ⟨fun q => ⟨q, Or.inl (hrH G hG)⟩, fun q => q.1⟩
    clear hI
    intro f g hh u hI
    refine ⟨vp_in_nI (by omega) (by decide), fun f g hh u => EG (fun G => ∃ va mk, G = gC ki co pr pa tw pn pl po pf pt ru le li bn n0 va mk) s0 v0 d0 (fun G x w => ((∃ n, n < j ∧ gPb G v0 n ∧ (MeA1 G s0 v0 n x w ∨ MeA2 G s0 v0 n x w)) ∨ MeA1 G s0 v0 j x w) ∨ MeA2 G s0 v0 j x w) (fun G b => ((∃ n, n < j ∧ gPb G v0 n ∧ ((MeB1 G s0 v0 n b ∨ MeB2 G s0 v0 n b) ∨ MeB3 G s0 v0 n b)) ∨ MeB1 G s0 v0 j b) ∨ MeB2 G s0 v0 j b) (fun G i => ((∃ n, n < j ∧ gPb G v0 n ∧ (MeM1 G s0 v0 n i ∨ MeM2 G s0 v0 n i)) ∨ MeM1 G s0 v0 j i) ∨ MeM2 G s0 v0 j i) (fun _ => True) ch ma br tl f g hh u, ⟨fun h4 => hI.same (fun G hG _ => ?_), fun h4 => ?_⟩, ?_⟩
    · have n1' : ¬ nmH G s0 1 j := fun q => by unfold nmH at q; rw [hbn G hG, h4] at q; exact q neg1_lt
      exact ⟨fun x w => ⟨Or.inl, fun q => q.elim id (fun q => absurd q.1 n1')⟩, fun b => ⟨Or.inl, fun q => q.elim id (fun q => absurd q.2.1 n1')⟩, fun i => ⟨Or.inl, fun q => q.elim id (fun q => absurd q.1 n1')⟩, trivial⟩
    · obtain ⟨x0, hx, ex⟩ := ho1.resolve_left h4
      have cx : (nI x0).toNatClampNeg = x0 := nI_clamp (by omega)
      rw [ex, cx]
      have hrV : ∀ G, (∃ va mk, G = gC ki co pr pa tw pn pl po pf pt ru le li bn n0 va mk) → nmV G s0 1 j = x0 := fun G hG => by unfold nmV; rw [hbn G hG, ex, cx]
      have hrH : ∀ G, (∃ va mk, G = gC ki co pr pa tw pn pl po pf pt ru le li bn n0 va mk) → nmH G s0 1 j := fun G hG => by unfold nmH; rw [hbn G hG, ex]; exact nI_pos (by omega)
      have hA2 : ∀ G, (∃ va mk, G = gC ki co pr pa tw pn pl po pf pt ru le li bn n0 va mk) → ∀ x w, MeA2 G s0 v0 j x w ↔ (x = x0 ∧ w = v0) := fun G hG x w => by
        unfold MeA2; rw [hrV G hG]; exact ⟨fun q => q.2, fun q => ⟨hrH G hG, q⟩⟩
      have hM2 : ∀ G, (∃ va mk, G = gC ki co pr pa tw pn pl po pf pt ru le li bn n0 va mk) → ∀ i, MeM2 G s0 v0 j i ↔ gMk G x0 v0 i := fun G hG i => by
        unfold MeM2; rw [hrV G hG]; exact ⟨fun q => q.2, fun q => ⟨hrH G hG, q⟩⟩
      refine ⟨⟨n0, m0, s0, v0, d0, hJ0.re hI.1, x0, hx, rfl⟩, fun t f1 g1 h1 u1 hp => ?_⟩
      have hq : EG (fun G => ∃ va mk, G = gC ki co pr pa tw pn pl po pf pt ru le li bn n0 va mk) s0 v0 d0 (fun G x w => ((∃ n, n < j ∧ gPb G v0 n ∧ (MeA1 G s0 v0 n x w ∨ MeA2 G s0 v0 n x w)) ∨ MeA1 G s0 v0 j x w) ∨ MeA2 G s0 v0 j x w) (fun G b => (∃ n, n < j ∧ gPb G v0 n ∧ ((MeB1 G s0 v0 n b ∨ MeB2 G s0 v0 n b) ∨ MeB3 G s0 v0 n b)) ∨ MeB1 G s0 v0 j b) (fun G i => ((∃ n, n < j ∧ gPb G v0 n ∧ (MeM1 G s0 v0 n i ∨ MeM2 G s0 v0 n i)) ∨ MeM1 G s0 v0 j i) ∨ MeM2 G s0 v0 j i) (fun G => t = true ↔ gVa G x0 v0) ch ma br tl f1 g1 h1 u1 :=
        hI.next hp.1 hp.2.1 (fun G R lv hG hC _ => hp.2.2 G R lv hG hC (toAsk G hG _ _ (AskMe_iff.mpr ⟨j, hj2, hyes G hG, Or.inr ((hA2 G hG _ _).mpr ⟨rfl, rfl⟩)⟩))) (fun G hG _ hz => ⟨fun x w => or_congr_right (hA2 G hG x w).symm, fun b => ⟨fun q => q.elim id False.elim, Or.inl⟩, fun m => or_congr_right (hM2 G hG m).symm, hz⟩)
      refine ⟨fun h5 => hq.same (fun G hG hz => ⟨fun _ _ => Iff.rfl, fun b => ⟨Or.inl, fun q => q.elim id (fun q => ?_)⟩, fun _ => Iff.rfl, trivial⟩), fun h5 => ⟨hPv, hq.fail (k := 34) hs24 (by decide) (fun G hG hz => ⟨fun _ _ => Iff.rfl, fun b => or_congr_right ?_, fun _ => Iff.rfl, trivial⟩)⟩⟩
      · have := q.2.2; rw [hrV G hG] at this; exact absurd (hz.mp (bI_ne.mp h5)) this
      · unfold MeB2; rw [hrV G hG]
        exact ⟨fun q => ⟨q, hrH G hG, fun z => by have := hz.mpr z; rw [bI0.mp h5] at this; exact absurd this (by decide)⟩, fun q => q.1⟩
    clear hI
    intro f g hh u hI
    have finA : ∀ G, (∃ va mk, G = gC ki co pr pa tw pn pl po pf pt ru le li bn n0 va mk) → ∀ x w, (((∃ n, n < j ∧ gPb G v0 n ∧ (MeA1 G s0 v0 n x w ∨ MeA2 G s0 v0 n x w)) ∨ MeA1 G s0 v0 j x w) ∨ MeA2 G s0 v0 j x w) ↔ ∃ n, n < j + 1 ∧ gPb G v0 n ∧ (MeA1 G s0 v0 n x w ∨ MeA2 G s0 v0 n x w) := fun G hG x w => by
      rw [ex_succ, or_assoc]; exact or_congr_right ⟨fun q => ⟨hyes G hG, q⟩, fun q => q.2⟩
    have finM : ∀ G, (∃ va mk, G = gC ki co pr pa tw pn pl po pf pt ru le li bn n0 va mk) → ∀ i, (((∃ n, n < j ∧ gPb G v0 n ∧ (MeM1 G s0 v0 n i ∨ MeM2 G s0 v0 n i)) ∨ MeM1 G s0 v0 j i) ∨ MeM2 G s0 v0 j i) ↔ ∃ n, n < j + 1 ∧ gPb G v0 n ∧ (MeM1 G s0 v0 n i ∨ MeM2 G s0 v0 n i) := fun G hG i => by
      rw [ex_succ, or_assoc]; exact or_congr_right ⟨fun q => ⟨hyes G hG, q⟩, fun q => q.2⟩
    have finB : ∀ G, (∃ va mk, G = gC ki co pr pa tw pn pl po pf pt ru le li bn n0 va mk) → ∀ b, ((((∃ n, n < j ∧ gPb G v0 n ∧ ((MeB1 G s0 v0 n b ∨ MeB2 G s0 v0 n b) ∨ MeB3 G s0 v0 n b)) ∨ MeB1 G s0 v0 j b) ∨ MeB2 G s0 v0 j b) ∨ MeB3 G s0 v0 j b) ↔ ∃ n, n < j + 1 ∧ gPb G v0 n ∧ ((MeB1 G s0 v0 n b ∨ MeB2 G s0 v0 n b) ∨ MeB3 G s0 v0 n b) := fun G hG b => by
      rw [ex_succ, or_assoc, or_assoc, ← or_assoc (a := MeB1 G s0 v0 j b)]; exact or_congr_right ⟨fun q => ⟨hyes G hG, q⟩, fun q => q.2⟩
    refine ⟨vp_in_nI (by omega) (by decide), fun h4 => ⟨⟨j + 1, hj2, nI_1 j, hI.same (fun G hG _ => ⟨finA G hG, fun b => ?_, finM G hG, trivial⟩)⟩, mu⟩, fun h4 => ?_⟩
    · have n2' : ¬ nmH G s0 2 j := fun q => by unfold nmH at q; rw [hbn G hG, h4] at q; exact q neg1_lt
      rw [← finB G hG b]; exact ⟨Or.inl, fun q => q.elim id (fun q => absurd q.2.1 n2')⟩
    · obtain ⟨q0, hq4, eq0⟩ := ho2.resolve_left h4
      have hrq : (bn ((s0 * 3 + 2) * 12 + j) &&& (pr v0 ^^^ (-1))) = 0 ↔ ∀ i, i < 12 → bt (bn ((s0 * 3 + 2) * 12 + j)) i = true → bt (pr v0) i = true := by rw [eq0]; exact req_iff hq4 _
      have hrH : ∀ G, (∃ va mk, G = gC ki co pr pa tw pn pl po pf pt ru le li bn n0 va mk) → nmH G s0 2 j := fun G hG => by unfold nmH; rw [hbn G hG, eq0]; exact nI_pos (by omega)
      refine ⟨vp_in_nI hv40 (by decide), fun h5 => ⟨⟨j + 1, hj2, nI_1 j, hI.same (fun G hG _ => ⟨finA G hG, fun b => ?_, finM G hG, trivial⟩)⟩, mu⟩, fun h5 => ⟨hPv, ⟨j + 1, hj2, nI_1 j, hI.fail (k := 35) hs24 (by decide) (fun G hG _ => ⟨finA G hG, fun b => ?_, finM G hG, trivial⟩)⟩, mu⟩⟩
      · rw [← finB G hG b]
        refine ⟨Or.inl, fun q => q.elim id (fun q => ?_)⟩
        obtain ⟨_, _, i, q1, q2, q3⟩ := q
        rw [hbn G hG] at q2
        exact absurd ((hpb G hG i q1).mpr (hrq.mp h5 i q1 q2)) q3
      · rw [← finB G hG b]
        refine or_congr_right ⟨fun q => ⟨q, hrH G hG, ?_⟩, fun q => q.1⟩
        apply Classical.byContradiction
        intro z
        refine h5 (hrq.mpr (fun i q1 q2 => ?_))
        apply Classical.byContradiction
        intro y
        exact z ⟨i, q1, by rw [hbn G hG]; exact q2, fun w => y ((hpb G hG i q1).mp w)⟩
  exact main _ (fun _ _ _ _ _ _ _ _ _ _ _ _ _ _ _ _ _ _ _ _ _ _ _ h => h)
theorem c_Ju_weighMembers (l : Launch) (D : va_G) (a : Nat → Nat) (cI cJ cZ : ClassId) (z : Nat) (HW : WQ l D a cI cJ cZ z) (ch : Nat → Int32) (ma : Nat → Int32) (br : Nat → Int64) (tl : Int32) (ki : Nat → Int32) (co : Nat → Int64) (pr : Nat → Int32) (pa : Nat → Int32) (tw : Nat → Int32) (nv : Int32) (sv : Int32) (ru : Nat → Int32) (le : Nat → Int32) (li : Nat → Int32) (bn : Nat → Int32) (ip : Nat → Int32) (aw : Nat → Int32) (ns : Int32) (pn : Nat → Int32) (pl : Nat → Int32) (po : Nat → Int32) (pf : Nat → Int32) (pt : Nat → Int32) (xs : Int32) (xv : Int32) (xd : Int32) (hpre : (∃ n0 m0 s0 v0 d0 : Nat, JP ki co pr pa pn po ru le li bn nv ns tl z xs xv xd n0 m0 s0 v0 d0 ∧ ki v0 = 5)) : Em (S := (Nat → Int32) × (Nat → Int32) × (Nat → Int64) × Int32) l y_Ju_weighMembers b_Ju_weighMembers 9 none (5 * z + 12) (200 * z + 150) [.ref (a 20), .int xs, .int xv, .int xd] D (tyA cI cJ cZ) (wJ a cI cJ ch ma br tl ++ wV a cI cJ ki co pr pa tw nv sv ++ wS a cI ru le li bn ip aw ns ++ wL a ++ wP a cI cZ pn pl po pf pt) (fun uu => ((uu.2.2.2 = 0 ∨ uu.2.2.2 = 1) ∧ (tl = 1 → uu.2.2.2 = 1) ∧ ∀ (G : Sp) (R : Nat → Nat → Prop) (lv : Nat → Nat), (∃ va mk, G = gC ki co pr pa tw pn pl po pf pt ru le li bn nv.toNatClampNeg va mk) → Ctx G R lv → Ef G R lv xs.toNatClampNeg xv.toNatClampNeg xd.toNatClampNeg (AskMe G xs.toNatClampNeg xv.toNatClampNeg) (BadMe G xs.toNatClampNeg xv.toNatClampNeg) (MrkMe G xs.toNatClampNeg xv.toNatClampNeg) True ch ma br tl uu.1 uu.2.1 uu.2.2.1 uu.2.2.2)) (fun uu => none) (fun uu => (wJ a cI cJ uu.1 uu.2.1 uu.2.2.1 uu.2.2.2 ++ wV a cI cJ ki co pr pa tw nv sv ++ wS a cI ru le li bn ip aw ns ++ wL a ++ wP a cI cZ pn pl po pf pt)) :=
  em_v (by decide) (Nat.le_of_ble_eq_true rfl) (fun p e s m below meth c ls Q A S hK hP hD hA hS hX hl hret => g_Ju_weighMembers S (Nat.le_refl _) (Nat.le_refl _) ⟨Nat.le_refl _, Nat.le_refl _⟩ D a cI cJ cZ HW ch ma br tl ki co pr pa tw nv sv ru le li bn ip aw ns pn pl po pf pt xs xv xd hK hP hD hA hS hX hl (v_Ju_weighMembers z ch ma br tl ki co pr pa tw nv sv ru le li bn ip aw ns pn pl po pf pt xs xv xd hpre) (fun ch' ma' br' tl' ki' co' pr' pa' tw' nv' sv' ru' le' li' bn' ip' aw' ns' pn' pl' po' pf' pt' ls1 pc H1 locs1 hd hv hP1 hD1 hS1 => by obtain ⟨hp, rfl, rfl, rfl, rfl, rfl, rfl, rfl, rfl, rfl, rfl, rfl, rfl, rfl, rfl, rfl, rfl, rfl, rfl, rfl⟩ := hv; exact hret (ch', ma', br', tl') ls1 pc H1 locs1 hd hp hP1 hD1 hS1))
theorem hd_Ju_weighMembers : y_Ju_weighMembers.cls ≠ "java/lang/invoke/MethodHandle" ∧ y_Ju_weighMembers.cls ≠ "java/lang/invoke/VarHandle" ∧ (parseMethodDescriptor y_Ju_weighMembers.desc).map (fun d => d.parameters.length) = some 3 := ⟨by decide, by decide, by decide +kernel⟩
