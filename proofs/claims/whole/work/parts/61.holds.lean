theorem plS_off {ki : Nat → Int32} {co : Nat → Int64} {pb : Nat → Nat → Prop} {pt : Nat → Nat → Nat} {tw pn pl po pf pe : Nat → Int32} {v : Nat} {x : Int32} : ∀ k, k < 17 → ¬ spk k = -1 → ¬ spk k = ki v → plS ki co pb pt tw pn pl po pf pe k v x := by
  intro k hk h1 h2
  have h2' : ¬ ki v = spk k := fun e => h2 e.symm
  have : k = 0 ∨ k = 1 ∨ k = 2 ∨ k = 3 ∨ k = 4 ∨ k = 5 ∨ k = 6 ∨ k = 7 ∨ k = 8 ∨ k = 9 ∨ k = 10 ∨ k = 11 ∨ k = 12 ∨ k = 13 ∨ k = 14 ∨ k = 15 ∨ k = 16 := by omega
  rcases this with rfl | rfl | rfl | rfl | rfl | rfl | rfl | rfl | rfl | rfl | rfl | rfl | rfl | rfl | rfl | rfl | rfl <;> simp [spk] at h1 h2' <;> simp [plS, h2']
theorem b_64 : ∀ i, i < 32 → bt 64 i = decide (i = 6) := by decide +kernel
theorem kb_iff {kd : Nat} (hkd : kd < 6) (y : Int32) (c : Prop) [Decidable c] : ¬ (if c then (1 <<< (nI kd &&& 31)) ||| 64 else (1 <<< (nI kd &&& 31))) &&& y = 0 ↔ bt y kd = true ∨ (bt y 6 = true ∧ c) := by
  rw [b_nz]
  have hb : ∀ i, i < 32 → (bt (if c then ((1 : Int32) <<< (nI kd &&& 31)) ||| 64 else (1 <<< (nI kd &&& 31))) i = true ↔ i = kd ∨ (c ∧ i = 6)) := fun i hi => by
    by_cases h : c
    · rw [if_pos h, b_or, b_shl1 (by omega), b_64 i hi, Bool.or_eq_true, decide_eq_true_eq, decide_eq_true_eq]; simp [h]
    · rw [if_neg h, b_shl1 (by omega), decide_eq_true_eq]; simp [h]
  constructor
  · rintro ⟨i, hi, h⟩
    rw [b_and, Bool.and_eq_true, hb i hi] at h
    rcases h with ⟨h1 | ⟨h1, h2⟩, h3⟩
    · subst h1; exact Or.inl h3
    · subst h2; exact Or.inr ⟨h3, h1⟩
  · rintro (h | ⟨h1, h2⟩)
    · exact ⟨kd, by omega, by rw [b_and, h, Bool.and_true]; exact (hb kd (by omega)).mpr (Or.inl rfl)⟩
    · exact ⟨6, by omega, by rw [b_and, h1, Bool.and_true]; exact (hb 6 (by omega)).mpr (Or.inr ⟨h2, rfl⟩)⟩
theorem i64_32 {t : Nat} (h : t < 2 ^ 31) : ((nI t).toInt64).toInt32 = nI t := by simp
theorem req_iff {q : Nat} (hq : q < 4096) (p : Int32) : nI q &&& (p ^^^ (-1)) = 0 ↔ ∀ i, i < 12 → bt (nI q) i = true → bt p i = true := by
  have h := b_nz (x := nI q &&& (p ^^^ (-1)))
  constructor
  · intro e i hi hb
    cases hp : bt p i
    · exfalso
      refine h.mpr ⟨i, by omega, ?_⟩ e
      rw [b_and, b_inv _ (by omega), hb, hp]; rfl
    · rfl
  · intro k
    apply Classical.byContradiction
    intro e
    obtain ⟨i, hi, hb⟩ := h.mp e
    rw [b_and, b_inv _ hi, Bool.and_eq_true] at hb
    have h12 : i < 12 := by
      rcases Nat.lt_or_ge i 12 with w | w
      · exact w
      · rw [b_hi ⟨q, hq, rfl⟩ w] at hb; exact absurd hb.1 (by decide)
    rw [k i h12 hb.1] at hb; exact absurd hb.2 (by decide)
def V_Pl_holds (ki : Nat → Int32) (co : Nat → Int64) (pr : Nat → Int32) (pa : Nat → Int32) (tw : Nat → Int32) (nv : Int32) (sv : Int32) (pn : Nat → Int32) (pl : Nat → Int32) (po : Nat → Int32) (pf : Nat → Int32) (pt : Nat → Int32) (x : Int32) (y : Int32) (w : Int32) (post : Int32 → (Nat → Int32) → (Nat → Int64) → (Nat → Int32) → (Nat → Int32) → (Nat → Int32) → Int32 → Int32 → (Nat → Int32) → (Nat → Int32) → (Nat → Int32) → (Nat → Int32) → (Nat → Int32) → Prop) : Prop :=
  (vp_in x 17 ∧ (∃ J1 : Prop, (((spk x.toNatClampNeg) = (-1) → J1) ∧ (¬ (spk x.toNatClampNeg) = (-1) → (vp_in w 40 ∧ (((spk x.toNatClampNeg) = (ki w.toNatClampNeg) → J1) ∧ (¬ (spk x.toNatClampNeg) = (ki w.toNatClampNeg) → post 1 ki co pr pa tw nv sv pn pl po pf pt))))) ∧ (J1 → (((x = 0) → (vp_in w 40 ∧ ((((if ki w.toNatClampNeg = 2 ∧ 0 < (1000 : Int64) ∧ co w.toNatClampNeg - co w.toNatClampNeg / 1000 * 1000 = 0 then (1 <<< (ki w.toNatClampNeg &&& 31)) ||| 64 else (1 <<< (ki w.toNatClampNeg &&& 31))) &&& y) = 0 → post 0 ki co pr pa tw nv sv pn pl po pf pt) ∧ (¬ ((if ki w.toNatClampNeg = 2 ∧ 0 < (1000 : Int64) ∧ co w.toNatClampNeg - co w.toNatClampNeg / 1000 * 1000 = 0 then (1 <<< (ki w.toNatClampNeg &&& 31)) ||| 64 else (1 <<< (ki w.toNatClampNeg &&& 31))) &&& y) = 0 → post 1 ki co pr pa tw nv sv pn pl po pf pt)))) ∧ ((x = 1) → ((vp_in w 40 ∧ vp_in y 40) ∧ post (bI (decide (tw w.toNatClampNeg = tw y.toNatClampNeg))) ki co pr pa tw nv sv pn pl po pf pt)) ∧ ((x = 2) → ((vp_in y 40 ∧ vp_in w 40 ∧ ∀ j : Nat, j < 480 → vp_in (pa j) 40) ∧ post (bI ((List.range 8).any (fun i => bt (pr y.toNatClampNeg) i && decide (tw (pa (y.toNatClampNeg * 12 + i)).toNatClampNeg = tw w.toNatClampNeg)))) ki co pr pa tw nv sv pn pl po pf pt)) ∧ ((x = 3) → (vp_in w 40 ∧ (vp_in y 40 ∧ (((lg_cmp (co w.toNatClampNeg) (co y.toNatClampNeg)) < 0 → post 0 ki co pr pa tw nv sv pn pl po pf pt) ∧ (¬ (lg_cmp (co w.toNatClampNeg) (co y.toNatClampNeg)) < 0 → post 1 ki co pr pa tw nv sv pn pl po pf pt))))) ∧ ((x = 4) → (vp_in w 40 ∧ (vp_in y 40 ∧ ((0 < (lg_cmp (co w.toNatClampNeg) (co y.toNatClampNeg)) → post 0 ki co pr pa tw nv sv pn pl po pf pt) ∧ (¬ 0 < (lg_cmp (co w.toNatClampNeg) (co y.toNatClampNeg)) → post 1 ki co pr pa tw nv sv pn pl po pf pt))))) ∧ ((x = 5) → (vp_in w 40 ∧ (vp_in y 40 ∧ (((lg_cmp (co w.toNatClampNeg) (co y.toNatClampNeg)) ≤ 0 → post 0 ki co pr pa tw nv sv pn pl po pf pt) ∧ (¬ (lg_cmp (co w.toNatClampNeg) (co y.toNatClampNeg)) ≤ 0 → post 1 ki co pr pa tw nv sv pn pl po pf pt))))) ∧ ((x = 6) → (vp_in w 40 ∧ (vp_in y 40 ∧ ((0 ≤ (lg_cmp (co w.toNatClampNeg) (co y.toNatClampNeg)) → post 0 ki co pr pa tw nv sv pn pl po pf pt) ∧ (¬ 0 ≤ (lg_cmp (co w.toNatClampNeg) (co y.toNatClampNeg)) → post 1 ki co pr pa tw nv sv pn pl po pf pt))))) ∧ ((x = 7) → (vp_in w 40 ∧ (vp_in y 40 ∧ post (bI (decide ((0 : Int64) < (co y.toNatClampNeg) ∧ (co w.toNatClampNeg) - (co w.toNatClampNeg) / (co y.toNatClampNeg) * (co y.toNatClampNeg) = 0))) ki co pr pa tw nv sv pn pl po pf pt))) ∧ ((x = 8 ∨ x = 11 ∨ x = 14) → (vp_in w 40 ∧ (((if ki w.toNatClampNeg = 3 then sCount (co w.toNatClampNeg).toInt32 else iBits (pr w.toNatClampNeg)) < y → post 0 ki co pr pa tw nv sv pn pl po pf pt) ∧ (¬ (if ki w.toNatClampNeg = 3 then sCount (co w.toNatClampNeg).toInt32 else iBits (pr w.toNatClampNeg)) < y → post 1 ki co pr pa tw nv sv pn pl po pf pt)))) ∧ ((x = 9 ∨ x = 12 ∨ x = 15) → (vp_in w 40 ∧ ((y < (if ki w.toNatClampNeg = 3 then sCount (co w.toNatClampNeg).toInt32 else iBits (pr w.toNatClampNeg)) → post 0 ki co pr pa tw nv sv pn pl po pf pt) ∧ (¬ y < (if ki w.toNatClampNeg = 3 then sCount (co w.toNatClampNeg).toInt32 else iBits (pr w.toNatClampNeg)) → post 1 ki co pr pa tw nv sv pn pl po pf pt)))) ∧ ((x = 10) → (vp_in w 40 ∧ ((vp_in y 8 ∧ (∃ n : Nat, n ≤ 6 ∧ pn y.toNatClampNeg = nI n) ∧ ∃ n : Nat, n < 2 ^ 31 ∧ (co w.toNatClampNeg : Int64).toInt32 = nI n ∧ told 8 n = true) ∧ post (bI (sMatch pn pl po pf pt y.toNatClampNeg ((co w.toNatClampNeg : Int64).toInt32 : Int32).toNatClampNeg)) ki co pr pa tw nv sv pn pl po pf pt))) ∧ ((x = 13) → ((y = 0 → post 1 ki co pr pa tw nv sv pn pl po pf pt) ∧ (¬ y = 0 → ((∃ n : Nat, vp_in w 40 ∧ ki w.toNatClampNeg = 4 ∧ VOK ki co pr pa n) ∧ (∀ (t2 : Bool), ((t2 = true ↔ ∃ i j, i < 12 ∧ j < i ∧ cpb ki pr w.toNatClampNeg i ∧ cpb ki pr w.toNatClampNeg j ∧ tw (cpt ki pr pa w.toNatClampNeg i) = tw (cpt ki pr pa w.toNatClampNeg j))) → ((¬ (bI t2) = 0 → post 0 ki co pr pa tw nv sv pn pl po pf pt) ∧ ((bI t2) = 0 → post 1 ki co pr pa tw nv sv pn pl po pf pt))))))) ∧ ((x = 16) → (vp_in w 40 ∧ ((¬ (y &&& ((pr w.toNatClampNeg) ^^^ (-1))) = 0 → post 0 ki co pr pa tw nv sv pn pl po pf pt) ∧ ((y &&& ((pr w.toNatClampNeg) ^^^ (-1))) = 0 → post 1 ki co pr pa tw nv sv pn pl po pf pt)))) ∧ (((x.toInt < 0 ∨ 16 < x.toInt)) → post 1 ki co pr pa tw nv sv pn pl po pf pt)))))
set_option maxHeartbeats 4000000 in
set_option maxRecDepth 100000 in
theorem g_Pl_holds {p : Program} {l : Launch} {e : Env} {R : Room} {s : State} {m : MethodId} {args : Array Value} {below : List Frame} {meth : Method} {c : Code} {H : Heap} {locs : List Loc} {cells slots : Nat} {Q : State → Prop} {ls : Array Slot} {A : Nat → Prop} (S : CallFix p m c b_Pl_holds 5 s args W0 R_Pl) (hRf : 9 ≤ R.frames) (hRl : 200 ≤ R.locals) (hRc : cells ≤ R.cells ∧ slots ≤ R.slots) (D : va_G) (a : Nat → Nat) (cI cJ cZ : ClassId) (ki : Nat → Int32) (co : Nat → Int64) (pr : Nat → Int32) (pa : Nat → Int32) (tw : Nat → Int32) (nv : Int32) (sv : Int32) (pn : Nat → Int32) (pl : Nat → Int32) (po : Nat → Int32) (pf : Nat → Int32) (pt : Nat → Int32) (x : Int32) (y : Int32) (w : Int32) (hK : va_K D vwCl (tyA cI cJ cZ) s) (hP : va_P D vwCl (wL a ++ wV a cI cJ ki co pr pa tw nv sv ++ wP a cI cZ pn pl po pf pt) H) (hD : va_D A (wL a ++ wV a cI cJ ki co pr pa tw nv sv ++ wP a cI cZ pn pl po pf pt)) (hA : ∀ q, s.heap.size ≤ q → A q) (hS : va_S A s.heap H locs) (hX : eX A s s.heap) (hl : lv_has ls 5 [(0, .ref (a 19)), (1, .int x), (2, .int y), (3, .int w)]) {post : Int32 → (Nat → Int32) → (Nat → Int64) → (Nat → Int32) → (Nat → Int32) → (Nat → Int32) → Int32 → Int32 → (Nat → Int32) → (Nat → Int32) → (Nat → Int32) → (Nat → Int32) → (Nat → Int32) → Prop} (vc : V_Pl_holds ki co pr pa tw nv sv pn pl po pf pt x y w post)
    (hret : ∀ (v : Int32) (ki : Nat → Int32) (co : Nat → Int64) (pr : Nat → Int32) (pa : Nat → Int32) (tw : Nat → Int32) (nv : Int32) (sv : Int32) (pn : Nat → Int32) (pl : Nat → Int32) (po : Nat → Int32) (pf : Nat → Int32) (pt : Nat → Int32) (ls : Array Slot) (pc : Nat) (H : Heap) (locs : List Loc), decode b_Pl_holds pc = .ok (.ireturn, 1) → post v ki co pr pa tw nv sv pn pl po pf pt → va_P D vwCl (wL a ++ wV a cI cJ ki co pr pa tw nv sv ++ wP a cI cZ pn pl po pf pt) H → va_D A (wL a ++ wV a cI cJ ki co pr pa tw nv sv ++ wP a cI cZ pn pl po pf pt) → va_S A s.heap H locs → W p l e R s m args below meth c H locs cells slots Q (F0 m pc ls [.int v])) : W p l e R s m args below meth c H locs cells slots Q (F0 m 0 ls []) := by
  have hx := S.1
  have hb := S.2.1
  have hown := S.2.2.2.1
  have hts := S.2.2.2.2
  unfold V_Pl_holds at vc
  obtain ⟨tSP, hTZ, hTT⟩ := hX.2.2.2.2.2
  refine va_gets hx hb hTZ hS hown (hts _ fl_Pl_17) (fun _ h => h) d_Pl_holds_0 ?_
  refine lv_iload_n hx hb d_Pl_holds_3 rfl (lv_at hl 1 rfl) ?_
  obtain ⟨vcb, vc⟩ := vc
  refine va_ti hx hb hTT hS vcb rfl d_Pl_holds_4 ?_
  refine lv_istore hx hb d_Pl_holds_5 hl (by decide) (lv' := [(4, .int (spk x.toNatClampNeg)), (0, .ref (a 19)), (1, .int x), (2, .int y), (3, .int w)]) rfl (fun ls hl => ?_)
  refine lv_iload hx hb d_Pl_holds_7 (lv_at hl 0 rfl) ?_
  refine lv_iconst (v := (-1)) hx hb d_Pl_holds_9 (by decide) ?_
  obtain ⟨J1, vc, vc2⟩ := vc
  have jJ1 : ∀ (ls : Array Slot) (H : Heap) (locs : List Loc), J1 → lv_has ls 5 [(0, .ref (a 19)), (1, .int x), (2, .int y), (3, .int w), (4, .int (spk x.toNatClampNeg))] → va_P D vwCl (wL a ++ wV a cI cJ ki co pr pa tw nv sv ++ wP a cI cZ pn pl po pf pt) H → va_D A (wL a ++ wV a cI cJ ki co pr pa tw nv sv ++ wP a cI cZ pn pl po pf pt) → va_S A s.heap H locs → W p l e R s m args below meth c H locs cells slots Q (F0 m 28 ls []) := by
    intro  ls H locs vc hl hP hD hS
    have vc := vc2  vc
    refine lv_iload_n hx hb d_Pl_holds_28 rfl (lv_at hl 1 rfl) ?_
    refine lv_topi (fun xs es => ?_)
    have a112 : (x = 0) → W p l e R s m args below meth c H locs cells slots Q (F0 m 112 ls []) := by
      intro h
      have vc := vc.1 h
      refine lv_aload_n hx hb d_Pl_holds_112 rfl (lv_at hl 0 rfl) ?_
      refine lv_iload_n hx hb d_Pl_holds_113 rfl (lv_at hl 3 rfl) ?_
      obtain ⟨hpre, vc⟩ := vc
      refine pc_V (As := [.int w]) (rest := []) S (c_Pl_kindBits l D a cI cJ cZ ki co pr pa tw nv sv w hpre) wB_blind k_Pl_kindBits i_Pl_kindBits e_Pl_kindBits o_Pl ml_Pl_29 hd_Pl_kindBits (Nat.le_trans (by omega) hRf) (Nat.le_trans (by omega) hRl) hRc (va_recv hK hP (q0 := 0) (ci := 2) rfl rfl) (wB_at (hP.sub (ws' := (wL a ++ wV a cI cJ ki co pr pa tw nv sv)) [0, 1, 2, 3, 4, 5, 6] rfl) hK) hl.1 rfl (Nat.le_of_ble_eq_true rfl) d_Pl_holds_114 ?_
      refine lv_iload_n hx hb d_Pl_holds_117 rfl (lv_at hl 2 rfl) ?_
      refine lv_iand hx hb d_Pl_holds_118 ?_
      refine lv_if_eq (tgt := 126) hx hb d_Pl_holds_119 (by decide) (fun h => ?_) (fun h => ?_)
      · have vc := vc.1 h
        refine lv_iconst (v := 0) hx hb d_Pl_holds_126 (by decide) ?_
        exact hret _ _ _ _ _ _ _ _ _ _ _ _ _ ls _ H locs d_Pl_holds_127 vc hP hD hS
      · have vc := vc.2 h
        refine lv_iconst (v := 1) hx hb d_Pl_holds_122 (by decide) ?_
        refine lv_goto (tgt := 127) hx hb d_Pl_holds_123 (by decide) ?_
        exact hret _ _ _ _ _ _ _ _ _ _ _ _ _ ls _ H locs d_Pl_holds_127 vc hP hD hS
    have a128 : (x = 1) → W p l e R s m args below meth c H locs cells slots Q (F0 m 128 ls []) := by
      intro h
      have vc := vc.2.1 h
      refine lv_aload_n hx hb d_Pl_holds_128 rfl (lv_at hl 0 rfl) ?_
      refine va_get (D := D) (ci := 2) (v := .ref (a 0)) (C := R_Pl) (T := F_Pl) (N := 2) hx hb hts in_Pl hown hK hP 0 rfl rfl 0 (by decide) (hts _ fl_Pl_7) (fun _ h => h) rfl d_Pl_holds_129 ?_
      refine lv_iload_n hx hb d_Pl_holds_132 rfl (lv_at hl 3 rfl) ?_
      refine lv_iload_n hx hb d_Pl_holds_133 rfl (lv_at hl 2 rfl) ?_
      obtain ⟨hpre, vc⟩ := vc
      refine pc_V (As := [.int w, .int y]) (rest := []) S (c_Va_areEqual l D a cI cJ cZ ki co pr pa tw nv sv w y hpre) wB_blind k_Va_areEqual i_Va_areEqual e_Va_areEqual o_Va ml_Pl_32 hd_Va_areEqual (Nat.le_trans (by omega) hRf) (Nat.le_trans (by omega) hRl) hRc (va_recv hK hP (q0 := 1) (ci := 4) rfl rfl) (wB_at (hP.sub (ws' := (wV a cI cJ ki co pr pa tw nv sv)) [1, 2, 3, 4, 5, 6] rfl) hK) hl.1 rfl (Nat.le_of_ble_eq_true rfl) d_Pl_holds_134 ?_
      exact hret _ _ _ _ _ _ _ _ _ _ _ _ _ ls _ H locs d_Pl_holds_137 vc hP hD hS
    have a138 : (x = 2) → W p l e R s m args below meth c H locs cells slots Q (F0 m 138 ls []) := by
      intro h
      have vc := vc.2.2.1 h
      refine lv_aload_n hx hb d_Pl_holds_138 rfl (lv_at hl 0 rfl) ?_
      refine va_get (D := D) (ci := 2) (v := .ref (a 0)) (C := R_Pl) (T := F_Pl) (N := 2) hx hb hts in_Pl hown hK hP 0 rfl rfl 0 (by decide) (hts _ fl_Pl_7) (fun _ h => h) rfl d_Pl_holds_139 ?_
      refine lv_iload_n hx hb d_Pl_holds_142 rfl (lv_at hl 2 rfl) ?_
      refine lv_iload_n hx hb d_Pl_holds_143 rfl (lv_at hl 3 rfl) ?_
      obtain ⟨hpre, vc⟩ := vc
      refine pc_V (As := [.int y, .int w]) (rest := []) S (c_Va_hasEqualElement l D a cI cJ cZ ki co pr pa tw nv sv y w hpre) wB_blind k_Va_hasEqualElement i_Va_hasEqualElement e_Va_hasEqualElement o_Va ml_Pl_36 hd_Va_hasEqualElement (Nat.le_trans (by omega) hRf) (Nat.le_trans (by omega) hRl) hRc (va_recv hK hP (q0 := 1) (ci := 4) rfl rfl) (wB_at (hP.sub (ws' := (wV a cI cJ ki co pr pa tw nv sv)) [1, 2, 3, 4, 5, 6] rfl) hK) hl.1 rfl (Nat.le_of_ble_eq_true rfl) d_Pl_holds_144 ?_
      exact hret _ _ _ _ _ _ _ _ _ _ _ _ _ ls _ H locs d_Pl_holds_147 vc hP hD hS
    have a148 : (x = 3) → W p l e R s m args below meth c H locs cells slots Q (F0 m 148 ls []) := by
      intro h
      have vc := vc.2.2.2.1 h
      refine lv_aload_n hx hb d_Pl_holds_148 rfl (lv_at hl 0 rfl) ?_
      refine va_get (D := D) (ci := 2) (v := .ref (a 0)) (C := R_Pl) (T := F_Pl) (N := 2) hx hb hts in_Pl hown hK hP 0 rfl rfl 0 (by decide) (hts _ fl_Pl_7) (fun _ h => h) rfl d_Pl_holds_149 ?_
      refine lv_iload_n hx hb d_Pl_holds_152 rfl (lv_at hl 3 rfl) ?_
      obtain ⟨hpre, vc⟩ := vc
      refine pc_V (As := [.int w]) (rest := []) S (c_Va_coreOf l D a cI cJ cZ ki co pr pa tw nv sv w hpre) wB_blind k_Va_coreOf i_Va_coreOf e_Va_coreOf o_Va ml_Pl_39 hd_Va_coreOf (Nat.le_trans (by omega) hRf) (Nat.le_trans (by omega) hRl) hRc (va_recv hK hP (q0 := 1) (ci := 4) rfl rfl) (wB_at (hP.sub (ws' := (wV a cI cJ ki co pr pa tw nv sv)) [1, 2, 3, 4, 5, 6] rfl) hK) hl.1 rfl (Nat.le_of_ble_eq_true rfl) d_Pl_holds_153 ?_
      refine lv_aload_n hx hb d_Pl_holds_156 rfl (lv_at hl 0 rfl) ?_
      refine va_get (D := D) (ci := 2) (v := .ref (a 0)) (C := R_Pl) (T := F_Pl) (N := 2) hx hb hts in_Pl hown hK hP 0 rfl rfl 0 (by decide) (hts _ fl_Pl_7) (fun _ h => h) rfl d_Pl_holds_157 ?_
      refine lv_iload_n hx hb d_Pl_holds_160 rfl (lv_at hl 2 rfl) ?_
      obtain ⟨hpre, vc⟩ := vc
      refine pc_V (As := [.int y]) (rest := [.long (co w.toNatClampNeg)]) S (c_Va_coreOf l D a cI cJ cZ ki co pr pa tw nv sv y hpre) wB_blind k_Va_coreOf i_Va_coreOf e_Va_coreOf o_Va ml_Pl_39 hd_Va_coreOf (Nat.le_trans (by omega) hRf) (Nat.le_trans (by omega) hRl) hRc (va_recv hK hP (q0 := 1) (ci := 4) rfl rfl) (wB_at (hP.sub (ws' := (wV a cI cJ ki co pr pa tw nv sv)) [1, 2, 3, 4, 5, 6] rfl) hK) hl.1 rfl (Nat.le_of_ble_eq_true rfl) d_Pl_holds_161 ?_
      refine W.lcmp hx hb d_Pl_holds_164 ?_
      refine lv_if_lt (tgt := 172) hx hb d_Pl_holds_165 (by decide) (fun h => ?_) (fun h => ?_)
      · have vc := vc.1 h
        refine lv_iconst (v := 0) hx hb d_Pl_holds_172 (by decide) ?_
        exact hret _ _ _ _ _ _ _ _ _ _ _ _ _ ls _ H locs d_Pl_holds_173 vc hP hD hS
      · have vc := vc.2 h
        refine lv_iconst (v := 1) hx hb d_Pl_holds_168 (by decide) ?_
        refine lv_goto (tgt := 173) hx hb d_Pl_holds_169 (by decide) ?_
        exact hret _ _ _ _ _ _ _ _ _ _ _ _ _ ls _ H locs d_Pl_holds_173 vc hP hD hS
    have a174 : (x = 4) → W p l e R s m args below meth c H locs cells slots Q (F0 m 174 ls []) := by
      intro h
      have vc := vc.2.2.2.2.1 h
      refine lv_aload_n hx hb d_Pl_holds_174 rfl (lv_at hl 0 rfl) ?_
      refine va_get (D := D) (ci := 2) (v := .ref (a 0)) (C := R_Pl) (T := F_Pl) (N := 2) hx hb hts in_Pl hown hK hP 0 rfl rfl 0 (by decide) (hts _ fl_Pl_7) (fun _ h => h) rfl d_Pl_holds_175 ?_
      refine lv_iload_n hx hb d_Pl_holds_178 rfl (lv_at hl 3 rfl) ?_
      obtain ⟨hpre, vc⟩ := vc
      refine pc_V (As := [.int w]) (rest := []) S (c_Va_coreOf l D a cI cJ cZ ki co pr pa tw nv sv w hpre) wB_blind k_Va_coreOf i_Va_coreOf e_Va_coreOf o_Va ml_Pl_39 hd_Va_coreOf (Nat.le_trans (by omega) hRf) (Nat.le_trans (by omega) hRl) hRc (va_recv hK hP (q0 := 1) (ci := 4) rfl rfl) (wB_at (hP.sub (ws' := (wV a cI cJ ki co pr pa tw nv sv)) [1, 2, 3, 4, 5, 6] rfl) hK) hl.1 rfl (Nat.le_of_ble_eq_true rfl) d_Pl_holds_179 ?_
      refine lv_aload_n hx hb d_Pl_holds_182 rfl (lv_at hl 0 rfl) ?_
      refine va_get (D := D) (ci := 2) (v := .ref (a 0)) (C := R_Pl) (T := F_Pl) (N := 2) hx hb hts in_Pl hown hK hP 0 rfl rfl 0 (by decide) (hts _ fl_Pl_7) (fun _ h => h) rfl d_Pl_holds_183 ?_
      refine lv_iload_n hx hb d_Pl_holds_186 rfl (lv_at hl 2 rfl) ?_
      obtain ⟨hpre, vc⟩ := vc
      refine pc_V (As := [.int y]) (rest := [.long (co w.toNatClampNeg)]) S (c_Va_coreOf l D a cI cJ cZ ki co pr pa tw nv sv y hpre) wB_blind k_Va_coreOf i_Va_coreOf e_Va_coreOf o_Va ml_Pl_39 hd_Va_coreOf (Nat.le_trans (by omega) hRf) (Nat.le_trans (by omega) hRl) hRc (va_recv hK hP (q0 := 1) (ci := 4) rfl rfl) (wB_at (hP.sub (ws' := (wV a cI cJ ki co pr pa tw nv sv)) [1, 2, 3, 4, 5, 6] rfl) hK) hl.1 rfl (Nat.le_of_ble_eq_true rfl) d_Pl_holds_187 ?_
      refine W.lcmp hx hb d_Pl_holds_190 ?_
      refine lv_if_gt (tgt := 198) hx hb d_Pl_holds_191 (by decide) (fun h => ?_) (fun h => ?_)
      · have vc := vc.1 h
        refine lv_iconst (v := 0) hx hb d_Pl_holds_198 (by decide) ?_
        exact hret _ _ _ _ _ _ _ _ _ _ _ _ _ ls _ H locs d_Pl_holds_199 vc hP hD hS
      · have vc := vc.2 h
        refine lv_iconst (v := 1) hx hb d_Pl_holds_194 (by decide) ?_
        refine lv_goto (tgt := 199) hx hb d_Pl_holds_195 (by decide) ?_
        exact hret _ _ _ _ _ _ _ _ _ _ _ _ _ ls _ H locs d_Pl_holds_199 vc hP hD hS
    have a200 : (x = 5) → W p l e R s m args below meth c H locs cells slots Q (F0 m 200 ls []) := by
      intro h
      have vc := vc.2.2.2.2.2.1 h
      refine lv_aload_n hx hb d_Pl_holds_200 rfl (lv_at hl 0 rfl) ?_
      refine va_get (D := D) (ci := 2) (v := .ref (a 0)) (C := R_Pl) (T := F_Pl) (N := 2) hx hb hts in_Pl hown hK hP 0 rfl rfl 0 (by decide) (hts _ fl_Pl_7) (fun _ h => h) rfl d_Pl_holds_201 ?_
      refine lv_iload_n hx hb d_Pl_holds_204 rfl (lv_at hl 3 rfl) ?_
      obtain ⟨hpre, vc⟩ := vc
      refine pc_V (As := [.int w]) (rest := []) S (c_Va_coreOf l D a cI cJ cZ ki co pr pa tw nv sv w hpre) wB_blind k_Va_coreOf i_Va_coreOf e_Va_coreOf o_Va ml_Pl_39 hd_Va_coreOf (Nat.le_trans (by omega) hRf) (Nat.le_trans (by omega) hRl) hRc (va_recv hK hP (q0 := 1) (ci := 4) rfl rfl) (wB_at (hP.sub (ws' := (wV a cI cJ ki co pr pa tw nv sv)) [1, 2, 3, 4, 5, 6] rfl) hK) hl.1 rfl (Nat.le_of_ble_eq_true rfl) d_Pl_holds_205 ?_
      refine lv_aload_n hx hb d_Pl_holds_208 rfl (lv_at hl 0 rfl) ?_
      refine va_get (D := D) (ci := 2) (v := .ref (a 0)) (C := R_Pl) (T := F_Pl) (N := 2) hx hb hts in_Pl hown hK hP 0 rfl rfl 0 (by decide) (hts _ fl_Pl_7) (fun _ h => h) rfl d_Pl_holds_209 ?_
      refine lv_iload_n hx hb d_Pl_holds_212 rfl (lv_at hl 2 rfl) ?_
      obtain ⟨hpre, vc⟩ := vc
      refine pc_V (As := [.int y]) (rest := [.long (co w.toNatClampNeg)]) S (c_Va_coreOf l D a cI cJ cZ ki co pr pa tw nv sv y hpre) wB_blind k_Va_coreOf i_Va_coreOf e_Va_coreOf o_Va ml_Pl_39 hd_Va_coreOf (Nat.le_trans (by omega) hRf) (Nat.le_trans (by omega) hRl) hRc (va_recv hK hP (q0 := 1) (ci := 4) rfl rfl) (wB_at (hP.sub (ws' := (wV a cI cJ ki co pr pa tw nv sv)) [1, 2, 3, 4, 5, 6] rfl) hK) hl.1 rfl (Nat.le_of_ble_eq_true rfl) d_Pl_holds_213 ?_
      refine W.lcmp hx hb d_Pl_holds_216 ?_
      refine lv_if_le (tgt := 224) hx hb d_Pl_holds_217 (by decide) (fun h => ?_) (fun h => ?_)
      · have vc := vc.1 h
        refine lv_iconst (v := 0) hx hb d_Pl_holds_224 (by decide) ?_
        exact hret _ _ _ _ _ _ _ _ _ _ _ _ _ ls _ H locs d_Pl_holds_225 vc hP hD hS
      · have vc := vc.2 h
        refine lv_iconst (v := 1) hx hb d_Pl_holds_220 (by decide) ?_
        refine lv_goto (tgt := 225) hx hb d_Pl_holds_221 (by decide) ?_
        exact hret _ _ _ _ _ _ _ _ _ _ _ _ _ ls _ H locs d_Pl_holds_225 vc hP hD hS
    have a226 : (x = 6) → W p l e R s m args below meth c H locs cells slots Q (F0 m 226 ls []) := by
      intro h
      have vc := vc.2.2.2.2.2.2.1 h
      refine lv_aload_n hx hb d_Pl_holds_226 rfl (lv_at hl 0 rfl) ?_
      refine va_get (D := D) (ci := 2) (v := .ref (a 0)) (C := R_Pl) (T := F_Pl) (N := 2) hx hb hts in_Pl hown hK hP 0 rfl rfl 0 (by decide) (hts _ fl_Pl_7) (fun _ h => h) rfl d_Pl_holds_227 ?_
      refine lv_iload_n hx hb d_Pl_holds_230 rfl (lv_at hl 3 rfl) ?_
      obtain ⟨hpre, vc⟩ := vc
      refine pc_V (As := [.int w]) (rest := []) S (c_Va_coreOf l D a cI cJ cZ ki co pr pa tw nv sv w hpre) wB_blind k_Va_coreOf i_Va_coreOf e_Va_coreOf o_Va ml_Pl_39 hd_Va_coreOf (Nat.le_trans (by omega) hRf) (Nat.le_trans (by omega) hRl) hRc (va_recv hK hP (q0 := 1) (ci := 4) rfl rfl) (wB_at (hP.sub (ws' := (wV a cI cJ ki co pr pa tw nv sv)) [1, 2, 3, 4, 5, 6] rfl) hK) hl.1 rfl (Nat.le_of_ble_eq_true rfl) d_Pl_holds_231 ?_
      refine lv_aload_n hx hb d_Pl_holds_234 rfl (lv_at hl 0 rfl) ?_
      refine va_get (D := D) (ci := 2) (v := .ref (a 0)) (C := R_Pl) (T := F_Pl) (N := 2) hx hb hts in_Pl hown hK hP 0 rfl rfl 0 (by decide) (hts _ fl_Pl_7) (fun _ h => h) rfl d_Pl_holds_235 ?_
      refine lv_iload_n hx hb d_Pl_holds_238 rfl (lv_at hl 2 rfl) ?_
      obtain ⟨hpre, vc⟩ := vc
      refine pc_V (As := [.int y]) (rest := [.long (co w.toNatClampNeg)]) S (c_Va_coreOf l D a cI cJ cZ ki co pr pa tw nv sv y hpre) wB_blind k_Va_coreOf i_Va_coreOf e_Va_coreOf o_Va ml_Pl_39 hd_Va_coreOf (Nat.le_trans (by omega) hRf) (Nat.le_trans (by omega) hRl) hRc (va_recv hK hP (q0 := 1) (ci := 4) rfl rfl) (wB_at (hP.sub (ws' := (wV a cI cJ ki co pr pa tw nv sv)) [1, 2, 3, 4, 5, 6] rfl) hK) hl.1 rfl (Nat.le_of_ble_eq_true rfl) d_Pl_holds_239 ?_
      refine W.lcmp hx hb d_Pl_holds_242 ?_
      refine lv_if_ge (tgt := 250) hx hb d_Pl_holds_243 (by decide) (fun h => ?_) (fun h => ?_)
      · have vc := vc.1 h
        refine lv_iconst (v := 0) hx hb d_Pl_holds_250 (by decide) ?_
        exact hret _ _ _ _ _ _ _ _ _ _ _ _ _ ls _ H locs d_Pl_holds_251 vc hP hD hS
      · have vc := vc.2 h
        refine lv_iconst (v := 1) hx hb d_Pl_holds_246 (by decide) ?_
        refine lv_goto (tgt := 251) hx hb d_Pl_holds_247 (by decide) ?_
        exact hret _ _ _ _ _ _ _ _ _ _ _ _ _ ls _ H locs d_Pl_holds_251 vc hP hD hS
    have a252 : (x = 7) → W p l e R s m args below meth c H locs cells slots Q (F0 m 252 ls []) := by
      intro h
      have vc := vc.2.2.2.2.2.2.2.1 h
      refine lv_aload_n hx hb d_Pl_holds_252 rfl (lv_at hl 0 rfl) ?_
      refine va_get (D := D) (ci := 2) (v := .ref (a 0)) (C := R_Pl) (T := F_Pl) (N := 2) hx hb hts in_Pl hown hK hP 0 rfl rfl 0 (by decide) (hts _ fl_Pl_7) (fun _ h => h) rfl d_Pl_holds_253 ?_
      refine lv_iload_n hx hb d_Pl_holds_256 rfl (lv_at hl 3 rfl) ?_
      obtain ⟨hpre, vc⟩ := vc
      refine pc_V (As := [.int w]) (rest := []) S (c_Va_coreOf l D a cI cJ cZ ki co pr pa tw nv sv w hpre) wB_blind k_Va_coreOf i_Va_coreOf e_Va_coreOf o_Va ml_Pl_39 hd_Va_coreOf (Nat.le_trans (by omega) hRf) (Nat.le_trans (by omega) hRl) hRc (va_recv hK hP (q0 := 1) (ci := 4) rfl rfl) (wB_at (hP.sub (ws' := (wV a cI cJ ki co pr pa tw nv sv)) [1, 2, 3, 4, 5, 6] rfl) hK) hl.1 rfl (Nat.le_of_ble_eq_true rfl) d_Pl_holds_257 ?_
      refine lv_aload_n hx hb d_Pl_holds_260 rfl (lv_at hl 0 rfl) ?_
      refine va_get (D := D) (ci := 2) (v := .ref (a 0)) (C := R_Pl) (T := F_Pl) (N := 2) hx hb hts in_Pl hown hK hP 0 rfl rfl 0 (by decide) (hts _ fl_Pl_7) (fun _ h => h) rfl d_Pl_holds_261 ?_
      refine lv_iload_n hx hb d_Pl_holds_264 rfl (lv_at hl 2 rfl) ?_
      obtain ⟨hpre, vc⟩ := vc
      refine pc_V (As := [.int y]) (rest := [.long (co w.toNatClampNeg)]) S (c_Va_coreOf l D a cI cJ cZ ki co pr pa tw nv sv y hpre) wB_blind k_Va_coreOf i_Va_coreOf e_Va_coreOf o_Va ml_Pl_39 hd_Va_coreOf (Nat.le_trans (by omega) hRf) (Nat.le_trans (by omega) hRl) hRc (va_recv hK hP (q0 := 1) (ci := 4) rfl rfl) (wB_at (hP.sub (ws' := (wV a cI cJ ki co pr pa tw nv sv)) [1, 2, 3, 4, 5, 6] rfl) hK) hl.1 rfl (Nat.le_of_ble_eq_true rfl) d_Pl_holds_265 ?_
      refine pc_S (As := [.long (co w.toNatClampNeg), .long (co y.toNatClampNeg)]) (rest := []) S (c_Pl_isMultiple l (co w.toNatClampNeg) (co y.toNatClampNeg)) wT_blind k_Pl_isMultiple s_Pl_isMultiple o_Pl ml_Pl_43 hd_Pl_isMultiple (Nat.le_trans (by omega) hRf) (Nat.le_trans (by omega) hRl) hRc (fun _ _ _ => trivial) hl.1 rfl (Nat.le_of_ble_eq_true rfl) d_Pl_holds_268 ?_
      exact hret _ _ _ _ _ _ _ _ _ _ _ _ _ ls _ H locs d_Pl_holds_271 vc hP hD hS
    have a272 : (x = 8 ∨ x = 11 ∨ x = 14) → W p l e R s m args below meth c H locs cells slots Q (F0 m 272 ls []) := by
      intro h
      have vc := vc.2.2.2.2.2.2.2.2.1 h
      refine lv_aload_n hx hb d_Pl_holds_272 rfl (lv_at hl 0 rfl) ?_
      refine va_get (D := D) (ci := 2) (v := .ref (a 0)) (C := R_Pl) (T := F_Pl) (N := 2) hx hb hts in_Pl hown hK hP 0 rfl rfl 0 (by decide) (hts _ fl_Pl_7) (fun _ h => h) rfl d_Pl_holds_273 ?_
      refine lv_iload_n hx hb d_Pl_holds_276 rfl (lv_at hl 3 rfl) ?_
      obtain ⟨hpre, vc⟩ := vc
      refine pc_V (As := [.int w]) (rest := []) S (c_Va_sizeOf l D a cI cJ cZ ki co pr pa tw nv sv w hpre) wB_blind k_Va_sizeOf i_Va_sizeOf e_Va_sizeOf o_Va ml_Pl_47 hd_Va_sizeOf (Nat.le_trans (by omega) hRf) (Nat.le_trans (by omega) hRl) hRc (va_recv hK hP (q0 := 1) (ci := 4) rfl rfl) (wB_at (hP.sub (ws' := (wV a cI cJ ki co pr pa tw nv sv)) [1, 2, 3, 4, 5, 6] rfl) hK) hl.1 rfl (Nat.le_of_ble_eq_true rfl) d_Pl_holds_277 ?_
      refine lv_iload_n hx hb d_Pl_holds_280 rfl (lv_at hl 2 rfl) ?_
      refine lv_icmp_lt (tgt := 288) hx hb d_Pl_holds_281 (by decide) (fun h => ?_) (fun h => ?_)
      · have vc := vc.1 h
        refine lv_iconst (v := 0) hx hb d_Pl_holds_288 (by decide) ?_
        exact hret _ _ _ _ _ _ _ _ _ _ _ _ _ ls _ H locs d_Pl_holds_289 vc hP hD hS
      · have vc := vc.2 h
        refine lv_iconst (v := 1) hx hb d_Pl_holds_284 (by decide) ?_
        refine lv_goto (tgt := 289) hx hb d_Pl_holds_285 (by decide) ?_
        exact hret _ _ _ _ _ _ _ _ _ _ _ _ _ ls _ H locs d_Pl_holds_289 vc hP hD hS
    have a290 : (x = 9 ∨ x = 12 ∨ x = 15) → W p l e R s m args below meth c H locs cells slots Q (F0 m 290 ls []) := by
      intro h
      have vc := vc.2.2.2.2.2.2.2.2.2.1 h
      refine lv_aload_n hx hb d_Pl_holds_290 rfl (lv_at hl 0 rfl) ?_
      refine va_get (D := D) (ci := 2) (v := .ref (a 0)) (C := R_Pl) (T := F_Pl) (N := 2) hx hb hts in_Pl hown hK hP 0 rfl rfl 0 (by decide) (hts _ fl_Pl_7) (fun _ h => h) rfl d_Pl_holds_291 ?_
      refine lv_iload_n hx hb d_Pl_holds_294 rfl (lv_at hl 3 rfl) ?_
      obtain ⟨hpre, vc⟩ := vc
      refine pc_V (As := [.int w]) (rest := []) S (c_Va_sizeOf l D a cI cJ cZ ki co pr pa tw nv sv w hpre) wB_blind k_Va_sizeOf i_Va_sizeOf e_Va_sizeOf o_Va ml_Pl_47 hd_Va_sizeOf (Nat.le_trans (by omega) hRf) (Nat.le_trans (by omega) hRl) hRc (va_recv hK hP (q0 := 1) (ci := 4) rfl rfl) (wB_at (hP.sub (ws' := (wV a cI cJ ki co pr pa tw nv sv)) [1, 2, 3, 4, 5, 6] rfl) hK) hl.1 rfl (Nat.le_of_ble_eq_true rfl) d_Pl_holds_295 ?_
      refine lv_iload_n hx hb d_Pl_holds_298 rfl (lv_at hl 2 rfl) ?_
      refine lv_icmp_gt (tgt := 306) hx hb d_Pl_holds_299 (by decide) (fun h => ?_) (fun h => ?_)
      · have vc := vc.1 h
        refine lv_iconst (v := 0) hx hb d_Pl_holds_306 (by decide) ?_
        exact hret _ _ _ _ _ _ _ _ _ _ _ _ _ ls _ H locs d_Pl_holds_307 vc hP hD hS
      · have vc := vc.2 h
        refine lv_iconst (v := 1) hx hb d_Pl_holds_302 (by decide) ?_
        refine lv_goto (tgt := 307) hx hb d_Pl_holds_303 (by decide) ?_
        exact hret _ _ _ _ _ _ _ _ _ _ _ _ _ ls _ H locs d_Pl_holds_307 vc hP hD hS
    have a308 : (x = 10) → W p l e R s m args below meth c H locs cells slots Q (F0 m 308 ls []) := by
      intro h
      have vc := vc.2.2.2.2.2.2.2.2.2.2.1 h
      refine lv_aload_n hx hb d_Pl_holds_308 rfl (lv_at hl 0 rfl) ?_
      refine va_get (D := D) (ci := 2) (v := .ref (a 6)) (C := R_Pl) (T := F_Pl) (N := 2) hx hb hts in_Pl hown hK hP 0 rfl rfl 1 (by decide) (hts _ fl_Pl_13) (fun _ h => h) rfl d_Pl_holds_309 ?_
      refine lv_iload_n hx hb d_Pl_holds_312 rfl (lv_at hl 2 rfl) ?_
      refine lv_aload_n hx hb d_Pl_holds_313 rfl (lv_at hl 0 rfl) ?_
      refine va_get (D := D) (ci := 2) (v := .ref (a 0)) (C := R_Pl) (T := F_Pl) (N := 2) hx hb hts in_Pl hown hK hP 0 rfl rfl 0 (by decide) (hts _ fl_Pl_7) (fun _ h => h) rfl d_Pl_holds_314 ?_
      refine lv_iload_n hx hb d_Pl_holds_317 rfl (lv_at hl 3 rfl) ?_
      obtain ⟨hpre, vc⟩ := vc
      refine pc_V (As := [.int w]) (rest := [.int y, .ref (a 6)]) S (c_Va_coreOf l D a cI cJ cZ ki co pr pa tw nv sv w hpre) wB_blind k_Va_coreOf i_Va_coreOf e_Va_coreOf o_Va ml_Pl_39 hd_Va_coreOf (Nat.le_trans (by omega) hRf) (Nat.le_trans (by omega) hRl) hRc (va_recv hK hP (q0 := 1) (ci := 4) rfl rfl) (wB_at (hP.sub (ws' := (wV a cI cJ ki co pr pa tw nv sv)) [1, 2, 3, 4, 5, 6] rfl) hK) hl.1 rfl (Nat.le_of_ble_eq_true rfl) d_Pl_holds_318 ?_
      refine lv_l2i hx hb d_Pl_holds_321 rfl ?_
      obtain ⟨hpre, vc⟩ := vc
      refine pc_V (As := [.int y, .int ((co w.toNatClampNeg : Int64).toInt32)]) (rest := []) S (c_Pa_match l D a cI cJ cZ pn pl po pf pt y ((co w.toNatClampNeg : Int64).toInt32) hpre) wB_blind k_Pa_match i_Pa_match e_Pa_match o_Pa ml_Pl_50 hd_Pa_match (Nat.le_trans (by omega) hRf) (Nat.le_trans (by omega) hRl) hRc (va_recv hK hP (q0 := 7) (ci := 1) rfl rfl) (wB_at (hP.sub (ws' := (wP a cI cZ pn pl po pf pt)) [7, 8, 9, 10, 11, 12] rfl) hK) hl.1 rfl (Nat.le_of_ble_eq_true rfl) d_Pl_holds_322 ?_
      exact hret _ _ _ _ _ _ _ _ _ _ _ _ _ ls _ H locs d_Pl_holds_325 vc hP hD hS
    have a326 : (x = 13) → W p l e R s m args below meth c H locs cells slots Q (F0 m 326 ls []) := by
      intro h
      have vc := vc.2.2.2.2.2.2.2.2.2.2.2.1 h
      refine lv_iload_n hx hb d_Pl_holds_326 rfl (lv_at hl 2 rfl) ?_
      refine lv_if_eq (tgt := 341) hx hb d_Pl_holds_327 (by decide) (fun h => ?_) (fun h => ?_)
      · have vc := vc.1 h
        refine lv_iconst (v := 1) hx hb d_Pl_holds_341 (by decide) ?_
        refine lv_goto (tgt := 346) hx hb d_Pl_holds_342 (by decide) ?_
        exact hret _ _ _ _ _ _ _ _ _ _ _ _ _ ls _ H locs d_Pl_holds_346 vc hP hD hS
      · have vc := vc.2 h
        refine lv_aload_n hx hb d_Pl_holds_330 rfl (lv_at hl 0 rfl) ?_
        refine va_get (D := D) (ci := 2) (v := .ref (a 0)) (C := R_Pl) (T := F_Pl) (N := 2) hx hb hts in_Pl hown hK hP 0 rfl rfl 0 (by decide) (hts _ fl_Pl_7) (fun _ h => h) rfl d_Pl_holds_331 ?_
        refine lv_iload_n hx hb d_Pl_holds_334 rfl (lv_at hl 3 rfl) ?_
        obtain ⟨hpre, vc⟩ := vc
        refine wc_V (As := [.int w]) (rest := []) (wr := (wL a ++ wP a cI cZ pn pl po pf pt)) S (c_Va_hasEqualElements l D a cI cJ cZ ki co pr pa tw nv sv w hpre) k_Va_hasEqualElements i_Va_hasEqualElements e_Va_hasEqualElements o_Va ml_Pl_55 hd_Va_hasEqualElements (Nat.le_trans (by omega) hRf) (Nat.le_trans (by omega) hRl) hRc (va_recv hK hP (q0 := 1) (ci := 4) rfl rfl) hK hP hD hS hA [1, 2, 3, 4, 5, 6] [0, 7, 8, 9, 10, 11, 12] rfl rfl rfl (by decide) (by decide) (by decide) hl.1 rfl (Nat.le_of_ble_eq_true rfl) d_Pl_holds_335 (fun t2 H locs hu hP hD hS => ?_)
        have vc := vc t2 hu
        clear hu
        have hP : va_P D vwCl (wL a ++ wV a cI cJ ki co pr pa tw nv sv ++ wP a cI cZ pn pl po pf pt) H := hP.sub [0, 7, 8, 9, 10, 11, 12, 1, 2, 3, 4, 5, 6] rfl
        have hD : va_D A (wL a ++ wV a cI cJ ki co pr pa tw nv sv ++ wP a cI cZ pn pl po pf pt) := hD.sub [0, 7, 8, 9, 10, 11, 12, 1, 2, 3, 4, 5, 6] (by decide) rfl
        refine lv_if_ne (tgt := 345) hx hb d_Pl_holds_338 (by decide) (fun h => ?_) (fun h => ?_)
        · have vc := vc.1 h
          refine lv_iconst (v := 0) hx hb d_Pl_holds_345 (by decide) ?_
          exact hret _ _ _ _ _ _ _ _ _ _ _ _ _ ls _ H locs d_Pl_holds_346 vc hP hD hS
        · have vc := vc.2 h
          refine lv_iconst (v := 1) hx hb d_Pl_holds_341 (by decide) ?_
          refine lv_goto (tgt := 346) hx hb d_Pl_holds_342 (by decide) ?_
          exact hret _ _ _ _ _ _ _ _ _ _ _ _ _ ls _ H locs d_Pl_holds_346 vc hP hD hS
    have a347 : (x = 16) → W p l e R s m args below meth c H locs cells slots Q (F0 m 347 ls []) := by
      intro h
      have vc := vc.2.2.2.2.2.2.2.2.2.2.2.2.1 h
      refine lv_iload_n hx hb d_Pl_holds_347 rfl (lv_at hl 2 rfl) ?_
      refine lv_aload_n hx hb d_Pl_holds_348 rfl (lv_at hl 0 rfl) ?_
      refine va_get (D := D) (ci := 2) (v := .ref (a 0)) (C := R_Pl) (T := F_Pl) (N := 2) hx hb hts in_Pl hown hK hP 0 rfl rfl 0 (by decide) (hts _ fl_Pl_7) (fun _ h => h) rfl d_Pl_holds_349 ?_
      refine lv_iload_n hx hb d_Pl_holds_352 rfl (lv_at hl 3 rfl) ?_
      obtain ⟨hpre, vc⟩ := vc
      refine pc_V (As := [.int w]) (rest := [.int y]) S (c_Va_presentIn l D a cI cJ cZ ki co pr pa tw nv sv w hpre) wB_blind k_Va_presentIn i_Va_presentIn e_Va_presentIn o_Va ml_Pl_59 hd_Va_presentIn (Nat.le_trans (by omega) hRf) (Nat.le_trans (by omega) hRl) hRc (va_recv hK hP (q0 := 1) (ci := 4) rfl rfl) (wB_at (hP.sub (ws' := (wV a cI cJ ki co pr pa tw nv sv)) [1, 2, 3, 4, 5, 6] rfl) hK) hl.1 rfl (Nat.le_of_ble_eq_true rfl) d_Pl_holds_353 ?_
      refine lv_iconst (v := (-1)) hx hb d_Pl_holds_356 (by decide) ?_
      refine lv_ixor hx hb d_Pl_holds_357 ?_
      refine lv_iand hx hb d_Pl_holds_358 ?_
      refine lv_if_ne (tgt := 366) hx hb d_Pl_holds_359 (by decide) (fun h => ?_) (fun h => ?_)
      · have vc := vc.1 h
        refine lv_iconst (v := 0) hx hb d_Pl_holds_366 (by decide) ?_
        exact hret _ _ _ _ _ _ _ _ _ _ _ _ _ ls _ H locs d_Pl_holds_367 vc hP hD hS
      · have vc := vc.2 h
        refine lv_iconst (v := 1) hx hb d_Pl_holds_362 (by decide) ?_
        refine lv_goto (tgt := 367) hx hb d_Pl_holds_363 (by decide) ?_
        exact hret _ _ _ _ _ _ _ _ _ _ _ _ _ ls _ H locs d_Pl_holds_367 vc hP hD hS
    have a368 : ((x.toInt < 0 ∨ 16 < x.toInt)) → W p l e R s m args below meth c H locs cells slots Q (F0 m 368 ls []) := by
      intro h
      have vc := vc.2.2.2.2.2.2.2.2.2.2.2.2.2 h
      refine lv_iconst (v := 1) hx hb d_Pl_holds_368 (by decide) ?_
      exact hret _ _ _ _ _ _ _ _ _ _ _ _ _ ls _ H locs d_Pl_holds_369 vc hP hD hS
    by_cases h0 : xs.toInt < 0 ∨ 16 < xs.toInt
    · exact lv_tableOut (tgt := 368) hx hb d_Pl_holds_29 h0 (by decide) (a368 ((by rw [← es]; exact h0)))
    · obtain ⟨k, hk, rfl⟩ := sw_of (lo := 0) (n := 16) (fun h => h0 (Or.inl h)) (fun h => h0 (Or.inr h))
      have hk : k = 0 ∨ k = 1 ∨ k = 2 ∨ k = 3 ∨ k = 4 ∨ k = 5 ∨ k = 6 ∨ k = 7 ∨ k = 8 ∨ k = 9 ∨ k = 10 ∨ k = 11 ∨ k = 12 ∨ k = 13 ∨ k = 14 ∨ k = 15 ∨ k = 16 := by omega
      rcases hk with rfl | rfl | rfl | rfl | rfl | rfl | rfl | rfl | rfl | rfl | rfl | rfl | rfl | rfl | rfl | rfl | rfl
      · exact lv_tableIn (off := 83) (tgt := 112) hx hb d_Pl_holds_29 (by decide) (by decide) (by decide) (by decide) (a112 (es.symm))
      · exact lv_tableIn (off := 99) (tgt := 128) hx hb d_Pl_holds_29 (by decide) (by decide) (by decide) (by decide) (a128 (es.symm))
      · exact lv_tableIn (off := 109) (tgt := 138) hx hb d_Pl_holds_29 (by decide) (by decide) (by decide) (by decide) (a138 (es.symm))
      · exact lv_tableIn (off := 119) (tgt := 148) hx hb d_Pl_holds_29 (by decide) (by decide) (by decide) (by decide) (a148 (es.symm))
      · exact lv_tableIn (off := 145) (tgt := 174) hx hb d_Pl_holds_29 (by decide) (by decide) (by decide) (by decide) (a174 (es.symm))
      · exact lv_tableIn (off := 171) (tgt := 200) hx hb d_Pl_holds_29 (by decide) (by decide) (by decide) (by decide) (a200 (es.symm))
      · exact lv_tableIn (off := 197) (tgt := 226) hx hb d_Pl_holds_29 (by decide) (by decide) (by decide) (by decide) (a226 (es.symm))
      · exact lv_tableIn (off := 223) (tgt := 252) hx hb d_Pl_holds_29 (by decide) (by decide) (by decide) (by decide) (a252 (es.symm))
      · exact lv_tableIn (off := 243) (tgt := 272) hx hb d_Pl_holds_29 (by decide) (by decide) (by decide) (by decide) (a272 (Or.inl es.symm))
      · exact lv_tableIn (off := 261) (tgt := 290) hx hb d_Pl_holds_29 (by decide) (by decide) (by decide) (by decide) (a290 (Or.inl es.symm))
      · exact lv_tableIn (off := 279) (tgt := 308) hx hb d_Pl_holds_29 (by decide) (by decide) (by decide) (by decide) (a308 (es.symm))
      · exact lv_tableIn (off := 243) (tgt := 272) hx hb d_Pl_holds_29 (by decide) (by decide) (by decide) (by decide) (a272 (Or.inr (Or.inl es.symm)))
      · exact lv_tableIn (off := 261) (tgt := 290) hx hb d_Pl_holds_29 (by decide) (by decide) (by decide) (by decide) (a290 (Or.inr (Or.inl es.symm)))
      · exact lv_tableIn (off := 297) (tgt := 326) hx hb d_Pl_holds_29 (by decide) (by decide) (by decide) (by decide) (a326 (es.symm))
      · exact lv_tableIn (off := 243) (tgt := 272) hx hb d_Pl_holds_29 (by decide) (by decide) (by decide) (by decide) (a272 (Or.inr (Or.inr (es.symm))))
      · exact lv_tableIn (off := 261) (tgt := 290) hx hb d_Pl_holds_29 (by decide) (by decide) (by decide) (by decide) (a290 (Or.inr (Or.inr (es.symm))))
      · exact lv_tableIn (off := 318) (tgt := 347) hx hb d_Pl_holds_29 (by decide) (by decide) (by decide) (by decide) (a347 (es.symm))
  clear vc2
  refine lv_icmp_eq (tgt := 28) hx hb d_Pl_holds_10 (by decide) (fun h => ?_) (fun h => ?_)
  · have vc := vc.1 h
    exact jJ1 ls H locs vc (lv_sub hl [1, 2, 3, 4, 0] rfl) hP hD hS
  · have vc := vc.2 h
    refine lv_iload hx hb d_Pl_holds_13 (lv_at hl 0 rfl) ?_
    refine lv_aload_n hx hb d_Pl_holds_15 rfl (lv_at hl 1 rfl) ?_
    refine va_get (D := D) (ci := 2) (v := .ref (a 0)) (C := R_Pl) (T := F_Pl) (N := 2) hx hb hts in_Pl hown hK hP 0 rfl rfl 0 (by decide) (hts _ fl_Pl_7) (fun _ h => h) rfl d_Pl_holds_16 ?_
    refine lv_iload_n hx hb d_Pl_holds_19 rfl (lv_at hl 4 rfl) ?_
    obtain ⟨hpre, vc⟩ := vc
    refine pc_V (As := [.int w]) (rest := [.int (spk x.toNatClampNeg)]) S (c_Va_kindOf l D a cI cJ cZ ki co pr pa tw nv sv w hpre) wB_blind k_Va_kindOf i_Va_kindOf e_Va_kindOf o_Va ml_Pl_23 hd_Va_kindOf (Nat.le_trans (by omega) hRf) (Nat.le_trans (by omega) hRl) hRc (va_recv hK hP (q0 := 1) (ci := 4) rfl rfl) (wB_at (hP.sub (ws' := (wV a cI cJ ki co pr pa tw nv sv)) [1, 2, 3, 4, 5, 6] rfl) hK) hl.1 rfl (Nat.le_of_ble_eq_true rfl) d_Pl_holds_20 ?_
    refine lv_icmp_eq (tgt := 28) hx hb d_Pl_holds_23 (by decide) (fun h => ?_) (fun h => ?_)
    · have vc := vc.1 h
      exact jJ1 ls H locs vc (lv_sub hl [1, 2, 3, 4, 0] rfl) hP hD hS
    · have vc := vc.2 h
      refine lv_iconst (v := 1) hx hb d_Pl_holds_26 (by decide) ?_
      exact hret _ _ _ _ _ _ _ _ _ _ _ _ _ ls _ H locs d_Pl_holds_27 vc hP hD hS
set_option maxHeartbeats 4000000 in
theorem v_Pl_holds (ki : Nat → Int32) (co : Nat → Int64) (pr : Nat → Int32) (pa : Nat → Int32) (tw : Nat → Int32) (nv : Int32) (sv : Int32) (pn : Nat → Int32) (pl : Nat → Int32) (po : Nat → Int32) (pf : Nat → Int32) (pt : Nat → Int32) (x : Int32) (y : Int32) (w : Int32) (hpre : (∃ n0 k0 q0 v0 : Nat, k0 < 17 ∧ v0 < n0 ∧ x = nI k0 ∧ y = nI q0 ∧ w = nI v0 ∧ (¬ y < 0 ∧ okk ki co n0 k0 y ∧ q0 < 2 ^ 31) ∧ VOK ki co pr pa n0 ∧ POK pn po)) : V_Pl_holds ki co pr pa tw nv sv pn pl po pf pt x y w (fun v ki' co' pr' pa' tw' nv' sv' pn' pl' po' pf' pt' => ∃ rr : Bool, v = bI rr ∧ ((rr = true ↔ plS ki co (cpb ki pr) (cpt ki pr pa) tw pn pl po pf pt x.toNatClampNeg w.toNatClampNeg y)) ∧ ki' = ki ∧ co' = co ∧ pr' = pr ∧ pa' = pa ∧ tw' = tw ∧ nv' = nv ∧ sv' = sv ∧ pn' = pn ∧ pl' = pl ∧ po' = po ∧ pf' = pf ∧ pt' = pt) := by
  have main : ∀ post : Int32 → (Nat → Int32) → (Nat → Int64) → (Nat → Int32) → (Nat → Int32) → (Nat → Int32) → Int32 → Int32 → (Nat → Int32) → (Nat → Int32) → (Nat → Int32) → (Nat → Int32) → (Nat → Int32) → Prop, (∀ v ki' co' pr' pa' tw' nv' sv' pn' pl' po' pf' pt', (fun v ki' co' pr' pa' tw' nv' sv' pn' pl' po' pf' pt' => ∃ rr : Bool, v = bI rr ∧ ((rr = true ↔ plS ki co (cpb ki pr) (cpt ki pr pa) tw pn pl po pf pt x.toNatClampNeg w.toNatClampNeg y)) ∧ ki' = ki ∧ co' = co ∧ pr' = pr ∧ pa' = pa ∧ tw' = tw ∧ nv' = nv ∧ sv' = sv ∧ pn' = pn ∧ pl' = pl ∧ po' = po ∧ pf' = pf ∧ pt' = pt) v ki' co' pr' pa' tw' nv' sv' pn' pl' po' pf' pt' → post v ki' co' pr' pa' tw' nv' sv' pn' pl' po' pf' pt') → V_Pl_holds ki co pr pa tw nv sv pn pl po pf pt x y w post := by
    intro post hpost
    unfold V_Pl_holds
    obtain ⟨n, k, q, v, hk, hv, rfl, rfl, rfl, hok, hV, hP⟩ := hpre
    have hV0 := hV
    obtain ⟨hn, hpa, hV⟩ := hV
    obtain ⟨⟨kd, hkd, ekd⟩, hb, hpart, hrow, htxt⟩ := hV v (by omega)
    have hne : ¬ nI q = -1 := fun e => absurd (e.symm ▸ neg1_lt) (hok.1)
    obtain ⟨q', eq', hq4, o0, o1, o2, o3, o7, oc, o10, o13⟩ := hok.2.1.resolve_left hne
    have hqq : q' = q := by rw [nI_eq hok.2.2 (by omega)] at eq'; exact eq'.symm
    subst hqq
    have hw : vp_in (nI v) 40 := vp_in_nI (by omega) (by decide)
    have cv : (nI v).toNatClampNeg = v := nI_clamp (by omega)
    have ck : (nI k).toNatClampNeg = k := nI_clamp (by omega)
    have cq : (nI q').toNatClampNeg = q' := nI_clamp (by omega)
    have ek : ∀ c : Nat, c < 2 ^ 31 → (nI k = nI c ↔ k = c) := fun c hc => nI_eq (by omega) hc
    simp only [cv, ck] at hpost
    rw [cv, ck, cq]
    refine ⟨vp_in_nI hk (by decide), (spk k = -1 ∨ spk k = ki v), ⟨fun h => Or.inl h, fun h => ⟨hw, fun h2 => Or.inr h2, fun h2 => (hpost _ _ _ _ _ _ _ _ _ _ _ _ _ ⟨true, rfl, ⟨fun _ => plS_off k hk h h2, fun _ => rfl⟩, rfl, rfl, rfl, rfl, rfl, rfl, rfl, rfl, rfl, rfl, rfl, rfl⟩)⟩⟩, fun hJ => ⟨?_, ?_, ?_, ?_, ?_, ?_, ?_, ?_, ?_, ?_, ?_, ?_, ?_, ?_⟩⟩
    · intro e
      obtain rfl := (ek 0 (by decide)).mp e
      have key : plS ki co (cpb ki pr) (cpt ki pr pa) tw pn pl po pf pt 0 v (nI q') ↔ bt (nI q') kd = true ∨ (bt (nI q') 6 = true ∧ ki v = 2 ∧ 0 < (1000 : Int64) ∧ co v - co v / 1000 * 1000 = 0) := by
        simp only [plS, ekd, nI_clamp (show kd < 2 ^ 31 by omega)]
        simp
        constructor
        · rintro (h | ⟨h1, h2, h3⟩)
          · exact Or.inl h
          · exact Or.inr ⟨h2, h1, h3⟩
        · rintro (h | ⟨h1, h2, h4⟩)
          · exact Or.inl h
          · exact Or.inr ⟨h2, h1, h4⟩
      rw [show (if ki v = 2 ∧ 0 < (1000 : Int64) ∧ co v - co v / 1000 * 1000 = 0 then ((1 : Int32) <<< (ki v &&& 31)) ||| 64 else (1 <<< (ki v &&& 31))) = (if ki v = 2 ∧ 0 < (1000 : Int64) ∧ co v - co v / 1000 * 1000 = 0 then ((1 : Int32) <<< (nI kd &&& 31)) ||| 64 else (1 <<< (nI kd &&& 31))) by rw [ekd]]
      refine ⟨hw, fun h => (hpost _ _ _ _ _ _ _ _ _ _ _ _ _ ⟨false, rfl, ⟨fun q => absurd q (by decide), fun q => absurd q (fun z => (kb_iff hkd _ _).mpr (key.mp z) h)⟩, rfl, rfl, rfl, rfl, rfl, rfl, rfl, rfl, rfl, rfl, rfl, rfl⟩), fun h => (hpost _ _ _ _ _ _ _ _ _ _ _ _ _ ⟨true, rfl, ⟨fun _ => key.mpr ((kb_iff hkd _ _).mp h), fun _ => rfl⟩, rfl, rfl, rfl, rfl, rfl, rfl, rfl, rfl, rfl, rfl, rfl, rfl⟩)⟩
    · intro e
      obtain rfl := (ek 1 (by decide)).mp e
      have hq1 := o1 rfl
      refine ⟨⟨hw, vp_in_nI (by omega) (by decide)⟩, (hpost _ _ _ _ _ _ _ _ _ _ _ _ _ ⟨_, rfl, ?_, rfl, rfl, rfl, rfl, rfl, rfl, rfl, rfl, rfl, rfl, rfl, rfl⟩)⟩
      rw [decide_eq_true_eq]; simp [plS, cq]
    · intro e
      obtain rfl := (ek 2 (by decide)).mp e
      obtain ⟨hq1, hq4'⟩ := o2 rfl
      obtain ⟨_, _, _, hrow2, _⟩ := hV q' (by omega)
      obtain ⟨L, hL, bL⟩ := hrow2 hq4'
      refine ⟨⟨vp_in_nI (by omega) (by decide), hw, hpa⟩, (hpost _ _ _ _ _ _ _ _ _ _ _ _ _ ⟨_, rfl, ?_, rfl, rfl, rfl, rfl, rfl, rfl, rfl, rfl, rfl, rfl, rfl, rfl⟩)⟩
      rw [List.any_eq_true]
      have : plS ki co (cpb ki pr) (cpt ki pr pa) tw pn pl po pf pt 2 v (nI q') ↔ ∃ i, i < 12 ∧ cpb ki pr q' i ∧ tw (cpt ki pr pa q' i) = tw v := by simp [plS, cq]
      rw [this]
      constructor
      · rintro ⟨i, hi, h⟩
        rw [List.mem_range] at hi
        rw [Bool.and_eq_true, decide_eq_true_eq] at h
        have hc : cpb ki pr q' i := ⟨h.1, by omega, by omega, Or.inl hq4'⟩
        exact ⟨i, by omega, hc, by rw [cpt_at hc]; exact h.2⟩
      · rintro ⟨i, hi, hc, h⟩
        have h1 := hc.1
        rw [bL i hi] at h1
        have := of_decide_eq_true h1
        refine ⟨i, List.mem_range.mpr (by omega), ?_⟩
        rw [Bool.and_eq_true, decide_eq_true_eq]
        exact ⟨hc.1, by rw [cpt_at hc] at h; exact h⟩
    · intro e
      obtain rfl := (ek 3 (by decide)).mp e
      have hk2 : ki v = 2 := (hJ.resolve_left (by decide)).symm
      have hq1 := o3 (by decide) (by decide)
      rw [lg_lt0]
      refine ⟨hw, vp_in_nI (by omega) (by decide), fun h => (hpost _ _ _ _ _ _ _ _ _ _ _ _ _ ⟨false, rfl, ⟨fun q => absurd q (by decide), fun q => absurd q (fun z => ?_)⟩, rfl, rfl, rfl, rfl, rfl, rfl, rfl, rfl, rfl, rfl, rfl, rfl⟩), fun h => (hpost _ _ _ _ _ _ _ _ _ _ _ _ _ ⟨true, rfl, ⟨fun _ => ?_, fun _ => rfl⟩, rfl, rfl, rfl, rfl, rfl, rfl, rfl, rfl, rfl, rfl, rfl, rfl⟩)⟩
      · simp [plS, cq, hk2] at z; exact Int64.not_le.mpr h z
      · simp [plS, cq, hk2]; exact Int64.not_lt.mp h
    · intro e
      obtain rfl := (ek 4 (by decide)).mp e
      have hk2 : ki v = 2 := (hJ.resolve_left (by decide)).symm
      have hq1 := o3 (by decide) (by decide)
      rw [lg_gt0]
      refine ⟨hw, vp_in_nI (by omega) (by decide), fun h => (hpost _ _ _ _ _ _ _ _ _ _ _ _ _ ⟨false, rfl, ⟨fun q => absurd q (by decide), fun q => absurd q (fun z => ?_)⟩, rfl, rfl, rfl, rfl, rfl, rfl, rfl, rfl, rfl, rfl, rfl, rfl⟩), fun h => (hpost _ _ _ _ _ _ _ _ _ _ _ _ _ ⟨true, rfl, ⟨fun _ => ?_, fun _ => rfl⟩, rfl, rfl, rfl, rfl, rfl, rfl, rfl, rfl, rfl, rfl, rfl, rfl⟩)⟩
      · simp [plS, cq, hk2] at z; exact Int64.not_le.mpr h z
      · simp [plS, cq, hk2]; exact Int64.not_lt.mp h
    · intro e
      obtain rfl := (ek 5 (by decide)).mp e
      have hk2 : ki v = 2 := (hJ.resolve_left (by decide)).symm
      have hq1 := o3 (by decide) (by decide)
      rw [lg_le0]
      refine ⟨hw, vp_in_nI (by omega) (by decide), fun h => (hpost _ _ _ _ _ _ _ _ _ _ _ _ _ ⟨false, rfl, ⟨fun q => absurd q (by decide), fun q => absurd q (fun z => ?_)⟩, rfl, rfl, rfl, rfl, rfl, rfl, rfl, rfl, rfl, rfl, rfl, rfl⟩), fun h => (hpost _ _ _ _ _ _ _ _ _ _ _ _ _ ⟨true, rfl, ⟨fun _ => ?_, fun _ => rfl⟩, rfl, rfl, rfl, rfl, rfl, rfl, rfl, rfl, rfl, rfl, rfl, rfl⟩)⟩
      · simp [plS, cq, hk2] at z; exact Int64.not_lt.mpr h z
      · simp [plS, cq, hk2]; exact Int64.not_le.mp h
    · intro e
      obtain rfl := (ek 6 (by decide)).mp e
      have hk2 : ki v = 2 := (hJ.resolve_left (by decide)).symm
      have hq1 := o3 (by decide) (by decide)
      rw [lg_ge0]
      refine ⟨hw, vp_in_nI (by omega) (by decide), fun h => (hpost _ _ _ _ _ _ _ _ _ _ _ _ _ ⟨false, rfl, ⟨fun q => absurd q (by decide), fun q => absurd q (fun z => ?_)⟩, rfl, rfl, rfl, rfl, rfl, rfl, rfl, rfl, rfl, rfl, rfl, rfl⟩), fun h => (hpost _ _ _ _ _ _ _ _ _ _ _ _ _ ⟨true, rfl, ⟨fun _ => ?_, fun _ => rfl⟩, rfl, rfl, rfl, rfl, rfl, rfl, rfl, rfl, rfl, rfl, rfl, rfl⟩)⟩
      · simp [plS, cq, hk2] at z; exact Int64.not_lt.mpr h z
      · simp [plS, cq, hk2]; exact Int64.not_le.mp h
    · intro e
      obtain rfl := (ek 7 (by decide)).mp e
      have hk2 : ki v = 2 := (hJ.resolve_left (by decide)).symm
      have hq1 := o3 (by decide) (by decide)
      refine ⟨hw, vp_in_nI (by omega) (by decide), (hpost _ _ _ _ _ _ _ _ _ _ _ _ _ ⟨_, rfl, ?_, rfl, rfl, rfl, rfl, rfl, rfl, rfl, rfl, rfl, rfl, rfl, rfl⟩)⟩
      rw [decide_eq_true_eq]; simp [plS, cq, hk2, o7 rfl]
    · intro e
      have e3 : k = 8 ∨ k = 11 ∨ k = 14 := e.elim (fun w => Or.inl ((ek 8 (by decide)).mp w)) (fun w => w.elim (fun w => Or.inr (Or.inl ((ek 11 (by decide)).mp w))) (fun w => Or.inr (Or.inr ((ek 14 (by decide)).mp w))))
      have h12 := oc (by omega)
      have key : ∃ z, z ≤ 12 ∧ (if ki v = 3 then sCount (co v).toInt32 else iBits (pr v)) = nI z ∧ (plS ki co (cpb ki pr) (cpt ki pr pa) tw pn pl po pf pt k v (nI q') ↔ q' ≤ z) := by
        rcases e3 with rfl | rfl | rfl
        · have hk3 : ki v = 3 := (hJ.resolve_left (by decide)).symm
          obtain ⟨t, ht, hto, et⟩ := htxt hk3
          refine ⟨sTextLen 8 t, by have := sTextLen_le 8 t; omega, by rw [if_pos hk3, et, i64_32 ht]; simp [sCount, nI_pos ht, nI_toInt ht], ?_⟩
          simp [plS, cq, hk3, et, i64_32 ht, nI_clamp ht]
        · have hk3 : ki v = 4 := (hJ.resolve_left (by decide)).symm
          refine ⟨cN (cpb ki pr v) 12, cN_le _ _, by rw [if_neg (by rw [hk3]; decide), size_cN (by omega) hb (Or.inl hk3)], ?_⟩
          simp [plS, cq, hk3]
        · have hk3 : ki v = 5 := (hJ.resolve_left (by decide)).symm
          refine ⟨cN (cpb ki pr v) 12, cN_le _ _, by rw [if_neg (by rw [hk3]; decide), size_cN (by omega) hb (Or.inr hk3)], ?_⟩
          simp [plS, cq, hk3]
      obtain ⟨z, hz, ez, hpl⟩ := key
      rw [ez, nI_ltI (by omega) (by omega)]
      exact ⟨hw, fun h => (hpost _ _ _ _ _ _ _ _ _ _ _ _ _ ⟨false, rfl, ⟨fun q => absurd q (by decide), fun q => absurd q (fun w => by rw [hpl] at w; omega)⟩, rfl, rfl, rfl, rfl, rfl, rfl, rfl, rfl, rfl, rfl, rfl, rfl⟩), fun h => (hpost _ _ _ _ _ _ _ _ _ _ _ _ _ ⟨true, rfl, ⟨fun _ => hpl.mpr (by omega), fun _ => rfl⟩, rfl, rfl, rfl, rfl, rfl, rfl, rfl, rfl, rfl, rfl, rfl, rfl⟩)⟩
    · intro e
      have e3 : k = 9 ∨ k = 12 ∨ k = 15 := e.elim (fun w => Or.inl ((ek 9 (by decide)).mp w)) (fun w => w.elim (fun w => Or.inr (Or.inl ((ek 12 (by decide)).mp w))) (fun w => Or.inr (Or.inr ((ek 15 (by decide)).mp w))))
      have h12 := oc (by omega)
      have key : ∃ z, z ≤ 12 ∧ (if ki v = 3 then sCount (co v).toInt32 else iBits (pr v)) = nI z ∧ (plS ki co (cpb ki pr) (cpt ki pr pa) tw pn pl po pf pt k v (nI q') ↔ z ≤ q') := by
        rcases e3 with rfl | rfl | rfl
        · have hk3 : ki v = 3 := (hJ.resolve_left (by decide)).symm
          obtain ⟨t, ht, hto, et⟩ := htxt hk3
          refine ⟨sTextLen 8 t, by have := sTextLen_le 8 t; omega, by rw [if_pos hk3, et, i64_32 ht]; simp [sCount, nI_pos ht, nI_toInt ht], ?_⟩
          simp [plS, cq, hk3, et, i64_32 ht, nI_clamp ht]
        · have hk3 : ki v = 4 := (hJ.resolve_left (by decide)).symm
          refine ⟨cN (cpb ki pr v) 12, cN_le _ _, by rw [if_neg (by rw [hk3]; decide), size_cN (by omega) hb (Or.inl hk3)], ?_⟩
          simp [plS, cq, hk3]
        · have hk3 : ki v = 5 := (hJ.resolve_left (by decide)).symm
          refine ⟨cN (cpb ki pr v) 12, cN_le _ _, by rw [if_neg (by rw [hk3]; decide), size_cN (by omega) hb (Or.inr hk3)], ?_⟩
          simp [plS, cq, hk3]
      obtain ⟨z, hz, ez, hpl⟩ := key
      rw [ez, nI_ltI (by omega) (by omega)]
      exact ⟨hw, fun h => (hpost _ _ _ _ _ _ _ _ _ _ _ _ _ ⟨false, rfl, ⟨fun q => absurd q (by decide), fun q => absurd q (fun w => by rw [hpl] at w; omega)⟩, rfl, rfl, rfl, rfl, rfl, rfl, rfl, rfl, rfl, rfl, rfl, rfl⟩), fun h => (hpost _ _ _ _ _ _ _ _ _ _ _ _ _ ⟨true, rfl, ⟨fun _ => hpl.mpr (by omega), fun _ => rfl⟩, rfl, rfl, rfl, rfl, rfl, rfl, rfl, rfl, rfl, rfl, rfl, rfl⟩)⟩
    · intro e
      obtain rfl := (ek 10 (by decide)).mp e
      have hk3 : ki v = 3 := (hJ.resolve_left (by decide)).symm
      obtain ⟨t, ht, hto, et⟩ := htxt hk3
      have hq1 := o10 rfl
      rw [et, i64_32 ht]
      refine ⟨hw, ⟨vp_in_nI hq1 (by decide), hP.1 q' hq1, t, ht, rfl, hto⟩, (hpost _ _ _ _ _ _ _ _ _ _ _ _ _ ⟨_, rfl, ?_, rfl, rfl, rfl, rfl, rfl, rfl, rfl, rfl, rfl, rfl, rfl, rfl⟩)⟩
      simp [plS, cq, hk3, et]
    · intro e
      obtain rfl := (ek 13 (by decide)).mp e
      have hk3 : ki v = 4 := (hJ.resolve_left (by decide)).symm
      refine ⟨fun h => (hpost _ _ _ _ _ _ _ _ _ _ _ _ _ ⟨true, rfl, ⟨fun _ => ?_, fun _ => rfl⟩, rfl, rfl, rfl, rfl, rfl, rfl, rfl, rfl, rfl, rfl, rfl, rfl⟩), fun h => ⟨⟨n, hw, hk3, hV0⟩, fun b hbb => ⟨fun h2 => (hpost _ _ _ _ _ _ _ _ _ _ _ _ _ ⟨false, rfl, ⟨fun q => absurd q (by decide), fun q => absurd q (fun z => ?_)⟩, rfl, rfl, rfl, rfl, rfl, rfl, rfl, rfl, rfl, rfl, rfl, rfl⟩), fun h2 => (hpost _ _ _ _ _ _ _ _ _ _ _ _ _ ⟨true, rfl, ⟨fun _ => ?_, fun _ => rfl⟩, rfl, rfl, rfl, rfl, rfl, rfl, rfl, rfl, rfl, rfl, rfl, rfl⟩)⟩⟩⟩
      · simp [plS, hk3, h]
      · simp [plS, hk3, h] at z
        obtain ⟨i, j, w1, w2, w3, w4, w5⟩ := hbb.mp (bI_ne.mp h2)
        exact z i j w1 w2 w3 w4 w5
      · simp [plS, hk3]
        refine Or.inr (fun i j w1 w2 w3 w4 w5 => ?_)
        have := hbb.mpr ⟨i, j, w1, w2, w3, w4, w5⟩
        rw [bI0.mp h2] at this; exact absurd this (by decide)
    · intro e
      obtain rfl := (ek 16 (by decide)).mp e
      have hk3 : ki v = 5 := (hJ.resolve_left (by decide)).symm
      have key : plS ki co (cpb ki pr) (cpt ki pr pa) tw pn pl po pf pt 16 v (nI q') ↔ nI q' &&& (pr v ^^^ (-1)) = 0 := by
        rw [req_iff hq4]
        simp [plS, hk3]
        exact ⟨fun h i hi hbb => (h i hi hbb).1, fun h i hi hbb => ⟨h i hi hbb, hi, by omega, Or.inr hk3⟩⟩
      exact ⟨hw, fun h => (hpost _ _ _ _ _ _ _ _ _ _ _ _ _ ⟨false, rfl, ⟨fun q => absurd q (by decide), fun q => absurd q (fun z => h (key.mp z))⟩, rfl, rfl, rfl, rfl, rfl, rfl, rfl, rfl, rfl, rfl, rfl, rfl⟩), fun h => (hpost _ _ _ _ _ _ _ _ _ _ _ _ _ ⟨true, rfl, ⟨fun _ => key.mpr h, fun _ => rfl⟩, rfl, rfl, rfl, rfl, rfl, rfl, rfl, rfl, rfl, rfl, rfl, rfl⟩)⟩
    · intro e
      rw [nI_toInt (by omega)] at e
      omega
  exact main _ (fun _ _ _ _ _ _ _ _ _ _ _ _ _ h => h)
theorem c_Pl_holds (l : Launch) (D : va_G) (a : Nat → Nat) (cI cJ cZ : ClassId) (ki : Nat → Int32) (co : Nat → Int64) (pr : Nat → Int32) (pa : Nat → Int32) (tw : Nat → Int32) (nv : Int32) (sv : Int32) (pn : Nat → Int32) (pl : Nat → Int32) (po : Nat → Int32) (pf : Nat → Int32) (pt : Nat → Int32) (x : Int32) (y : Int32) (w : Int32) (hpre : (∃ n0 k0 q0 v0 : Nat, k0 < 17 ∧ v0 < n0 ∧ x = nI k0 ∧ y = nI q0 ∧ w = nI v0 ∧ (¬ y < 0 ∧ okk ki co n0 k0 y ∧ q0 < 2 ^ 31) ∧ VOK ki co pr pa n0 ∧ POK pn po)) : Em (S := Bool) l y_Pl_holds b_Pl_holds 5 (some .boolean) (9) (200) [.ref (a 19), .int x, .int y, .int w] D (tyA cI cJ cZ) (wL a ++ wV a cI cJ ki co pr pa tw nv sv ++ wP a cI cZ pn pl po pf pt) (fun uu => (uu = true ↔ plS ki co (cpb ki pr) (cpt ki pr pa) tw pn pl po pf pt x.toNatClampNeg w.toNatClampNeg y)) (fun uu => some (.int (bI uu))) (fun uu => (wL a ++ wV a cI cJ ki co pr pa tw nv sv ++ wP a cI cZ pn pl po pf pt)) :=
  em_i (by decide) (fun _ _ => bI_nar _) (Nat.le_of_ble_eq_true rfl) (fun p e s m below meth c ls Q A S hK hP hD hA hS hX hl hret => g_Pl_holds S (Nat.le_refl _) (Nat.le_refl _) ⟨Nat.le_refl _, Nat.le_refl _⟩ D a cI cJ cZ ki co pr pa tw nv sv pn pl po pf pt x y w hK hP hD hA hS hX hl (v_Pl_holds ki co pr pa tw nv sv pn pl po pf pt x y w hpre) (fun v ki' co' pr' pa' tw' nv' sv' pn' pl' po' pf' pt' ls1 pc H1 locs1 hd hv hP1 hD1 hS1 => by obtain ⟨rr, rfl, hp, rfl, rfl, rfl, rfl, rfl, rfl, rfl, rfl, rfl, rfl, rfl, rfl⟩ := hv; exact hret rr _ ls1 pc H1 locs1 hd hp rfl hP1 hD1 hS1))
theorem hd_Pl_holds : y_Pl_holds.cls ≠ "java/lang/invoke/MethodHandle" ∧ y_Pl_holds.cls ≠ "java/lang/invoke/VarHandle" ∧ (parseMethodDescriptor y_Pl_holds.desc).map (fun d => d.parameters.length) = some 3 := ⟨by decide, by decide, by decide +kernel⟩
