theorem Bad_lt {G : Sp} {s v b : Nat} (hb : b < 17) : Bad G s v b ↔ ruH G s b ∧ ¬ gPL G s v b := by
  constructor
  · intro h
    rcases h with h | h | ⟨_, h⟩ | ⟨_, h⟩
    · exact h.2
    · rcases h with h | h | h | h | h | h | h
      · have := h.1; omega
      · have := h.2.1; omega
      · have := h.2.1; omega
      · have := h.1; omega
      · have := h.1; omega
      · have := h.1; omega
      · have := h.1; omega
    · rcases h with ⟨i, _, _, h⟩ | h | h
      · rcases h with h | h <;> (have := h.1; omega)
      · rcases h.2 with h | h <;> (have := h.1; omega)
      · have := h.1; omega
    · rcases h with ⟨i, _, _, h⟩ | h
      · rcases h with h | h | h | h <;> (have := h.1; omega)
      · have := h.1; omega
  · intro h; exact Or.inl ⟨hb, h⟩
theorem Bad_17 {G : Sp} {s v : Nat} : Bad G s v 17 ↔ ruH G s 17 ∧ gVa G (ruV G s 17) v := by simp [Bad, BadPl, BadIn, BadS, BadL, BadEl, BadCo, BadUn, BadMe]
theorem Bad_18 {G : Sp} {s v : Nat} : ¬ Bad G s v 18 := by simp [Bad, BadPl, BadIn, BadS, BadL, BadEl, BadCo, BadUn, BadMe]
theorem Bad_19 {G : Sp} {s v : Nat} : Bad G s v 19 ↔ trn G s v 19 ∧ ruH G s 19 ∧ ¬ gVa G (ruV G s 19) v := by simp [Bad, BadPl, BadIn, BadS, BadL, BadEl, BadCo, BadUn, BadMe]
theorem Bad_20 {G : Sp} {s v : Nat} : Bad G s v 20 ↔ trn G s v 20 ∧ ruH G s 20 ∧ ¬ gVa G (ruV G s 20) v := by simp [Bad, BadPl, BadIn, BadS, BadL, BadEl, BadCo, BadUn, BadMe]
theorem Bad_21 {G : Sp} {s v : Nat} : Bad G s v 21 ↔ ruH G s 21 ∧ ¬ gVa G (ruV G s 21) v := by simp [Bad, BadPl, BadIn, BadS, BadL, BadEl, BadCo, BadUn, BadMe]
theorem Bad_22 {G : Sp} {s v : Nat} : Bad G s v 22 ↔ gK G v = 4 ∧ ∃ i, i < 12 ∧ gPb G v i ∧ lsL G s 3 ≤ i ∧ ruH G s 22 ∧ ¬ gVa G (ruV G s 22) (gPt G v i) := by simp [Bad, BadPl, BadIn, BadS, BadL, BadEl, BadCo, BadUn, BadMe]
theorem Bad_23 {G : Sp} {s v : Nat} : Bad G s v 23 ↔ gK G v = 4 ∧ ruH G s 23 ∧ ((ruH G s 24 ∧ cntC G s v < ruV G s 24) ∨ (¬ ruH G s 24 ∧ cntC G s v < 1)) := by simp [Bad, BadPl, BadIn, BadS, BadL, BadEl, BadCo, BadUn, BadMe]
theorem Bad_24 {G : Sp} {s v : Nat} : ¬ Bad G s v 24 := by simp [Bad, BadPl, BadIn, BadS, BadL, BadEl, BadCo, BadUn, BadMe]
theorem Bad_25 {G : Sp} {s v : Nat} : Bad G s v 25 ↔ gK G v = 4 ∧ ruH G s 23 ∧ ruH G s 25 ∧ ruV G s 25 < cntC G s v := by simp [Bad, BadPl, BadIn, BadS, BadL, BadEl, BadCo, BadUn, BadMe]
theorem Bad_26 {G : Sp} {s v : Nat} : Bad G s v 26 ↔ gK G v = 5 ∧ ∃ n, n < 12 ∧ gPb G v n ∧ ¬ nmH G s 0 n ∧ ruH G s 26 ∧ ¬ gVa G (ruV G s 26) (gPt G v n) := by simp [Bad, BadPl, BadIn, BadS, BadL, BadEl, BadCo, BadUn, BadMe]
theorem Bad_27 {G : Sp} {s v : Nat} : Bad G s v 27 ↔ gK G v = 5 ∧ ruH G s 27 ∧ ∃ i, i < 12 ∧ gPb G v i ∧ ¬ Mrk0 G s v i ∧ ¬ gVa G (ruV G s 27) (gPt G v i) := by simp [Bad, BadPl, BadIn, BadS, BadL, BadEl, BadCo, BadUn, BadMe]
theorem Bad_28 {G : Sp} {s v : Nat} : Bad G s v 28 ↔ gK G v = 4 ∧ ruH G s 28 ∧ ∃ i, i < 12 ∧ gPb G v i ∧ ¬ Mrk0 G s v i ∧ ¬ gVa G (ruV G s 28) (gPt G v i) := by simp [Bad, BadPl, BadIn, BadS, BadL, BadEl, BadCo, BadUn, BadMe]
theorem Bad_29 {G : Sp} {s v k : Nat} (hk : k < 3) : Bad G s v (29 + k) ↔ BadL G s v k (29 + k) := by
  have : k = 0 ∨ k = 1 ∨ k = 2 := by omega
  rcases this with rfl | rfl | rfl <;> simp [Bad, BadPl, BadIn, BadS, BadL, BadEl, BadCo, BadUn, BadMe]
theorem Bad_32 {G : Sp} {s v : Nat} : Bad G s v 32 ↔ gK G v = 4 ∧ ∃ i, i < 12 ∧ gPb G v i ∧ i < lsL G s 3 ∧ ¬ gVa G (lsV G s 3 i) (gPt G v i) := by simp [Bad, BadPl, BadIn, BadS, BadL, BadEl, BadCo, BadUn, BadMe]
theorem Bad_33 {G : Sp} {s v : Nat} : Bad G s v 33 ↔ gK G v = 5 ∧ ∃ n, n < 12 ∧ gPb G v n ∧ nmH G s 0 n ∧ ¬ gVa G (nmV G s 0 n) (gPt G v n) := by simp [Bad, BadPl, BadIn, BadS, BadL, BadEl, BadCo, BadUn, BadMe]
theorem Bad_34 {G : Sp} {s v : Nat} : Bad G s v 34 ↔ gK G v = 5 ∧ ∃ n, n < 12 ∧ gPb G v n ∧ nmH G s 1 n ∧ ¬ gVa G (nmV G s 1 n) v := by simp [Bad, BadPl, BadIn, BadS, BadL, BadEl, BadCo, BadUn, BadMe]
theorem Bad_35 {G : Sp} {s v : Nat} : Bad G s v 35 ↔ gK G v = 5 ∧ ∃ n, n < 12 ∧ gPb G v n ∧ nmH G s 2 n ∧ ∃ i, i < 12 ∧ bt (gBn G ((s * 3 + 2) * 12 + n)) i = true ∧ ¬ gPb G v i := by simp [Bad, BadPl, BadIn, BadS, BadL, BadEl, BadCo, BadUn, BadMe]
theorem b_m1s : ∀ p, p ≤ 3 → ∀ i, i < 32 → bt ((-1 : Int32) <<< (nI p &&& 31)) i = decide (p ≤ i) := by decide +kernel
def V_Mo_allElements (mki : Nat → Int32) (msz : Nat → Int64) (mle : Nat → Int32) (mel : Nat → Int32) (mme : Nat → Int32) (mal : Nat → Int32) (mic : Nat → Int32) (mil : Nat → Int32) (mio : Nat → Int32) (mab : Nat → Int32) (mae : Nat → Int32) (msa : Nat → Int32) (mlc : Nat → Int32) (mli : Nat → Int32) (mna : Nat → Int32) (mva : Nat → Int32) (mma : Nat → Int32) (mch : Nat → Int32) (mre : Nat → Int32) (mlv : Nat → Int32) (mwr : Nat → Int64) (msh : Nat → Int32) (mth : Int32) (mnv : Int32) (mns : Int32) (mfa : Int32) (mmo : Int32) (x : Int32) (y : Int32) (w : Int32) (post : Int32 → (Nat → Int32) → (Nat → Int64) → (Nat → Int32) → (Nat → Int32) → (Nat → Int32) → (Nat → Int32) → (Nat → Int32) → (Nat → Int32) → (Nat → Int32) → (Nat → Int32) → (Nat → Int32) → (Nat → Int32) → (Nat → Int32) → (Nat → Int32) → (Nat → Int32) → (Nat → Int32) → (Nat → Int32) → (Nat → Int32) → (Nat → Int32) → (Nat → Int32) → (Nat → Int64) → (Nat → Int32) → Int32 → Int32 → Int32 → Int32 → Int32 → Prop) : Prop :=
  (∃ (I4 : Int32 → Int32 → Prop) (mI4 : Int32 → Int32 → Nat), I4 1 0 ∧ (∀ (x2 : Int32) (x3 : Int32), I4 x2 x3 → (vp_in y 40 ∧ (((mle y.toNatClampNeg) ≤ x3 → post x2 mki msz mle mel mme mal mic mil mio mab mae msa mlc mli mna mva mma mch mre mlv mwr msh mth mnv mns mfa mmo) ∧ (¬ (mle y.toNatClampNeg) ≤ x3 → ((x2 = 0 → (I4 0 (x3 + 1) ∧ mI4 0 (x3 + 1) < mI4 x2 x3)) ∧ (¬ x2 = 0 → ((((w >>> (x3 &&& 31)) &&& 1) = 0 → (I4 1 (x3 + 1) ∧ mI4 1 (x3 + 1) < mI4 x2 x3)) ∧ (¬ ((w >>> (x3 &&& 31)) &&& 1) = 0 → (vp_in ((8 * y) + x3) 320 ∧ ((vp_in (40 * x + (mel ((8 * y) + x3 : Int32).toNatClampNeg)) 960 ∧ (mva (40 * x + (mel ((8 * y) + x3 : Int32).toNatClampNeg) : Int32).toNatClampNeg = 0 ∨ mva (40 * x + (mel ((8 * y) + x3 : Int32).toNatClampNeg) : Int32).toNatClampNeg = 1)) ∧ (((bI (decide (¬ mva (40 * x + (mel ((8 * y) + x3 : Int32).toNatClampNeg) : Int32).toNatClampNeg = 0))) = 0 → (I4 0 (x3 + 1) ∧ mI4 0 (x3 + 1) < mI4 x2 x3)) ∧ (¬ (bI (decide (¬ mva (40 * x + (mel ((8 * y) + x3 : Int32).toNatClampNeg) : Int32).toNatClampNeg = 0))) = 0 → (I4 1 (x3 + 1) ∧ mI4 1 (x3 + 1) < mI4 x2 x3))))))))))))))
set_option maxHeartbeats 4000000 in
set_option maxRecDepth 100000 in
theorem g_Mo_allElements {p : Program} {l : Launch} {e : Env} {R : Room} {s : State} {m : MethodId} {args : Array Value} {below : List Frame} {meth : Method} {c : Code} {H : Heap} {locs : List Loc} {cells slots : Nat} {Q : State → Prop} {ls : Array Slot} {A : Nat → Prop} (S : CallFix p m c b_Mo_allElements 6 s args W0 R_Mo) (hRf : 1 ≤ R.frames) (hRl : 22 ≤ R.locals) (hRc : cells ≤ R.cells ∧ slots ≤ R.slots) (D : va_G) (b : Nat → Nat) (cI cJ cZ : ClassId) (mki : Nat → Int32) (msz : Nat → Int64) (mle : Nat → Int32) (mel : Nat → Int32) (mme : Nat → Int32) (mal : Nat → Int32) (mic : Nat → Int32) (mil : Nat → Int32) (mio : Nat → Int32) (mab : Nat → Int32) (mae : Nat → Int32) (msa : Nat → Int32) (mlc : Nat → Int32) (mli : Nat → Int32) (mna : Nat → Int32) (mva : Nat → Int32) (mma : Nat → Int32) (mch : Nat → Int32) (mre : Nat → Int32) (mlv : Nat → Int32) (mwr : Nat → Int64) (msh : Nat → Int32) (mth : Int32) (mnv : Int32) (mns : Int32) (mfa : Int32) (mmo : Int32) (x : Int32) (y : Int32) (w : Int32) (hK : va_K D vwCl (tyA cI cJ cZ) s) (hP : va_P D vwCl (wM b cI cJ cZ mki msz mle mel mme mal mic mil mio mab mae msa mlc mli mna mva mma mch mre mlv mwr msh mth mnv mns mfa mmo) H) (hD : va_D A (wM b cI cJ cZ mki msz mle mel mme mal mic mil mio mab mae msa mlc mli mna mva mma mch mre mlv mwr msh mth mnv mns mfa mmo)) (hA : ∀ q, s.heap.size ≤ q → A q) (hS : va_S A s.heap H locs) (hl : lv_has ls 6 [(0, .ref (b 0)), (1, .int x), (2, .int y), (3, .int w)]) {post : Int32 → (Nat → Int32) → (Nat → Int64) → (Nat → Int32) → (Nat → Int32) → (Nat → Int32) → (Nat → Int32) → (Nat → Int32) → (Nat → Int32) → (Nat → Int32) → (Nat → Int32) → (Nat → Int32) → (Nat → Int32) → (Nat → Int32) → (Nat → Int32) → (Nat → Int32) → (Nat → Int32) → (Nat → Int32) → (Nat → Int32) → (Nat → Int32) → (Nat → Int32) → (Nat → Int64) → (Nat → Int32) → Int32 → Int32 → Int32 → Int32 → Int32 → Prop} (vc : V_Mo_allElements mki msz mle mel mme mal mic mil mio mab mae msa mlc mli mna mva mma mch mre mlv mwr msh mth mnv mns mfa mmo x y w post)
    (hret : ∀ (v : Int32) (mki : Nat → Int32) (msz : Nat → Int64) (mle : Nat → Int32) (mel : Nat → Int32) (mme : Nat → Int32) (mal : Nat → Int32) (mic : Nat → Int32) (mil : Nat → Int32) (mio : Nat → Int32) (mab : Nat → Int32) (mae : Nat → Int32) (msa : Nat → Int32) (mlc : Nat → Int32) (mli : Nat → Int32) (mna : Nat → Int32) (mva : Nat → Int32) (mma : Nat → Int32) (mch : Nat → Int32) (mre : Nat → Int32) (mlv : Nat → Int32) (mwr : Nat → Int64) (msh : Nat → Int32) (mth : Int32) (mnv : Int32) (mns : Int32) (mfa : Int32) (mmo : Int32) (ls : Array Slot) (pc : Nat) (H : Heap) (locs : List Loc), decode b_Mo_allElements pc = .ok (.ireturn, 1) → post v mki msz mle mel mme mal mic mil mio mab mae msa mlc mli mna mva mma mch mre mlv mwr msh mth mnv mns mfa mmo → va_P D vwCl (wM b cI cJ cZ mki msz mle mel mme mal mic mil mio mab mae msa mlc mli mna mva mma mch mre mlv mwr msh mth mnv mns mfa mmo) H → va_D A (wM b cI cJ cZ mki msz mle mel mme mal mic mil mio mab mae msa mlc mli mna mva mma mch mre mlv mwr msh mth mnv mns mfa mmo) → va_S A s.heap H locs → W p l e R s m args below meth c H locs cells slots Q (F0 m pc ls [.int v])) : W p l e R s m args below meth c H locs cells slots Q (F0 m 0 ls []) := by
  have hx := S.1
  have hb := S.2.1
  have hown := S.2.2.2.1
  have hts := S.2.2.2.2
  unfold V_Mo_allElements at vc
  refine lv_iconst (v := 1) hx hb d_Mo_allElements_0 (by decide) ?_
  refine lv_istore hx hb d_Mo_allElements_1 hl (by decide) (lv' := [(4, .int 1), (0, .ref (b 0)), (1, .int x), (2, .int y), (3, .int w)]) rfl (fun ls hl => ?_)
  refine lv_iconst (v := 0) hx hb d_Mo_allElements_3 (by decide) ?_
  refine lv_istore hx hb d_Mo_allElements_4 hl (by decide) (lv' := [(5, .int 0), (4, .int 1), (0, .ref (b 0)), (1, .int x), (2, .int y), (3, .int w)]) rfl (fun ls hl => ?_)
  obtain ⟨I4, mI4, vc0, vcs⟩ := vc
  have lI4 : ∀ n : Nat, ∀ (x2 : Int32) (x3 : Int32) (ls : Array Slot) (H : Heap) (locs : List Loc), I4 x2 x3 → mI4 x2 x3 < n → lv_has ls 6 [(0, .ref (b 0)), (1, .int x), (2, .int y), (3, .int w), (4, .int x2), (5, .int x3)] → va_P D vwCl (wM b cI cJ cZ mki msz mle mel mme mal mic mil mio mab mae msa mlc mli mna mva mma mch mre mlv mwr msh mth mnv mns mfa mmo) H → va_D A (wM b cI cJ cZ mki msz mle mel mme mal mic mil mio mab mae msa mlc mli mna mva mma mch mre mlv mwr msh mth mnv mns mfa mmo) → va_S A s.heap H locs → W p l e R s m args below meth c H locs cells slots Q (F0 m 6 ls []) := by
    intro n
    induction n with
    | zero => intro x2 x3 ls H locs _ h; exact absurd h (Nat.not_lt_zero _)
    | succ n ihI4 =>
      intro x2 x3 ls H locs vc hmI4 hl hP hD hS
      have vc := vcs x2 x3 vc
      refine lv_iload hx hb d_Mo_allElements_6 (lv_at hl 5 rfl) ?_
      refine lv_aload_n hx hb d_Mo_allElements_8 rfl (lv_at hl 0 rfl) ?_
      refine va_get (D := D) (ci := 6) (v := .ref (b 3)) (C := R_Mo) (T := F_Mo) (N := 27) hx hb hts in_Mo hown hK hP 0 rfl rfl 4 (by decide) (hts _ fl_Mo_17) (fun _ h => h) rfl d_Mo_allElements_9 ?_
      refine lv_iload_n hx hb d_Mo_allElements_12 rfl (lv_at hl 2 rfl) ?_
      obtain ⟨vcb, vc⟩ := vc
      refine va_iald hx hb hK hP 3 0 rfl rfl vcb d_Mo_allElements_13 ?_
      refine lv_icmp_ge (tgt := 64) hx hb d_Mo_allElements_14 (by decide) (fun h => ?_) (fun h => ?_)
      · have vc := vc.1 h
        refine lv_iload hx hb d_Mo_allElements_64 (lv_at hl 4 rfl) ?_
        exact hret _ _ _ _ _ _ _ _ _ _ _ _ _ _ _ _ _ _ _ _ _ _ _ _ _ _ _ _ ls _ H locs d_Mo_allElements_66 vc hP hD hS
      · have vc := vc.2 h
        refine lv_iload hx hb d_Mo_allElements_17 (lv_at hl 4 rfl) ?_
        refine lv_if_eq (tgt := 55) hx hb d_Mo_allElements_19 (by decide) (fun h => ?_) (fun h => ?_)
        · have vc := vc.1 h
          refine lv_iconst (v := 0) hx hb d_Mo_allElements_55 (by decide) ?_
          refine lv_istore hx hb d_Mo_allElements_56 hl (by decide) (lv' := [(4, .int 0), (0, .ref (b 0)), (1, .int x), (2, .int y), (3, .int w), (5, .int x3)]) rfl (fun ls hl => ?_)
          refine lv_iinc (k := 5) (v := x3 + 1) hx hb d_Mo_allElements_58 hl rfl rfl (by decide) (lv' := [(5, .int (x3 + 1)), (4, .int 0), (0, .ref (b 0)), (1, .int x), (2, .int y), (3, .int w)]) rfl (fun ls hl => ?_)
          refine lv_goto (tgt := 6) hx hb d_Mo_allElements_61 (by decide) ?_
          exact ihI4 0 (x3 + 1) ls H locs vc.1 (Nat.lt_of_lt_of_le vc.2 (Nat.le_of_lt_succ hmI4)) (lv_sub hl [2, 3, 4, 5, 1, 0] rfl) hP hD hS
        · have vc := vc.2 h
          refine lv_iload_n hx hb d_Mo_allElements_22 rfl (lv_at hl 3 rfl) ?_
          refine lv_iload hx hb d_Mo_allElements_23 (lv_at hl 5 rfl) ?_
          refine lv_ishr hx hb d_Mo_allElements_25 ?_
          refine lv_iconst (v := 1) hx hb d_Mo_allElements_26 (by decide) ?_
          refine lv_iand hx hb d_Mo_allElements_27 ?_
          refine lv_if_eq (tgt := 51) hx hb d_Mo_allElements_28 (by decide) (fun h => ?_) (fun h => ?_)
          · have vc := vc.1 h
            refine lv_iconst (v := 1) hx hb d_Mo_allElements_51 (by decide) ?_
            refine lv_goto (tgt := 56) hx hb d_Mo_allElements_52 (by decide) ?_
            refine lv_istore hx hb d_Mo_allElements_56 hl (by decide) (lv' := [(4, .int 1), (0, .ref (b 0)), (1, .int x), (2, .int y), (3, .int w), (5, .int x3)]) rfl (fun ls hl => ?_)
            refine lv_iinc (k := 5) (v := x3 + 1) hx hb d_Mo_allElements_58 hl rfl rfl (by decide) (lv' := [(5, .int (x3 + 1)), (4, .int 1), (0, .ref (b 0)), (1, .int x), (2, .int y), (3, .int w)]) rfl (fun ls hl => ?_)
            refine lv_goto (tgt := 6) hx hb d_Mo_allElements_61 (by decide) ?_
            exact ihI4 1 (x3 + 1) ls H locs vc.1 (Nat.lt_of_lt_of_le vc.2 (Nat.le_of_lt_succ hmI4)) (lv_sub hl [2, 3, 4, 5, 1, 0] rfl) hP hD hS
          · have vc := vc.2 h
            refine lv_aload_n hx hb d_Mo_allElements_31 rfl (lv_at hl 0 rfl) ?_
            refine lv_iload_n hx hb d_Mo_allElements_32 rfl (lv_at hl 1 rfl) ?_
            refine lv_aload_n hx hb d_Mo_allElements_33 rfl (lv_at hl 0 rfl) ?_
            refine va_get (D := D) (ci := 6) (v := .ref (b 4)) (C := R_Mo) (T := F_Mo) (N := 27) hx hb hts in_Mo hown hK hP 0 rfl rfl 5 (by decide) (hts _ fl_Mo_20) (fun _ h => h) rfl d_Mo_allElements_34 ?_
            refine lv_bipush (v := 8) hx hb d_Mo_allElements_37 (by decide) ?_
            refine lv_iload_n hx hb d_Mo_allElements_39 rfl (lv_at hl 2 rfl) ?_
            refine lv_imul hx hb d_Mo_allElements_40 ?_
            refine lv_iload hx hb d_Mo_allElements_41 (lv_at hl 5 rfl) ?_
            refine lv_iadd hx hb d_Mo_allElements_43 ?_
            obtain ⟨vcb, vc⟩ := vc
            refine va_iald hx hb hK hP 4 0 rfl rfl vcb d_Mo_allElements_44 ?_
            obtain ⟨hpre, vc⟩ := vc
            refine pc_V (As := [.int x, .int (mel ((8 * y) + x3 : Int32).toNatClampNeg)]) (rest := []) S (c_Mo_isValid l D b cI cJ cZ mki msz mle mel mme mal mic mil mio mab mae msa mlc mli mna mva mma mch mre mlv mwr msh mth mnv mns mfa mmo x (mel ((8 * y) + x3 : Int32).toNatClampNeg) hpre) wB_blind k_Mo_isValid i_Mo_isValid e_Mo_isValid o_Mo ml_Mo_193 hd_Mo_isValid (Nat.le_trans (by decide) hRf) (Nat.le_trans (by decide) hRl) hRc (va_recv hK hP (q0 := 0) (ci := 6) rfl rfl) (wB_at hP hK) hl.1 rfl (Nat.le_of_ble_eq_true rfl) d_Mo_allElements_45 ?_
            refine lv_if_eq (tgt := 55) hx hb d_Mo_allElements_48 (by decide) (fun h => ?_) (fun h => ?_)
            · have vc := vc.1 h
              refine lv_iconst (v := 0) hx hb d_Mo_allElements_55 (by decide) ?_
              refine lv_istore hx hb d_Mo_allElements_56 hl (by decide) (lv' := [(4, .int 0), (0, .ref (b 0)), (1, .int x), (2, .int y), (3, .int w), (5, .int x3)]) rfl (fun ls hl => ?_)
              refine lv_iinc (k := 5) (v := x3 + 1) hx hb d_Mo_allElements_58 hl rfl rfl (by decide) (lv' := [(5, .int (x3 + 1)), (4, .int 0), (0, .ref (b 0)), (1, .int x), (2, .int y), (3, .int w)]) rfl (fun ls hl => ?_)
              refine lv_goto (tgt := 6) hx hb d_Mo_allElements_61 (by decide) ?_
              exact ihI4 0 (x3 + 1) ls H locs vc.1 (Nat.lt_of_lt_of_le vc.2 (Nat.le_of_lt_succ hmI4)) (lv_sub hl [2, 3, 4, 5, 1, 0] rfl) hP hD hS
            · have vc := vc.2 h
              refine lv_iconst (v := 1) hx hb d_Mo_allElements_51 (by decide) ?_
              refine lv_goto (tgt := 56) hx hb d_Mo_allElements_52 (by decide) ?_
              refine lv_istore hx hb d_Mo_allElements_56 hl (by decide) (lv' := [(4, .int 1), (0, .ref (b 0)), (1, .int x), (2, .int y), (3, .int w), (5, .int x3)]) rfl (fun ls hl => ?_)
              refine lv_iinc (k := 5) (v := x3 + 1) hx hb d_Mo_allElements_58 hl rfl rfl (by decide) (lv' := [(5, .int (x3 + 1)), (4, .int 1), (0, .ref (b 0)), (1, .int x), (2, .int y), (3, .int w)]) rfl (fun ls hl => ?_)
              refine lv_goto (tgt := 6) hx hb d_Mo_allElements_61 (by decide) ?_
              exact ihI4 1 (x3 + 1) ls H locs vc.1 (Nat.lt_of_lt_of_le vc.2 (Nat.le_of_lt_succ hmI4)) (lv_sub hl [2, 3, 4, 5, 1, 0] rfl) hP hD hS
  exact lI4 _ 1 0 ls H locs vc0 (Nat.lt_succ_self _) (lv_sub hl [2, 3, 4, 5, 1, 0] rfl) hP hD hS
set_option maxHeartbeats 4000000 in
theorem v_Mo_allElements (mki : Nat → Int32) (msz : Nat → Int64) (mle : Nat → Int32) (mel : Nat → Int32) (mme : Nat → Int32) (mal : Nat → Int32) (mic : Nat → Int32) (mil : Nat → Int32) (mio : Nat → Int32) (mab : Nat → Int32) (mae : Nat → Int32) (msa : Nat → Int32) (mlc : Nat → Int32) (mli : Nat → Int32) (mna : Nat → Int32) (mva : Nat → Int32) (mma : Nat → Int32) (mch : Nat → Int32) (mre : Nat → Int32) (mlv : Nat → Int32) (mwr : Nat → Int64) (msh : Nat → Int32) (mth : Int32) (mnv : Int32) (mns : Int32) (mfa : Int32) (mmo : Int32) (x : Int32) (y : Int32) (w : Int32) (hpre : (∃ n0 m0 s0 v0 : Nat, mnv = nI n0 ∧ mns = nI m0 ∧ MSOK mki msz mle mel mme mic mio msa mlc mli mna mva n0 m0 ∧ s0 < m0 ∧ v0 < n0 ∧ x = nI s0 ∧ y = nI v0)) : V_Mo_allElements mki msz mle mel mme mal mic mil mio mab mae msa mlc mli mna mva mma mch mre mlv mwr msh mth mnv mns mfa mmo x y w (fun v mki' msz' mle' mel' mme' mal' mic' mil' mio' mab' mae' msa' mlc' mli' mna' mva' mma' mch' mre' mlv' mwr' msh' mth' mnv' mns' mfa' mmo' => ∃ rr : Bool, v = bI rr ∧ ((rr = true ↔ ∀ i, i < (mle y.toNatClampNeg).toNatClampNeg → bt w i = true → ¬ mva (40 * x.toNatClampNeg + (mel (8 * y.toNatClampNeg + i)).toNatClampNeg) = 0)) ∧ mki' = mki ∧ msz' = msz ∧ mle' = mle ∧ mel' = mel ∧ mme' = mme ∧ mal' = mal ∧ mic' = mic ∧ mil' = mil ∧ mio' = mio ∧ mab' = mab ∧ mae' = mae ∧ msa' = msa ∧ mlc' = mlc ∧ mli' = mli ∧ mna' = mna ∧ mva' = mva ∧ mma' = mma ∧ mch' = mch ∧ mre' = mre ∧ mlv' = mlv ∧ mwr' = mwr ∧ msh' = msh ∧ mth' = mth ∧ mnv' = mnv ∧ mns' = mns ∧ mfa' = mfa ∧ mmo' = mmo) := by
  have main : ∀ post : Int32 → (Nat → Int32) → (Nat → Int64) → (Nat → Int32) → (Nat → Int32) → (Nat → Int32) → (Nat → Int32) → (Nat → Int32) → (Nat → Int32) → (Nat → Int32) → (Nat → Int32) → (Nat → Int32) → (Nat → Int32) → (Nat → Int32) → (Nat → Int32) → (Nat → Int32) → (Nat → Int32) → (Nat → Int32) → (Nat → Int32) → (Nat → Int32) → (Nat → Int32) → (Nat → Int64) → (Nat → Int32) → Int32 → Int32 → Int32 → Int32 → Int32 → Prop, (∀ v mki' msz' mle' mel' mme' mal' mic' mil' mio' mab' mae' msa' mlc' mli' mna' mva' mma' mch' mre' mlv' mwr' msh' mth' mnv' mns' mfa' mmo', (fun v mki' msz' mle' mel' mme' mal' mic' mil' mio' mab' mae' msa' mlc' mli' mna' mva' mma' mch' mre' mlv' mwr' msh' mth' mnv' mns' mfa' mmo' => ∃ rr : Bool, v = bI rr ∧ ((rr = true ↔ ∀ i, i < (mle y.toNatClampNeg).toNatClampNeg → bt w i = true → ¬ mva (40 * x.toNatClampNeg + (mel (8 * y.toNatClampNeg + i)).toNatClampNeg) = 0)) ∧ mki' = mki ∧ msz' = msz ∧ mle' = mle ∧ mel' = mel ∧ mme' = mme ∧ mal' = mal ∧ mic' = mic ∧ mil' = mil ∧ mio' = mio ∧ mab' = mab ∧ mae' = mae ∧ msa' = msa ∧ mlc' = mlc ∧ mli' = mli ∧ mna' = mna ∧ mva' = mva ∧ mma' = mma ∧ mch' = mch ∧ mre' = mre ∧ mlv' = mlv ∧ mwr' = mwr ∧ msh' = msh ∧ mth' = mth ∧ mnv' = mnv ∧ mns' = mns ∧ mfa' = mfa ∧ mmo' = mmo) v mki' msz' mle' mel' mme' mal' mic' mil' mio' mab' mae' msa' mlc' mli' mna' mva' mma' mch' mre' mlv' mwr' msh' mth' mnv' mns' mfa' mmo' → post v mki' msz' mle' mel' mme' mal' mic' mil' mio' mab' mae' msa' mlc' mli' mna' mva' mma' mch' mre' mlv' mwr' msh' mth' mnv' mns' mfa' mmo') → V_Mo_allElements mki msz mle mel mme mal mic mil mio mab mae msa mlc mli mna mva mma mch mre mlv mwr msh mth mnv mns mfa mmo x y w post := by
    intro post hpost
    unfold V_Mo_allElements
    obtain ⟨n0, m0, s0, v0, hnv, hns, hS, hs, hv, rfl, rfl⟩ := hpre
    have hm24 := hS.2.2.1
    have hn40 := hS.1.1
    have hs24 : s0 < 24 := by omega
    have hv40 : v0 < 40 := by omega
    have cs : (nI s0).toNatClampNeg = s0 := nI_clamp (by omega)
    have cv : (nI v0).toNatClampNeg = v0 := nI_clamp (by omega)
    have cn : mnv.toNatClampNeg = n0 := by rw [hnv]; exact nI_clamp (by omega)
    have hxv : vp_in (nI v0) 40 := vp_in_nI hv40 (by decide)
    obtain ⟨⟨kd, hkd, ekd⟩, ⟨L, hL, eL⟩, hpart, hmem, htxt⟩ := hS.1.2.2 v0 hv40
    have cL : (nI L).toNatClampNeg = L := nI_clamp (by omega)
    have hL8 : (mle v0).toNatClampNeg ≤ 8 := by rw [eL, cL]; exact hL
    simp only [cs, cv, cn, eL, cL] at hpost ⊢
    refine ⟨fun z xi => ∃ k b, k ≤ L ∧ xi = nI k ∧ z = bI b ∧ (b = true ↔ ∀ i, i < k → bt w i = true → ¬ mva (40 * s0 + (mel (8 * v0 + i)).toNatClampNeg) = 0), fun _ xi => L - xi.toInt.toNat, ⟨0, true, Nat.zero_le _, rfl, rfl, ⟨fun _ i q => absurd q (Nat.not_lt_zero _), fun _ => rfl⟩⟩, ?_⟩
    rintro z xi ⟨k, b, hk, rfl, rfl, hb⟩
    refine ⟨hxv, fun h => ?_, fun h => ?_⟩
    · obtain rfl := (fill_end (N := L) h (by omega) hk).symm
      exact (hpost _ _ _ _ _ _ _ _ _ _ _ _ _ _ _ _ _ _ _ _ _ _ _ _ _ _ _ _ ⟨b, rfl, hb, rfl, rfl, rfl, rfl, rfl, rfl, rfl, rfl, rfl, rfl, rfl, rfl, rfl, rfl, rfl, rfl, rfl, rfl, rfl, rfl, rfl, rfl, rfl, rfl, rfl, rfl, rfl⟩)
    · have hk2 := fill_step (N := L) h (by omega) hk
      have mu := fill_mu (N := L) hk2 (by omega)
      have c8 : (nI (8 * v0 + k)).toNatClampNeg = 8 * v0 + k := nI_clamp (by omega)
      obtain ⟨p, hp, ep⟩ := hpart k (by rw [eL, cL]; exact hk2)
      have cp : (mel (8 * v0 + k)).toNatClampNeg = p := by rw [ep]; exact nI_clamp (by omega)
      have hva := va_ok hS (x := s0) (w := p) (by omega) (by omega)
      have c4 := c40 (x := s0) (w := p) (by omega) (by omega)
      have nx : ∀ c : Bool, (c = true ↔ (b = true ∧ (bt w k = true → ¬ mva (40 * s0 + p) = 0))) → ∃ k2 b2, k2 ≤ L ∧ nI k + 1 = nI k2 ∧ bI c = bI b2 ∧ (b2 = true ↔ ∀ i, i < k2 → bt w i = true → ¬ mva (40 * s0 + (mel (8 * v0 + i)).toNatClampNeg) = 0) := fun c hc => by
        refine ⟨k + 1, c, hk2, nI_1 k, rfl, ?_⟩
        rw [hc, hb]
        constructor
        · rintro ⟨q1, q2⟩ i hi hw
          by_cases e : i = k
          · subst e; rw [cp]; exact q2 hw
          · exact q1 i (by omega) hw
        · intro q; exact ⟨fun i hi => q i (by omega), fun hw => by have := q k (by omega) hw; rw [cp] at this; exact this⟩
      rw [jx8v, c8, ep, b_and1 _ (by omega)]
      refine ⟨fun h2 => ⟨nx false ⟨fun q => absurd q (by decide), fun q => ?_⟩, mu⟩, fun h2 => ⟨fun h3 => ⟨nx true ⟨fun _ => ⟨bI_ne.mp h2, fun q => ?_⟩, fun _ => rfl⟩, mu⟩, fun h3 => ⟨vp_in_nI (by omega) (by decide), hva, fun h4 => ⟨nx false ⟨fun q => absurd q (by decide), fun q => ?_⟩, mu⟩, fun h4 => ⟨nx true ⟨fun _ => ⟨bI_ne.mp h2, fun _ => ?_⟩, fun _ => rfl⟩, mu⟩⟩⟩⟩
      · have := q.1; rw [bI0.mp h2] at this; exact absurd this (by decide)
      · rw [bI0.mp h3] at q; exact absurd q (by decide)
      · have := of_decide_eq_false (bI0.mp h4)
        rw [c4] at this; exact absurd (q.2 (bI_ne.mp h3)) this
      · have := of_decide_eq_true (bI_ne.mp h4)
        rw [c4] at this; exact this
  exact main _ (fun _ _ _ _ _ _ _ _ _ _ _ _ _ _ _ _ _ _ _ _ _ _ _ _ _ _ _ _ h => h)
theorem c_Mo_allElements (l : Launch) (D : va_G) (b : Nat → Nat) (cI cJ cZ : ClassId) (mki : Nat → Int32) (msz : Nat → Int64) (mle : Nat → Int32) (mel : Nat → Int32) (mme : Nat → Int32) (mal : Nat → Int32) (mic : Nat → Int32) (mil : Nat → Int32) (mio : Nat → Int32) (mab : Nat → Int32) (mae : Nat → Int32) (msa : Nat → Int32) (mlc : Nat → Int32) (mli : Nat → Int32) (mna : Nat → Int32) (mva : Nat → Int32) (mma : Nat → Int32) (mch : Nat → Int32) (mre : Nat → Int32) (mlv : Nat → Int32) (mwr : Nat → Int64) (msh : Nat → Int32) (mth : Int32) (mnv : Int32) (mns : Int32) (mfa : Int32) (mmo : Int32) (x : Int32) (y : Int32) (w : Int32) (hpre : (∃ n0 m0 s0 v0 : Nat, mnv = nI n0 ∧ mns = nI m0 ∧ MSOK mki msz mle mel mme mic mio msa mlc mli mna mva n0 m0 ∧ s0 < m0 ∧ v0 < n0 ∧ x = nI s0 ∧ y = nI v0)) : Wm (S := Bool) l y_Mo_allElements b_Mo_allElements 6 (some .boolean) 1 22 [.ref (b 0), .int x, .int y, .int w] D (tyA cI cJ cZ) (wM b cI cJ cZ mki msz mle mel mme mal mic mil mio mab mae msa mlc mli mna mva mma mch mre mlv mwr msh mth mnv mns mfa mmo) (fun uu => (uu = true ↔ ∀ i, i < (mle y.toNatClampNeg).toNatClampNeg → bt w i = true → ¬ mva (40 * x.toNatClampNeg + (mel (8 * y.toNatClampNeg + i)).toNatClampNeg) = 0)) (fun uu => some (.int (bI uu))) (fun uu => (wM b cI cJ cZ mki msz mle mel mme mal mic mil mio mab mae msa mlc mli mna mva mma mch mre mlv mwr msh mth mnv mns mfa mmo)) :=
  wm_i (by decide) (fun _ _ => bI_nar _) (Nat.le_of_ble_eq_true rfl) (fun p e s m below meth c ls Q A S hK hP hD hA hS hl hret => g_Mo_allElements S (Nat.le_refl _) (Nat.le_refl _) ⟨Nat.le_refl _, Nat.le_refl _⟩ D b cI cJ cZ mki msz mle mel mme mal mic mil mio mab mae msa mlc mli mna mva mma mch mre mlv mwr msh mth mnv mns mfa mmo x y w hK hP hD hA hS hl (v_Mo_allElements mki msz mle mel mme mal mic mil mio mab mae msa mlc mli mna mva mma mch mre mlv mwr msh mth mnv mns mfa mmo x y w hpre) (fun v mki' msz' mle' mel' mme' mal' mic' mil' mio' mab' mae' msa' mlc' mli' mna' mva' mma' mch' mre' mlv' mwr' msh' mth' mnv' mns' mfa' mmo' ls1 pc H1 locs1 hd hv hP1 hD1 hS1 => by obtain ⟨rr, rfl, hp, rfl, rfl, rfl, rfl, rfl, rfl, rfl, rfl, rfl, rfl, rfl, rfl, rfl, rfl, rfl, rfl, rfl, rfl, rfl, rfl, rfl, rfl, rfl, rfl, rfl, rfl, rfl⟩ := hv; exact hret rr _ ls1 pc H1 locs1 hd hp rfl hP1 hD1 hS1))
theorem hd_Mo_allElements : y_Mo_allElements.cls ≠ "java/lang/invoke/MethodHandle" ∧ y_Mo_allElements.cls ≠ "java/lang/invoke/VarHandle" ∧ (parseMethodDescriptor y_Mo_allElements.desc).map (fun d => d.parameters.length) = some 3 := ⟨by decide, by decide, by decide +kernel⟩
def V_Mo_allMembers (mki : Nat → Int32) (msz : Nat → Int64) (mle : Nat → Int32) (mel : Nat → Int32) (mme : Nat → Int32) (mal : Nat → Int32) (mic : Nat → Int32) (mil : Nat → Int32) (mio : Nat → Int32) (mab : Nat → Int32) (mae : Nat → Int32) (msa : Nat → Int32) (mlc : Nat → Int32) (mli : Nat → Int32) (mna : Nat → Int32) (mva : Nat → Int32) (mma : Nat → Int32) (mch : Nat → Int32) (mre : Nat → Int32) (mlv : Nat → Int32) (mwr : Nat → Int64) (msh : Nat → Int32) (mth : Int32) (mnv : Int32) (mns : Int32) (mfa : Int32) (mmo : Int32) (x : Int32) (y : Int32) (w : Int32) (post : Int32 → (Nat → Int32) → (Nat → Int64) → (Nat → Int32) → (Nat → Int32) → (Nat → Int32) → (Nat → Int32) → (Nat → Int32) → (Nat → Int32) → (Nat → Int32) → (Nat → Int32) → (Nat → Int32) → (Nat → Int32) → (Nat → Int32) → (Nat → Int32) → (Nat → Int32) → (Nat → Int32) → (Nat → Int32) → (Nat → Int32) → (Nat → Int32) → (Nat → Int32) → (Nat → Int64) → (Nat → Int32) → Int32 → Int32 → Int32 → Int32 → Int32 → Prop) : Prop :=
  (∃ (I4 : Int32 → Int32 → Prop) (mI4 : Int32 → Int32 → Nat), I4 1 0 ∧ (∀ (x2 : Int32) (x3 : Int32), I4 x2 x3 → ((12 ≤ x3 → post x2 mki msz mle mel mme mal mic mil mio mab mae msa mlc mli mna mva mma mch mre mlv mwr msh mth mnv mns mfa mmo) ∧ (¬ 12 ≤ x3 → ((x2 = 0 → (I4 0 (x3 + 1) ∧ mI4 0 (x3 + 1) < mI4 x2 x3)) ∧ (¬ x2 = 0 → ((((w >>> (x3 &&& 31)) &&& 1) = 0 → (I4 1 (x3 + 1) ∧ mI4 1 (x3 + 1) < mI4 x2 x3)) ∧ (¬ ((w >>> (x3 &&& 31)) &&& 1) = 0 → ((vp_in y 40 ∧ vp_in (12 * y + x3) 480) ∧ (((if mki y.toNatClampNeg = 5 then mme (12 * y + x3 : Int32).toNatClampNeg else -1) < 0 → (I4 1 (x3 + 1) ∧ mI4 1 (x3 + 1) < mI4 x2 x3)) ∧ (¬ (if mki y.toNatClampNeg = 5 then mme (12 * y + x3 : Int32).toNatClampNeg else -1) < 0 → ((vp_in y 40 ∧ vp_in (12 * y + x3) 480) ∧ ((vp_in (40 * x + (if mki y.toNatClampNeg = 5 then mme (12 * y + x3 : Int32).toNatClampNeg else -1)) 960 ∧ (mva (40 * x + (if mki y.toNatClampNeg = 5 then mme (12 * y + x3 : Int32).toNatClampNeg else -1) : Int32).toNatClampNeg = 0 ∨ mva (40 * x + (if mki y.toNatClampNeg = 5 then mme (12 * y + x3 : Int32).toNatClampNeg else -1) : Int32).toNatClampNeg = 1)) ∧ (((bI (decide (¬ mva (40 * x + (if mki y.toNatClampNeg = 5 then mme (12 * y + x3 : Int32).toNatClampNeg else -1) : Int32).toNatClampNeg = 0))) = 0 → (I4 0 (x3 + 1) ∧ mI4 0 (x3 + 1) < mI4 x2 x3)) ∧ (¬ (bI (decide (¬ mva (40 * x + (if mki y.toNatClampNeg = 5 then mme (12 * y + x3 : Int32).toNatClampNeg else -1) : Int32).toNatClampNeg = 0))) = 0 → (I4 1 (x3 + 1) ∧ mI4 1 (x3 + 1) < mI4 x2 x3))))))))))))))))
set_option maxHeartbeats 4000000 in
set_option maxRecDepth 100000 in
theorem g_Mo_allMembers {p : Program} {l : Launch} {e : Env} {R : Room} {s : State} {m : MethodId} {args : Array Value} {below : List Frame} {meth : Method} {c : Code} {H : Heap} {locs : List Loc} {cells slots : Nat} {Q : State → Prop} {ls : Array Slot} {A : Nat → Prop} (S : CallFix p m c b_Mo_allMembers 6 s args W0 R_Mo) (hRf : 1 ≤ R.frames) (hRl : 22 ≤ R.locals) (hRc : cells ≤ R.cells ∧ slots ≤ R.slots) (D : va_G) (b : Nat → Nat) (cI cJ cZ : ClassId) (mki : Nat → Int32) (msz : Nat → Int64) (mle : Nat → Int32) (mel : Nat → Int32) (mme : Nat → Int32) (mal : Nat → Int32) (mic : Nat → Int32) (mil : Nat → Int32) (mio : Nat → Int32) (mab : Nat → Int32) (mae : Nat → Int32) (msa : Nat → Int32) (mlc : Nat → Int32) (mli : Nat → Int32) (mna : Nat → Int32) (mva : Nat → Int32) (mma : Nat → Int32) (mch : Nat → Int32) (mre : Nat → Int32) (mlv : Nat → Int32) (mwr : Nat → Int64) (msh : Nat → Int32) (mth : Int32) (mnv : Int32) (mns : Int32) (mfa : Int32) (mmo : Int32) (x : Int32) (y : Int32) (w : Int32) (hK : va_K D vwCl (tyA cI cJ cZ) s) (hP : va_P D vwCl (wM b cI cJ cZ mki msz mle mel mme mal mic mil mio mab mae msa mlc mli mna mva mma mch mre mlv mwr msh mth mnv mns mfa mmo) H) (hD : va_D A (wM b cI cJ cZ mki msz mle mel mme mal mic mil mio mab mae msa mlc mli mna mva mma mch mre mlv mwr msh mth mnv mns mfa mmo)) (hA : ∀ q, s.heap.size ≤ q → A q) (hS : va_S A s.heap H locs) (hl : lv_has ls 6 [(0, .ref (b 0)), (1, .int x), (2, .int y), (3, .int w)]) {post : Int32 → (Nat → Int32) → (Nat → Int64) → (Nat → Int32) → (Nat → Int32) → (Nat → Int32) → (Nat → Int32) → (Nat → Int32) → (Nat → Int32) → (Nat → Int32) → (Nat → Int32) → (Nat → Int32) → (Nat → Int32) → (Nat → Int32) → (Nat → Int32) → (Nat → Int32) → (Nat → Int32) → (Nat → Int32) → (Nat → Int32) → (Nat → Int32) → (Nat → Int32) → (Nat → Int64) → (Nat → Int32) → Int32 → Int32 → Int32 → Int32 → Int32 → Prop} (vc : V_Mo_allMembers mki msz mle mel mme mal mic mil mio mab mae msa mlc mli mna mva mma mch mre mlv mwr msh mth mnv mns mfa mmo x y w post)
    (hret : ∀ (v : Int32) (mki : Nat → Int32) (msz : Nat → Int64) (mle : Nat → Int32) (mel : Nat → Int32) (mme : Nat → Int32) (mal : Nat → Int32) (mic : Nat → Int32) (mil : Nat → Int32) (mio : Nat → Int32) (mab : Nat → Int32) (mae : Nat → Int32) (msa : Nat → Int32) (mlc : Nat → Int32) (mli : Nat → Int32) (mna : Nat → Int32) (mva : Nat → Int32) (mma : Nat → Int32) (mch : Nat → Int32) (mre : Nat → Int32) (mlv : Nat → Int32) (mwr : Nat → Int64) (msh : Nat → Int32) (mth : Int32) (mnv : Int32) (mns : Int32) (mfa : Int32) (mmo : Int32) (ls : Array Slot) (pc : Nat) (H : Heap) (locs : List Loc), decode b_Mo_allMembers pc = .ok (.ireturn, 1) → post v mki msz mle mel mme mal mic mil mio mab mae msa mlc mli mna mva mma mch mre mlv mwr msh mth mnv mns mfa mmo → va_P D vwCl (wM b cI cJ cZ mki msz mle mel mme mal mic mil mio mab mae msa mlc mli mna mva mma mch mre mlv mwr msh mth mnv mns mfa mmo) H → va_D A (wM b cI cJ cZ mki msz mle mel mme mal mic mil mio mab mae msa mlc mli mna mva mma mch mre mlv mwr msh mth mnv mns mfa mmo) → va_S A s.heap H locs → W p l e R s m args below meth c H locs cells slots Q (F0 m pc ls [.int v])) : W p l e R s m args below meth c H locs cells slots Q (F0 m 0 ls []) := by
  have hx := S.1
  have hb := S.2.1
  have hown := S.2.2.2.1
  have hts := S.2.2.2.2
  unfold V_Mo_allMembers at vc
  refine lv_iconst (v := 1) hx hb d_Mo_allMembers_0 (by decide) ?_
  refine lv_istore hx hb d_Mo_allMembers_1 hl (by decide) (lv' := [(4, .int 1), (0, .ref (b 0)), (1, .int x), (2, .int y), (3, .int w)]) rfl (fun ls hl => ?_)
  refine lv_iconst (v := 0) hx hb d_Mo_allMembers_3 (by decide) ?_
  refine lv_istore hx hb d_Mo_allMembers_4 hl (by decide) (lv' := [(5, .int 0), (4, .int 1), (0, .ref (b 0)), (1, .int x), (2, .int y), (3, .int w)]) rfl (fun ls hl => ?_)
  obtain ⟨I4, mI4, vc0, vcs⟩ := vc
  have lI4 : ∀ n : Nat, ∀ (x2 : Int32) (x3 : Int32) (ls : Array Slot) (H : Heap) (locs : List Loc), I4 x2 x3 → mI4 x2 x3 < n → lv_has ls 6 [(0, .ref (b 0)), (1, .int x), (2, .int y), (3, .int w), (4, .int x2), (5, .int x3)] → va_P D vwCl (wM b cI cJ cZ mki msz mle mel mme mal mic mil mio mab mae msa mlc mli mna mva mma mch mre mlv mwr msh mth mnv mns mfa mmo) H → va_D A (wM b cI cJ cZ mki msz mle mel mme mal mic mil mio mab mae msa mlc mli mna mva mma mch mre mlv mwr msh mth mnv mns mfa mmo) → va_S A s.heap H locs → W p l e R s m args below meth c H locs cells slots Q (F0 m 6 ls []) := by
    intro n
    induction n with
    | zero => intro x2 x3 ls H locs _ h; exact absurd h (Nat.not_lt_zero _)
    | succ n ihI4 =>
      intro x2 x3 ls H locs vc hmI4 hl hP hD hS
      have vc := vcs x2 x3 vc
      refine lv_iload hx hb d_Mo_allMembers_6 (lv_at hl 5 rfl) ?_
      refine lv_bipush (v := 12) hx hb d_Mo_allMembers_8 (by decide) ?_
      refine lv_icmp_ge (tgt := 65) hx hb d_Mo_allMembers_10 (by decide) (fun h => ?_) (fun h => ?_)
      · have vc := vc.1 h
        refine lv_iload hx hb d_Mo_allMembers_65 (lv_at hl 4 rfl) ?_
        exact hret _ _ _ _ _ _ _ _ _ _ _ _ _ _ _ _ _ _ _ _ _ _ _ _ _ _ _ _ ls _ H locs d_Mo_allMembers_67 vc hP hD hS
      · have vc := vc.2 h
        refine lv_iload hx hb d_Mo_allMembers_13 (lv_at hl 4 rfl) ?_
        refine lv_if_eq (tgt := 56) hx hb d_Mo_allMembers_15 (by decide) (fun h => ?_) (fun h => ?_)
        · have vc := vc.1 h
          refine lv_iconst (v := 0) hx hb d_Mo_allMembers_56 (by decide) ?_
          refine lv_istore hx hb d_Mo_allMembers_57 hl (by decide) (lv' := [(4, .int 0), (0, .ref (b 0)), (1, .int x), (2, .int y), (3, .int w), (5, .int x3)]) rfl (fun ls hl => ?_)
          refine lv_iinc (k := 5) (v := x3 + 1) hx hb d_Mo_allMembers_59 hl rfl rfl (by decide) (lv' := [(5, .int (x3 + 1)), (4, .int 0), (0, .ref (b 0)), (1, .int x), (2, .int y), (3, .int w)]) rfl (fun ls hl => ?_)
          refine lv_goto (tgt := 6) hx hb d_Mo_allMembers_62 (by decide) ?_
          exact ihI4 0 (x3 + 1) ls H locs vc.1 (Nat.lt_of_lt_of_le vc.2 (Nat.le_of_lt_succ hmI4)) (lv_sub hl [2, 3, 4, 5, 1, 0] rfl) hP hD hS
        · have vc := vc.2 h
          refine lv_iload_n hx hb d_Mo_allMembers_18 rfl (lv_at hl 3 rfl) ?_
          refine lv_iload hx hb d_Mo_allMembers_19 (lv_at hl 5 rfl) ?_
          refine lv_ishr hx hb d_Mo_allMembers_21 ?_
          refine lv_iconst (v := 1) hx hb d_Mo_allMembers_22 (by decide) ?_
          refine lv_iand hx hb d_Mo_allMembers_23 ?_
          refine lv_if_eq (tgt := 52) hx hb d_Mo_allMembers_24 (by decide) (fun h => ?_) (fun h => ?_)
          · have vc := vc.1 h
            refine lv_iconst (v := 1) hx hb d_Mo_allMembers_52 (by decide) ?_
            refine lv_goto (tgt := 57) hx hb d_Mo_allMembers_53 (by decide) ?_
            refine lv_istore hx hb d_Mo_allMembers_57 hl (by decide) (lv' := [(4, .int 1), (0, .ref (b 0)), (1, .int x), (2, .int y), (3, .int w), (5, .int x3)]) rfl (fun ls hl => ?_)
            refine lv_iinc (k := 5) (v := x3 + 1) hx hb d_Mo_allMembers_59 hl rfl rfl (by decide) (lv' := [(5, .int (x3 + 1)), (4, .int 1), (0, .ref (b 0)), (1, .int x), (2, .int y), (3, .int w)]) rfl (fun ls hl => ?_)
            refine lv_goto (tgt := 6) hx hb d_Mo_allMembers_62 (by decide) ?_
            exact ihI4 1 (x3 + 1) ls H locs vc.1 (Nat.lt_of_lt_of_le vc.2 (Nat.le_of_lt_succ hmI4)) (lv_sub hl [2, 3, 4, 5, 1, 0] rfl) hP hD hS
          · have vc := vc.2 h
            refine lv_aload_n hx hb d_Mo_allMembers_27 rfl (lv_at hl 0 rfl) ?_
            refine lv_iload_n hx hb d_Mo_allMembers_28 rfl (lv_at hl 2 rfl) ?_
            refine lv_iload hx hb d_Mo_allMembers_29 (lv_at hl 5 rfl) ?_
            obtain ⟨hpre, vc⟩ := vc
            refine pc_V (As := [.int y, .int x3]) (rest := []) S (c_Mo_memberOf l D b cI cJ cZ mki msz mle mel mme mal mic mil mio mab mae msa mlc mli mna mva mma mch mre mlv mwr msh mth mnv mns mfa mmo y x3 hpre) wB_blind k_Mo_memberOf i_Mo_memberOf e_Mo_memberOf o_Mo ml_Mo_167 hd_Mo_memberOf (Nat.le_trans (by decide) hRf) (Nat.le_trans (by decide) hRl) hRc (va_recv hK hP (q0 := 0) (ci := 6) rfl rfl) (wB_at hP hK) hl.1 rfl (Nat.le_of_ble_eq_true rfl) d_Mo_allMembers_31 ?_
            refine lv_if_lt (tgt := 52) hx hb d_Mo_allMembers_34 (by decide) (fun h => ?_) (fun h => ?_)
            · have vc := vc.1 h
              refine lv_iconst (v := 1) hx hb d_Mo_allMembers_52 (by decide) ?_
              refine lv_goto (tgt := 57) hx hb d_Mo_allMembers_53 (by decide) ?_
              refine lv_istore hx hb d_Mo_allMembers_57 hl (by decide) (lv' := [(4, .int 1), (0, .ref (b 0)), (1, .int x), (2, .int y), (3, .int w), (5, .int x3)]) rfl (fun ls hl => ?_)
              refine lv_iinc (k := 5) (v := x3 + 1) hx hb d_Mo_allMembers_59 hl rfl rfl (by decide) (lv' := [(5, .int (x3 + 1)), (4, .int 1), (0, .ref (b 0)), (1, .int x), (2, .int y), (3, .int w)]) rfl (fun ls hl => ?_)
              refine lv_goto (tgt := 6) hx hb d_Mo_allMembers_62 (by decide) ?_
              exact ihI4 1 (x3 + 1) ls H locs vc.1 (Nat.lt_of_lt_of_le vc.2 (Nat.le_of_lt_succ hmI4)) (lv_sub hl [2, 3, 4, 5, 1, 0] rfl) hP hD hS
            · have vc := vc.2 h
              refine lv_aload_n hx hb d_Mo_allMembers_37 rfl (lv_at hl 0 rfl) ?_
              refine lv_iload_n hx hb d_Mo_allMembers_38 rfl (lv_at hl 1 rfl) ?_
              refine lv_aload_n hx hb d_Mo_allMembers_39 rfl (lv_at hl 0 rfl) ?_
              refine lv_iload_n hx hb d_Mo_allMembers_40 rfl (lv_at hl 2 rfl) ?_
              refine lv_iload hx hb d_Mo_allMembers_41 (lv_at hl 5 rfl) ?_
              obtain ⟨hpre, vc⟩ := vc
              refine pc_V (As := [.int y, .int x3]) (rest := [.int x, .ref (b 0)]) S (c_Mo_memberOf l D b cI cJ cZ mki msz mle mel mme mal mic mil mio mab mae msa mlc mli mna mva mma mch mre mlv mwr msh mth mnv mns mfa mmo y x3 hpre) wB_blind k_Mo_memberOf i_Mo_memberOf e_Mo_memberOf o_Mo ml_Mo_167 hd_Mo_memberOf (Nat.le_trans (by decide) hRf) (Nat.le_trans (by decide) hRl) hRc (va_recv hK hP (q0 := 0) (ci := 6) rfl rfl) (wB_at hP hK) hl.1 rfl (Nat.le_of_ble_eq_true rfl) d_Mo_allMembers_43 ?_
              obtain ⟨hpre, vc⟩ := vc
              refine pc_V (As := [.int x, .int (if mki y.toNatClampNeg = 5 then mme (12 * y + x3 : Int32).toNatClampNeg else -1)]) (rest := []) S (c_Mo_isValid l D b cI cJ cZ mki msz mle mel mme mal mic mil mio mab mae msa mlc mli mna mva mma mch mre mlv mwr msh mth mnv mns mfa mmo x (if mki y.toNatClampNeg = 5 then mme (12 * y + x3 : Int32).toNatClampNeg else -1) hpre) wB_blind k_Mo_isValid i_Mo_isValid e_Mo_isValid o_Mo ml_Mo_193 hd_Mo_isValid (Nat.le_trans (by decide) hRf) (Nat.le_trans (by decide) hRl) hRc (va_recv hK hP (q0 := 0) (ci := 6) rfl rfl) (wB_at hP hK) hl.1 rfl (Nat.le_of_ble_eq_true rfl) d_Mo_allMembers_46 ?_
              refine lv_if_eq (tgt := 56) hx hb d_Mo_allMembers_49 (by decide) (fun h => ?_) (fun h => ?_)
              · have vc := vc.1 h
                refine lv_iconst (v := 0) hx hb d_Mo_allMembers_56 (by decide) ?_
                refine lv_istore hx hb d_Mo_allMembers_57 hl (by decide) (lv' := [(4, .int 0), (0, .ref (b 0)), (1, .int x), (2, .int y), (3, .int w), (5, .int x3)]) rfl (fun ls hl => ?_)
                refine lv_iinc (k := 5) (v := x3 + 1) hx hb d_Mo_allMembers_59 hl rfl rfl (by decide) (lv' := [(5, .int (x3 + 1)), (4, .int 0), (0, .ref (b 0)), (1, .int x), (2, .int y), (3, .int w)]) rfl (fun ls hl => ?_)
                refine lv_goto (tgt := 6) hx hb d_Mo_allMembers_62 (by decide) ?_
                exact ihI4 0 (x3 + 1) ls H locs vc.1 (Nat.lt_of_lt_of_le vc.2 (Nat.le_of_lt_succ hmI4)) (lv_sub hl [2, 3, 4, 5, 1, 0] rfl) hP hD hS
              · have vc := vc.2 h
                refine lv_iconst (v := 1) hx hb d_Mo_allMembers_52 (by decide) ?_
                refine lv_goto (tgt := 57) hx hb d_Mo_allMembers_53 (by decide) ?_
                refine lv_istore hx hb d_Mo_allMembers_57 hl (by decide) (lv' := [(4, .int 1), (0, .ref (b 0)), (1, .int x), (2, .int y), (3, .int w), (5, .int x3)]) rfl (fun ls hl => ?_)
                refine lv_iinc (k := 5) (v := x3 + 1) hx hb d_Mo_allMembers_59 hl rfl rfl (by decide) (lv' := [(5, .int (x3 + 1)), (4, .int 1), (0, .ref (b 0)), (1, .int x), (2, .int y), (3, .int w)]) rfl (fun ls hl => ?_)
                refine lv_goto (tgt := 6) hx hb d_Mo_allMembers_62 (by decide) ?_
                exact ihI4 1 (x3 + 1) ls H locs vc.1 (Nat.lt_of_lt_of_le vc.2 (Nat.le_of_lt_succ hmI4)) (lv_sub hl [2, 3, 4, 5, 1, 0] rfl) hP hD hS
  exact lI4 _ 1 0 ls H locs vc0 (Nat.lt_succ_self _) (lv_sub hl [2, 3, 4, 5, 1, 0] rfl) hP hD hS
set_option maxHeartbeats 4000000 in
theorem v_Mo_allMembers (mki : Nat → Int32) (msz : Nat → Int64) (mle : Nat → Int32) (mel : Nat → Int32) (mme : Nat → Int32) (mal : Nat → Int32) (mic : Nat → Int32) (mil : Nat → Int32) (mio : Nat → Int32) (mab : Nat → Int32) (mae : Nat → Int32) (msa : Nat → Int32) (mlc : Nat → Int32) (mli : Nat → Int32) (mna : Nat → Int32) (mva : Nat → Int32) (mma : Nat → Int32) (mch : Nat → Int32) (mre : Nat → Int32) (mlv : Nat → Int32) (mwr : Nat → Int64) (msh : Nat → Int32) (mth : Int32) (mnv : Int32) (mns : Int32) (mfa : Int32) (mmo : Int32) (x : Int32) (y : Int32) (w : Int32) (hpre : (∃ n0 m0 s0 v0 : Nat, mnv = nI n0 ∧ mns = nI m0 ∧ MSOK mki msz mle mel mme mic mio msa mlc mli mna mva n0 m0 ∧ s0 < m0 ∧ v0 < n0 ∧ x = nI s0 ∧ y = nI v0)) : V_Mo_allMembers mki msz mle mel mme mal mic mil mio mab mae msa mlc mli mna mva mma mch mre mlv mwr msh mth mnv mns mfa mmo x y w (fun v mki' msz' mle' mel' mme' mal' mic' mil' mio' mab' mae' msa' mlc' mli' mna' mva' mma' mch' mre' mlv' mwr' msh' mth' mnv' mns' mfa' mmo' => ∃ rr : Bool, v = bI rr ∧ ((rr = true ↔ ∀ i, i < 12 → bt w i = true → mki y.toNatClampNeg = 5 → ¬ mme (12 * y.toNatClampNeg + i) < 0 → ¬ mva (40 * x.toNatClampNeg + (mme (12 * y.toNatClampNeg + i)).toNatClampNeg) = 0)) ∧ mki' = mki ∧ msz' = msz ∧ mle' = mle ∧ mel' = mel ∧ mme' = mme ∧ mal' = mal ∧ mic' = mic ∧ mil' = mil ∧ mio' = mio ∧ mab' = mab ∧ mae' = mae ∧ msa' = msa ∧ mlc' = mlc ∧ mli' = mli ∧ mna' = mna ∧ mva' = mva ∧ mma' = mma ∧ mch' = mch ∧ mre' = mre ∧ mlv' = mlv ∧ mwr' = mwr ∧ msh' = msh ∧ mth' = mth ∧ mnv' = mnv ∧ mns' = mns ∧ mfa' = mfa ∧ mmo' = mmo) := by
  have main : ∀ post : Int32 → (Nat → Int32) → (Nat → Int64) → (Nat → Int32) → (Nat → Int32) → (Nat → Int32) → (Nat → Int32) → (Nat → Int32) → (Nat → Int32) → (Nat → Int32) → (Nat → Int32) → (Nat → Int32) → (Nat → Int32) → (Nat → Int32) → (Nat → Int32) → (Nat → Int32) → (Nat → Int32) → (Nat → Int32) → (Nat → Int32) → (Nat → Int32) → (Nat → Int32) → (Nat → Int64) → (Nat → Int32) → Int32 → Int32 → Int32 → Int32 → Int32 → Prop, (∀ v mki' msz' mle' mel' mme' mal' mic' mil' mio' mab' mae' msa' mlc' mli' mna' mva' mma' mch' mre' mlv' mwr' msh' mth' mnv' mns' mfa' mmo', (fun v mki' msz' mle' mel' mme' mal' mic' mil' mio' mab' mae' msa' mlc' mli' mna' mva' mma' mch' mre' mlv' mwr' msh' mth' mnv' mns' mfa' mmo' => ∃ rr : Bool, v = bI rr ∧ ((rr = true ↔ ∀ i, i < 12 → bt w i = true → mki y.toNatClampNeg = 5 → ¬ mme (12 * y.toNatClampNeg + i) < 0 → ¬ mva (40 * x.toNatClampNeg + (mme (12 * y.toNatClampNeg + i)).toNatClampNeg) = 0)) ∧ mki' = mki ∧ msz' = msz ∧ mle' = mle ∧ mel' = mel ∧ mme' = mme ∧ mal' = mal ∧ mic' = mic ∧ mil' = mil ∧ mio' = mio ∧ mab' = mab ∧ mae' = mae ∧ msa' = msa ∧ mlc' = mlc ∧ mli' = mli ∧ mna' = mna ∧ mva' = mva ∧ mma' = mma ∧ mch' = mch ∧ mre' = mre ∧ mlv' = mlv ∧ mwr' = mwr ∧ msh' = msh ∧ mth' = mth ∧ mnv' = mnv ∧ mns' = mns ∧ mfa' = mfa ∧ mmo' = mmo) v mki' msz' mle' mel' mme' mal' mic' mil' mio' mab' mae' msa' mlc' mli' mna' mva' mma' mch' mre' mlv' mwr' msh' mth' mnv' mns' mfa' mmo' → post v mki' msz' mle' mel' mme' mal' mic' mil' mio' mab' mae' msa' mlc' mli' mna' mva' mma' mch' mre' mlv' mwr' msh' mth' mnv' mns' mfa' mmo') → V_Mo_allMembers mki msz mle mel mme mal mic mil mio mab mae msa mlc mli mna mva mma mch mre mlv mwr msh mth mnv mns mfa mmo x y w post := by
    intro post hpost
    unfold V_Mo_allMembers
    obtain ⟨n0, m0, s0, v0, hnv, hns, hS, hs, hv, rfl, rfl⟩ := hpre
    have hm24 := hS.2.2.1
    have hn40 := hS.1.1
    have hs24 : s0 < 24 := by omega
    have hv40 : v0 < 40 := by omega
    have cs : (nI s0).toNatClampNeg = s0 := nI_clamp (by omega)
    have cv : (nI v0).toNatClampNeg = v0 := nI_clamp (by omega)
    have cn : mnv.toNatClampNeg = n0 := by rw [hnv]; exact nI_clamp (by omega)
    have hxv : vp_in (nI v0) 40 := vp_in_nI hv40 (by decide)
    obtain ⟨⟨kd, hkd, ekd⟩, ⟨L, hL, eL⟩, hpart, hmem, htxt⟩ := hS.1.2.2 v0 hv40
    have cL : (nI L).toNatClampNeg = L := nI_clamp (by omega)
    have hL8 : (mle v0).toNatClampNeg ≤ 8 := by rw [eL, cL]; exact hL
    simp only [cs, cv, cn] at hpost ⊢
    refine ⟨fun z xi => ∃ k b, k ≤ 12 ∧ xi = nI k ∧ z = bI b ∧ (b = true ↔ ∀ i, i < k → bt w i = true → mki v0 = 5 → ¬ mme (12 * v0 + i) < 0 → ¬ mva (40 * s0 + (mme (12 * v0 + i)).toNatClampNeg) = 0), fun _ xi => 12 - xi.toInt.toNat, ⟨0, true, Nat.zero_le _, rfl, rfl, ⟨fun _ i q => absurd q (Nat.not_lt_zero _), fun _ => rfl⟩⟩, ?_⟩
    rintro z xi ⟨k, b, hk, rfl, rfl, hb⟩
    refine ⟨fun h => ?_, fun h => ?_⟩
    · obtain rfl := fill_end (N := 12) h (by decide) hk
      exact (hpost _ _ _ _ _ _ _ _ _ _ _ _ _ _ _ _ _ _ _ _ _ _ _ _ _ _ _ _ ⟨b, rfl, hb, rfl, rfl, rfl, rfl, rfl, rfl, rfl, rfl, rfl, rfl, rfl, rfl, rfl, rfl, rfl, rfl, rfl, rfl, rfl, rfl, rfl, rfl, rfl, rfl, rfl, rfl, rfl⟩)
    · have hk2 := fill_step (N := 12) h (by decide) hk
      have mu := fill_mu (N := 12) hk2 (by decide)
      have c12 : (nI (12 * v0 + k)).toNatClampNeg = 12 * v0 + k := nI_clamp (by omega)
      have hvi : vp_in (nI v0) 40 ∧ vp_in (nI (12 * v0 + k)) 480 := ⟨hxv, vp_in_nI (by omega) (by decide)⟩
      have nx : ∀ c : Bool, (c = true ↔ (b = true ∧ (bt w k = true → mki v0 = 5 → ¬ mme (12 * v0 + k) < 0 → ¬ mva (40 * s0 + (mme (12 * v0 + k)).toNatClampNeg) = 0))) → ∃ k2 b2, k2 ≤ 12 ∧ nI k + 1 = nI k2 ∧ bI c = bI b2 ∧ (b2 = true ↔ ∀ i, i < k2 → bt w i = true → mki v0 = 5 → ¬ mme (12 * v0 + i) < 0 → ¬ mva (40 * s0 + (mme (12 * v0 + i)).toNatClampNeg) = 0) := fun c hc => by
        refine ⟨k + 1, c, hk2, nI_1 k, rfl, ?_⟩
        rw [hc, hb]
        constructor
        · rintro ⟨q1, q2⟩ i hi
          by_cases e : i = k
          · subst e; exact q2
          · exact q1 i (by omega)
        · intro q; exact ⟨fun i hi => q i (by omega), q k (by omega)⟩
      rw [jx12v, c12, b_and1 _ (by omega)]
      refine ⟨fun h2 => ⟨nx false ⟨fun q => absurd q (by decide), fun q => ?_⟩, mu⟩, fun h2 => ⟨fun h3 => ⟨nx true ⟨fun _ => ⟨bI_ne.mp h2, fun q => ?_⟩, fun _ => rfl⟩, mu⟩, fun h3 => ⟨hvi, fun h4 => ⟨nx true ⟨fun _ => ⟨bI_ne.mp h2, fun _ q1 q2 => ?_⟩, fun _ => rfl⟩, mu⟩, fun h4 => ?_⟩⟩⟩
      · have := q.1; rw [bI0.mp h2] at this; exact absurd this (by decide)
      · rw [bI0.mp h3] at q; exact absurd q (by decide)
      · rw [ite5] at h4; exact absurd ⟨q1, q2⟩ h4
      · rw [ite5] at h4
        obtain ⟨k5, hnn⟩ := Classical.not_not.mp h4
        obtain ⟨p, hp, ep⟩ := okx_nn (hmem k hk2) hnn
        have cp : (mme (12 * v0 + k)).toNatClampNeg = p := by rw [ep]; exact nI_clamp (by omega)
        have hva := va_ok hS (x := s0) (w := p) (by omega) (by omega)
        have c4 := c40 (x := s0) (w := p) (by omega) (by omega)
        rw [if_pos k5, ep]
        refine ⟨hvi, hva, fun h5 => ⟨nx false ⟨fun q => absurd q (by decide), fun q => ?_⟩, mu⟩, fun h5 => ⟨nx true ⟨fun _ => ⟨bI_ne.mp h2, fun _ _ _ => ?_⟩, fun _ => rfl⟩, mu⟩⟩
        · have := of_decide_eq_false (bI0.mp h5)
          rw [c4] at this
          have q2 := q.2 (bI_ne.mp h3) k5 hnn
          rw [cp] at q2; exact absurd q2 this
        · have := of_decide_eq_true (bI_ne.mp h5)
          rw [c4] at this; rw [cp]; exact this
  exact main _ (fun _ _ _ _ _ _ _ _ _ _ _ _ _ _ _ _ _ _ _ _ _ _ _ _ _ _ _ _ h => h)
theorem c_Mo_allMembers (l : Launch) (D : va_G) (b : Nat → Nat) (cI cJ cZ : ClassId) (mki : Nat → Int32) (msz : Nat → Int64) (mle : Nat → Int32) (mel : Nat → Int32) (mme : Nat → Int32) (mal : Nat → Int32) (mic : Nat → Int32) (mil : Nat → Int32) (mio : Nat → Int32) (mab : Nat → Int32) (mae : Nat → Int32) (msa : Nat → Int32) (mlc : Nat → Int32) (mli : Nat → Int32) (mna : Nat → Int32) (mva : Nat → Int32) (mma : Nat → Int32) (mch : Nat → Int32) (mre : Nat → Int32) (mlv : Nat → Int32) (mwr : Nat → Int64) (msh : Nat → Int32) (mth : Int32) (mnv : Int32) (mns : Int32) (mfa : Int32) (mmo : Int32) (x : Int32) (y : Int32) (w : Int32) (hpre : (∃ n0 m0 s0 v0 : Nat, mnv = nI n0 ∧ mns = nI m0 ∧ MSOK mki msz mle mel mme mic mio msa mlc mli mna mva n0 m0 ∧ s0 < m0 ∧ v0 < n0 ∧ x = nI s0 ∧ y = nI v0)) : Wm (S := Bool) l y_Mo_allMembers b_Mo_allMembers 6 (some .boolean) 1 22 [.ref (b 0), .int x, .int y, .int w] D (tyA cI cJ cZ) (wM b cI cJ cZ mki msz mle mel mme mal mic mil mio mab mae msa mlc mli mna mva mma mch mre mlv mwr msh mth mnv mns mfa mmo) (fun uu => (uu = true ↔ ∀ i, i < 12 → bt w i = true → mki y.toNatClampNeg = 5 → ¬ mme (12 * y.toNatClampNeg + i) < 0 → ¬ mva (40 * x.toNatClampNeg + (mme (12 * y.toNatClampNeg + i)).toNatClampNeg) = 0)) (fun uu => some (.int (bI uu))) (fun uu => (wM b cI cJ cZ mki msz mle mel mme mal mic mil mio mab mae msa mlc mli mna mva mma mch mre mlv mwr msh mth mnv mns mfa mmo)) :=
  wm_i (by decide) (fun _ _ => bI_nar _) (Nat.le_of_ble_eq_true rfl) (fun p e s m below meth c ls Q A S hK hP hD hA hS hl hret => g_Mo_allMembers S (Nat.le_refl _) (Nat.le_refl _) ⟨Nat.le_refl _, Nat.le_refl _⟩ D b cI cJ cZ mki msz mle mel mme mal mic mil mio mab mae msa mlc mli mna mva mma mch mre mlv mwr msh mth mnv mns mfa mmo x y w hK hP hD hA hS hl (v_Mo_allMembers mki msz mle mel mme mal mic mil mio mab mae msa mlc mli mna mva mma mch mre mlv mwr msh mth mnv mns mfa mmo x y w hpre) (fun v mki' msz' mle' mel' mme' mal' mic' mil' mio' mab' mae' msa' mlc' mli' mna' mva' mma' mch' mre' mlv' mwr' msh' mth' mnv' mns' mfa' mmo' ls1 pc H1 locs1 hd hv hP1 hD1 hS1 => by obtain ⟨rr, rfl, hp, rfl, rfl, rfl, rfl, rfl, rfl, rfl, rfl, rfl, rfl, rfl, rfl, rfl, rfl, rfl, rfl, rfl, rfl, rfl, rfl, rfl, rfl, rfl, rfl, rfl, rfl, rfl⟩ := hv; exact hret rr _ ls1 pc H1 locs1 hd hp rfl hP1 hD1 hS1))
theorem hd_Mo_allMembers : y_Mo_allMembers.cls ≠ "java/lang/invoke/MethodHandle" ∧ y_Mo_allMembers.cls ≠ "java/lang/invoke/VarHandle" ∧ (parseMethodDescriptor y_Mo_allMembers.desc).map (fun d => d.parameters.length) = some 3 := ⟨by decide, by decide, by decide +kernel⟩
