/-! ===== the model's equality ===== -/
def mSame (mki : Nat → Int32) (msz : Nat → Int64) (mle mel mme mal : Nat → Int32) (v w : Nat) : Bool :=
  decide (mki v = mki w ∧ msz v = msz w ∧ mle v = mle w) && (List.range (mle v).toNatClampNeg).all (fun i => decide (mal (mel (8 * v + i)).toNatClampNeg = mal (mel (8 * w + i)).toNatClampNeg)) &&
    (List.range 12).all (fun n => decide (if mme (12 * v + n) < 0 ∨ mme (12 * w + n) < 0 then mme (12 * v + n) = mme (12 * w + n) else mal (mme (12 * v + n)).toNatClampNeg = mal (mme (12 * w + n)).toNatClampNeg))
theorem mSame_iff {mki : Nat → Int32} {msz : Nat → Int64} {mle mel mme mal : Nat → Int32} {v w : Nat} : mSame mki msz mle mel mme mal v w = true ↔ (mki v = mki w ∧ msz v = msz w ∧ mle v = mle w) ∧ (∀ i, i < (mle v).toNatClampNeg → mal (mel (8 * v + i)).toNatClampNeg = mal (mel (8 * w + i)).toNatClampNeg) ∧
    ∀ n, n < 12 → (if mme (12 * v + n) < 0 ∨ mme (12 * w + n) < 0 then mme (12 * v + n) = mme (12 * w + n) else mal (mme (12 * v + n)).toNatClampNeg = mal (mme (12 * w + n)).toNatClampNeg) := by
  unfold mSame
  rw [Bool.and_eq_true, Bool.and_eq_true, all_lt, all_lt]
  simp only [decide_eq_true_eq, and_assoc]
theorem mSame_trans {mki : Nat → Int32} {msz : Nat → Int64} {mle mel mme mal : Nat → Int32} {u v w : Nat} (h1 : mSame mki msz mle mel mme mal u v = true) (h2 : mSame mki msz mle mel mme mal v w = true) : mSame mki msz mle mel mme mal u w = true := by
  rw [mSame_iff] at h1 h2 ⊢
  obtain ⟨⟨a1, a2, a3⟩, b1, c1⟩ := h1
  obtain ⟨⟨d1, d2, d3⟩, b2, c2⟩ := h2
  refine ⟨⟨a1.trans d1, a2.trans d2, a3.trans d3⟩, fun i hi => (b1 i hi).trans (b2 i (by rw [← a3]; exact hi)), fun n hn => ?_⟩
  have p := c1 n hn
  have q := c2 n hn
  by_cases hu : mme (12 * u + n) < 0
  · rw [if_pos (Or.inl hu)] at p
    rw [if_pos (Or.inl (by rw [← p]; exact hu))] at q
    rw [if_pos (Or.inl hu)]; exact p.trans q
  · by_cases hv : mme (12 * v + n) < 0
    · rw [if_pos (Or.inr hv)] at p
      exact absurd (by rw [p]; exact hv) hu
    · by_cases hw : mme (12 * w + n) < 0
      · rw [if_pos (Or.inr hw)] at q
        exact absurd (by rw [q]; exact hw) hv
      · rw [if_neg (by simp [hu, hv])] at p
        rw [if_neg (by simp [hv, hw])] at q
        rw [if_neg (by simp [hu, hw])]; exact p.trans q
/-- parts are lesser, in the model -/
def MeOK (mle mel mme : Nat → Int32) : Prop := ∀ v, v < 40 → (∀ i, i < (mle v).toNatClampNeg → (mel (8 * v + i)).toNatClampNeg < v) ∧ ∀ n, n < 12 → ¬ mme (12 * v + n) < 0 → (mme (12 * v + n)).toNatClampNeg < v
theorem mSame_congr {mki : Nat → Int32} {msz : Nat → Int64} {mle mel mme mal mal2 : Nat → Int32} (hp : MeOK mle mel mme) {v w : Nat} (hv : v < 40) (hw : w ≤ v) (h : ∀ j, j < v → mal j = mal2 j) : mSame mki msz mle mel mme mal v w = mSame mki msz mle mel mme mal2 v w := by
  refine Bool.eq_iff_iff.mpr ?_
  rw [mSame_iff, mSame_iff]
  refine and_congr_right (fun hc => and_congr (forall_congr' (fun i => forall_congr' (fun hi => ?_))) (forall_congr' (fun n => forall_congr' (fun hn => ?_))))
  · rw [h _ ((hp v hv).1 i hi), h _ (Nat.lt_of_lt_of_le ((hp w (by omega)).1 i (by rw [← hc.2.2]; exact hi)) hw)]
  · by_cases hu : mme (12 * v + n) < 0 ∨ mme (12 * w + n) < 0
    · rw [if_pos hu, if_pos hu]
    · rw [if_neg hu, if_neg hu]
      rw [not_or] at hu
      rw [h _ ((hp v hv).2 n hn hu.1), h _ (Nat.lt_of_lt_of_le ((hp w (by omega)).2 n hn hu.2) hw)]
/-- alike is right below n -/
def AlOK (mki : Nat → Int32) (msz : Nat → Int64) (mle mel mme mal : Nat → Int32) (n : Nat) : Prop :=
  ∀ v, v < n → ∃ t, t ≤ v ∧ mal v = nI t ∧ (t < v → mSame mki msz mle mel mme mal v t = true) ∧ ∀ w, w < t → mSame mki msz mle mel mme mal v w = false
theorem AlOK_next {mki : Nat → Int32} {msz : Nat → Int64} {mle mel mme mal mal2 : Nat → Int32} {v t : Nat} (hv : v < 40) (hp : MeOK mle mel mme) (h : ∀ j, j ≠ v → mal2 j = mal j) (ht : AlOK mki msz mle mel mme mal v) (hl : t ≤ v) (he : mal2 v = nI t) (ha : t < v → mSame mki msz mle mel mme mal v t = true) (hm : ∀ w, w < t → mSame mki msz mle mel mme mal v w = false) : AlOK mki msz mle mel mme mal2 (v + 1) := by
  have hc : ∀ j, j < v → mal j = mal2 j := fun j hj => (h j (by omega)).symm
  intro u hu
  by_cases e : u = v
  · subst e
    refine ⟨t, hl, he, fun q => ?_, fun w hw => ?_⟩
    · rw [← mSame_congr hp hv hl hc]; exact ha q
    · rw [← mSame_congr hp hv (by omega) hc]; exact hm w hw
  · obtain ⟨t', h1, h2, h3, h4⟩ := ht u (by omega)
    refine ⟨t', h1, by rw [h u e]; exact h2, fun q => ?_, fun w hw => ?_⟩
    · rw [← mSame_congr hp (by omega) h1 (fun j hj => hc j (by omega))]; exact h3 q
    · rw [← mSame_congr hp (by omega) (by omega) (fun j hj => hc j (by omega))]; exact h4 w hw
theorem m1_nI (w : Nat) (hw : 0 < w) : nI w - 1 = nI (w - 1) := by
  obtain ⟨k, rfl⟩ := Nat.exists_eq_add_of_le hw
  rw [Nat.add_comm 1 k]; exact nI_pred k
theorem m1_lt {w : Nat} (hw : w < 2 ^ 30) : nI w - 1 < 0 ↔ w = 0 := by
  refine ⟨fun h => ?_, fun h => by subst h; decide⟩
  apply Classical.byContradiction
  intro q
  rw [m1_nI w (by omega)] at h
  exact nI_pos (by omega) h
def V_Mo_same (mki : Nat → Int32) (msz : Nat → Int64) (mle : Nat → Int32) (mel : Nat → Int32) (mme : Nat → Int32) (mal : Nat → Int32) (mic : Nat → Int32) (mil : Nat → Int32) (mio : Nat → Int32) (mab : Nat → Int32) (mae : Nat → Int32) (msa : Nat → Int32) (mlc : Nat → Int32) (mli : Nat → Int32) (mna : Nat → Int32) (mva : Nat → Int32) (mma : Nat → Int32) (mch : Nat → Int32) (mre : Nat → Int32) (mlv : Nat → Int32) (mwr : Nat → Int64) (msh : Nat → Int32) (mth : Int32) (mnv : Int32) (mns : Int32) (mfa : Int32) (mmo : Int32) (x : Int32) (y : Int32) (post : Int32 → Prop) : Prop :=
  (vp_in x 40 ∧ (vp_in y 40 ∧ (∃ J1 : Int32 → Prop, ((¬ (mki x.toNatClampNeg) = (mki y.toNatClampNeg) → J1 0) ∧ ((mki x.toNatClampNeg) = (mki y.toNatClampNeg) → (vp_in x 40 ∧ (vp_in y 40 ∧ (∃ J2 : Prop, ((¬ (lg_cmp (msz x.toNatClampNeg) (msz y.toNatClampNeg)) = 0 → J2) ∧ ((lg_cmp (msz x.toNatClampNeg) (msz y.toNatClampNeg)) = 0 → (vp_in x 40 ∧ (vp_in y 40 ∧ ((¬ (mle x.toNatClampNeg) = (mle y.toNatClampNeg) → J2) ∧ ((mle x.toNatClampNeg) = (mle y.toNatClampNeg) → J1 1)))))) ∧ (J2 → J1 0)))))) ∧ (∀ (x4 : Int32), J1 x4 → (∃ (I13 : Int32 → Int32 → Prop) (mI13 : Int32 → Int32 → Nat), I13 x4 0 ∧ (∀ (x11 : Int32) (x12 : Int32), I13 x11 x12 → (vp_in x 40 ∧ (∃ J14 : Prop, (((mle x.toNatClampNeg) ≤ x12 → J14) ∧ (¬ (mle x.toNatClampNeg) ≤ x12 → ((x11 = 0 → J14) ∧ (¬ x11 = 0 → (vp_in ((8 * x) + x12) 320 ∧ (vp_in (mel ((8 * x) + x12 : Int32).toNatClampNeg) 40 ∧ (vp_in ((8 * y) + x12) 320 ∧ (vp_in (mel ((8 * y) + x12 : Int32).toNatClampNeg) 40 ∧ ((¬ (mal (mel ((8 * x) + x12 : Int32).toNatClampNeg : Int32).toNatClampNeg) = (mal (mel ((8 * y) + x12 : Int32).toNatClampNeg : Int32).toNatClampNeg) → (I13 0 (x12 + 1) ∧ mI13 0 (x12 + 1) < mI13 x11 x12)) ∧ ((mal (mel ((8 * x) + x12 : Int32).toNatClampNeg : Int32).toNatClampNeg) = (mal (mel ((8 * y) + x12 : Int32).toNatClampNeg : Int32).toNatClampNeg) → (I13 1 (x12 + 1) ∧ mI13 1 (x12 + 1) < mI13 x11 x12))))))))))) ∧ (J14 → (∃ (I18 : Int32 → Int32 → Prop) (mI18 : Int32 → Int32 → Nat), I18 x11 0 ∧ (∀ (x16 : Int32) (x17 : Int32), I18 x16 x17 → ((12 ≤ x17 → post x16) ∧ (¬ 12 ≤ x17 → ((x16 = 0 → post x16) ∧ (¬ x16 = 0 → (vp_in ((12 * x) + x17) 480 ∧ (vp_in ((12 * y) + x17) 480 ∧ (((mme ((12 * x) + x17 : Int32).toNatClampNeg) < 0 → ((¬ (mme ((12 * x) + x17 : Int32).toNatClampNeg) = (mme ((12 * y) + x17 : Int32).toNatClampNeg) → (I18 0 (x17 + 1) ∧ mI18 0 (x17 + 1) < mI18 x16 x17)) ∧ ((mme ((12 * x) + x17 : Int32).toNatClampNeg) = (mme ((12 * y) + x17 : Int32).toNatClampNeg) → (I18 1 (x17 + 1) ∧ mI18 1 (x17 + 1) < mI18 x16 x17)))) ∧ (¬ (mme ((12 * x) + x17 : Int32).toNatClampNeg) < 0 → ((0 ≤ (mme ((12 * y) + x17 : Int32).toNatClampNeg) → (vp_in (mme ((12 * x) + x17 : Int32).toNatClampNeg) 40 ∧ (vp_in (mme ((12 * y) + x17 : Int32).toNatClampNeg) 40 ∧ ((¬ (mal (mme ((12 * x) + x17 : Int32).toNatClampNeg : Int32).toNatClampNeg) = (mal (mme ((12 * y) + x17 : Int32).toNatClampNeg : Int32).toNatClampNeg) → (I18 0 (x17 + 1) ∧ mI18 0 (x17 + 1) < mI18 x16 x17)) ∧ ((mal (mme ((12 * x) + x17 : Int32).toNatClampNeg : Int32).toNatClampNeg) = (mal (mme ((12 * y) + x17 : Int32).toNatClampNeg : Int32).toNatClampNeg) → (I18 1 (x17 + 1) ∧ mI18 1 (x17 + 1) < mI18 x16 x17)))))) ∧ (¬ 0 ≤ (mme ((12 * y) + x17 : Int32).toNatClampNeg) → ((¬ (mme ((12 * x) + x17 : Int32).toNatClampNeg) = (mme ((12 * y) + x17 : Int32).toNatClampNeg) → (I18 0 (x17 + 1) ∧ mI18 0 (x17 + 1) < mI18 x16 x17)) ∧ ((mme ((12 * x) + x17 : Int32).toNatClampNeg) = (mme ((12 * y) + x17 : Int32).toNatClampNeg) → (I18 1 (x17 + 1) ∧ mI18 1 (x17 + 1) < mI18 x16 x17))))))))))))))))))))))))
set_option maxHeartbeats 4000000 in
set_option maxRecDepth 100000 in
theorem g_Mo_same {p : Program} {l : Launch} {e : Env} {R : Room} {s : State} {m : MethodId} {args : Array Value} {below : List Frame} {meth : Method} {c : Code} {H : Heap} {locs : List Loc} {cells slots : Nat} {Q : State → Prop} {ls : Array Slot} (S : CallFix p m c b_Mo_same 7 s args W0 R_Mo) (hRf : 0 ≤ R.frames) (hRl : 0 ≤ R.locals) (hRc : cells ≤ R.cells ∧ slots ≤ R.slots) (D : va_G) (b : Nat → Nat) (cI cJ cZ : ClassId) (mki : Nat → Int32) (msz : Nat → Int64) (mle : Nat → Int32) (mel : Nat → Int32) (mme : Nat → Int32) (mal : Nat → Int32) (mic : Nat → Int32) (mil : Nat → Int32) (mio : Nat → Int32) (mab : Nat → Int32) (mae : Nat → Int32) (msa : Nat → Int32) (mlc : Nat → Int32) (mli : Nat → Int32) (mna : Nat → Int32) (mva : Nat → Int32) (mma : Nat → Int32) (mch : Nat → Int32) (mre : Nat → Int32) (mlv : Nat → Int32) (mwr : Nat → Int64) (msh : Nat → Int32) (mth : Int32) (mnv : Int32) (mns : Int32) (mfa : Int32) (mmo : Int32) (x : Int32) (y : Int32) (hK : va_K D vwCl (tyA cI cJ cZ) s) (hP : va_P D vwCl (wM b cI cJ cZ mki msz mle mel mme mal mic mil mio mab mae msa mlc mli mna mva mma mch mre mlv mwr msh mth mnv mns mfa mmo) H) (hl : lv_has ls 7 [(0, .ref (b 0)), (1, .int x), (2, .int y)]) {post : Int32 → Prop} (vc : V_Mo_same mki msz mle mel mme mal mic mil mio mab mae msa mlc mli mna mva mma mch mre mlv mwr msh mth mnv mns mfa mmo x y post)
    (hret : ∀ (v : Int32) (ls : Array Slot) (pc : Nat), decode b_Mo_same pc = .ok (.ireturn, 1) → post v → W p l e R s m args below meth c H locs cells slots Q (F0 m pc ls [.int v])) : W p l e R s m args below meth c H locs cells slots Q (F0 m 0 ls []) := by
  have hx := S.1
  have hb := S.2.1
  have hown := S.2.2.2.1
  have hts := S.2.2.2.2
  unfold V_Mo_same at vc
  refine lv_aload_n hx hb d_Mo_same_0 rfl (lv_at hl 0 rfl) ?_
  refine va_get (D := D) (ci := 6) (v := .ref (b 1)) (C := R_Mo) (T := F_Mo) (N := 27) hx hb hts in_Mo hown hK hP 0 rfl rfl 2 (by decide) (hts _ fl_Mo_7) (fun _ h => h) rfl d_Mo_same_1 ?_
  refine lv_iload_n hx hb d_Mo_same_4 rfl (lv_at hl 1 rfl) ?_
  obtain ⟨vcb, vc⟩ := vc
  refine va_iald hx hb hK hP 1 0 rfl rfl vcb d_Mo_same_5 ?_
  refine lv_aload_n hx hb d_Mo_same_6 rfl (lv_at hl 0 rfl) ?_
  refine va_get (D := D) (ci := 6) (v := .ref (b 1)) (C := R_Mo) (T := F_Mo) (N := 27) hx hb hts in_Mo hown hK hP 0 rfl rfl 2 (by decide) (hts _ fl_Mo_7) (fun _ h => h) rfl d_Mo_same_7 ?_
  refine lv_iload_n hx hb d_Mo_same_10 rfl (lv_at hl 2 rfl) ?_
  obtain ⟨vcb, vc⟩ := vc
  refine va_iald hx hb hK hP 1 0 rfl rfl vcb d_Mo_same_11 ?_
  obtain ⟨J1, vc, vc2⟩ := vc
  have jJ1 : ∀ (x4 : Int32) (ls : Array Slot), J1 x4 → lv_has ls 7 [(0, .ref (b 0)), (1, .int x), (2, .int y)] → W p l e R s m args below meth c H locs cells slots Q (F0 m 51 ls [.int x4]) := by
    intro x4 ls vc hl
    have vc := vc2 x4 vc
    refine lv_istore_n hx hb d_Mo_same_51 rfl hl (by decide) (lv' := [(3, .int x4), (0, .ref (b 0)), (1, .int x), (2, .int y)]) rfl (fun ls hl => ?_)
    refine lv_iconst (v := 0) hx hb d_Mo_same_52 (by decide) ?_
    refine lv_istore hx hb d_Mo_same_53 hl (by decide) (lv' := [(4, .int 0), (3, .int x4), (0, .ref (b 0)), (1, .int x), (2, .int y)]) rfl (fun ls hl => ?_)
    obtain ⟨I13, mI13, vc0, vcs⟩ := vc
    have lI13 : ∀ n : Nat, ∀ (x11 : Int32) (x12 : Int32) (ls : Array Slot), I13 x11 x12 → mI13 x11 x12 < n → lv_has ls 7 [(0, .ref (b 0)), (1, .int x), (2, .int y), (3, .int x11), (4, .int x12)] → W p l e R s m args below meth c H locs cells slots Q (F0 m 55 ls []) := by
      intro n
      induction n with
      | zero => intro x11 x12 ls _ h; exact absurd h (Nat.not_lt_zero _)
      | succ n ihI13 =>
        intro x11 x12 ls vc hmI13 hl
        have vc := vcs x11 x12 vc
        refine lv_iload hx hb d_Mo_same_55 (lv_at hl 4 rfl) ?_
        refine lv_aload_n hx hb d_Mo_same_57 rfl (lv_at hl 0 rfl) ?_
        refine va_get (D := D) (ci := 6) (v := .ref (b 3)) (C := R_Mo) (T := F_Mo) (N := 27) hx hb hts in_Mo hown hK hP 0 rfl rfl 4 (by decide) (hts _ fl_Mo_17) (fun _ h => h) rfl d_Mo_same_58 ?_
        refine lv_iload_n hx hb d_Mo_same_61 rfl (lv_at hl 1 rfl) ?_
        obtain ⟨vcb, vc⟩ := vc
        refine va_iald hx hb hK hP 3 0 rfl rfl vcb d_Mo_same_62 ?_
        obtain ⟨J14, vc, vc2⟩ := vc
        have jJ14 : ∀ (ls : Array Slot), J14 → lv_has ls 7 [(0, .ref (b 0)), (1, .int x), (2, .int y), (3, .int x11), (4, .int x12)] → W p l e R s m args below meth c H locs cells slots Q (F0 m 119 ls []) := by
          intro  ls vc hl
          have vc := vc2  vc
          refine lv_iconst (v := 0) hx hb d_Mo_same_119 (by decide) ?_
          refine lv_istore hx hb d_Mo_same_120 hl (by decide) (lv' := [(4, .int 0), (0, .ref (b 0)), (1, .int x), (2, .int y), (3, .int x11)]) rfl (fun ls hl => ?_)
          obtain ⟨I18, mI18, vc0, vcs⟩ := vc
          have lI18 : ∀ n : Nat, ∀ (x16 : Int32) (x17 : Int32) (ls : Array Slot), I18 x16 x17 → mI18 x16 x17 < n → lv_has ls 7 [(0, .ref (b 0)), (1, .int x), (2, .int y), (3, .int x16), (4, .int x17)] → W p l e R s m args below meth c H locs cells slots Q (F0 m 122 ls []) := by
            intro n
            induction n with
            | zero => intro x16 x17 ls _ h; exact absurd h (Nat.not_lt_zero _)
            | succ n ihI18 =>
              intro x16 x17 ls vc hmI18 hl
              have vc := vcs x16 x17 vc
              refine lv_iload hx hb d_Mo_same_122 (lv_at hl 4 rfl) ?_
              refine lv_bipush (v := 12) hx hb d_Mo_same_124 (by decide) ?_
              refine lv_icmp_ge (tgt := 215) hx hb d_Mo_same_126 (by decide) (fun h => ?_) (fun h => ?_)
              · have vc := vc.1 h
                refine lv_iload_n hx hb d_Mo_same_215 rfl (lv_at hl 3 rfl) ?_
                exact hret _ ls _ d_Mo_same_216 vc
              · have vc := vc.2 h
                refine lv_iload_n hx hb d_Mo_same_129 rfl (lv_at hl 3 rfl) ?_
                refine lv_if_eq (tgt := 215) hx hb d_Mo_same_130 (by decide) (fun h => ?_) (fun h => ?_)
                · have vc := vc.1 h
                  refine lv_iload_n hx hb d_Mo_same_215 rfl (lv_at hl 3 rfl) ?_
                  exact hret _ ls _ d_Mo_same_216 vc
                · have vc := vc.2 h
                  refine lv_aload_n hx hb d_Mo_same_133 rfl (lv_at hl 0 rfl) ?_
                  refine va_get (D := D) (ci := 6) (v := .ref (b 5)) (C := R_Mo) (T := F_Mo) (N := 27) hx hb hts in_Mo hown hK hP 0 rfl rfl 6 (by decide) (hts _ fl_Mo_23) (fun _ h => h) rfl d_Mo_same_134 ?_
                  refine lv_bipush (v := 12) hx hb d_Mo_same_137 (by decide) ?_
                  refine lv_iload_n hx hb d_Mo_same_139 rfl (lv_at hl 1 rfl) ?_
                  refine lv_imul hx hb d_Mo_same_140 ?_
                  refine lv_iload hx hb d_Mo_same_141 (lv_at hl 4 rfl) ?_
                  refine lv_iadd hx hb d_Mo_same_143 ?_
                  obtain ⟨vcb, vc⟩ := vc
                  refine va_iald hx hb hK hP 5 0 rfl rfl vcb d_Mo_same_144 ?_
                  refine lv_istore hx hb d_Mo_same_145 hl (by decide) (lv' := [(5, .int (mme ((12 * x) + x17 : Int32).toNatClampNeg)), (0, .ref (b 0)), (1, .int x), (2, .int y), (3, .int x16), (4, .int x17)]) rfl (fun ls hl => ?_)
                  refine lv_aload_n hx hb d_Mo_same_147 rfl (lv_at hl 1 rfl) ?_
                  refine va_get (D := D) (ci := 6) (v := .ref (b 5)) (C := R_Mo) (T := F_Mo) (N := 27) hx hb hts in_Mo hown hK hP 0 rfl rfl 6 (by decide) (hts _ fl_Mo_23) (fun _ h => h) rfl d_Mo_same_148 ?_
                  refine lv_bipush (v := 12) hx hb d_Mo_same_151 (by decide) ?_
                  refine lv_iload_n hx hb d_Mo_same_153 rfl (lv_at hl 3 rfl) ?_
                  refine lv_imul hx hb d_Mo_same_154 ?_
                  refine lv_iload hx hb d_Mo_same_155 (lv_at hl 5 rfl) ?_
                  refine lv_iadd hx hb d_Mo_same_157 ?_
                  obtain ⟨vcb, vc⟩ := vc
                  refine va_iald hx hb hK hP 5 0 rfl rfl vcb d_Mo_same_158 ?_
                  refine lv_istore hx hb d_Mo_same_159 hl (by decide) (lv' := [(6, .int (mme ((12 * y) + x17 : Int32).toNatClampNeg)), (5, .int (mme ((12 * x) + x17 : Int32).toNatClampNeg)), (0, .ref (b 0)), (1, .int x), (2, .int y), (3, .int x16), (4, .int x17)]) rfl (fun ls hl => ?_)
                  refine lv_iload hx hb d_Mo_same_161 (lv_at hl 1 rfl) ?_
                  refine lv_if_lt (tgt := 171) hx hb d_Mo_same_163 (by decide) (fun h => ?_) (fun h => ?_)
                  · have vc := vc.1 h
                    refine lv_iload hx hb d_Mo_same_171 (lv_at hl 1 rfl) ?_
                    refine lv_iload hx hb d_Mo_same_173 (lv_at hl 0 rfl) ?_
                    refine lv_icmp_ne (tgt := 182) hx hb d_Mo_same_175 (by decide) (fun h => ?_) (fun h => ?_)
                    · have vc := vc.1 h
                      refine lv_iconst (v := 0) hx hb d_Mo_same_182 (by decide) ?_
                      refine lv_goto (tgt := 208) hx hb d_Mo_same_183 (by decide) ?_
                      refine lv_istore_n hx hb d_Mo_same_208 rfl hl (by decide) (lv' := [(3, .int 0), (6, .int (mme ((12 * y) + x17 : Int32).toNatClampNeg)), (5, .int (mme ((12 * x) + x17 : Int32).toNatClampNeg)), (0, .ref (b 0)), (1, .int x), (2, .int y), (4, .int x17)]) rfl (fun ls hl => ?_)
                      refine lv_iinc (k := 6) (v := x17 + 1) hx hb d_Mo_same_209 hl rfl rfl (by decide) (lv' := [(4, .int (x17 + 1)), (3, .int 0), (6, .int (mme ((12 * y) + x17 : Int32).toNatClampNeg)), (5, .int (mme ((12 * x) + x17 : Int32).toNatClampNeg)), (0, .ref (b 0)), (1, .int x), (2, .int y)]) rfl (fun ls hl => ?_)
                      refine lv_goto (tgt := 122) hx hb d_Mo_same_212 (by decide) ?_
                      exact ihI18 0 (x17 + 1) ls vc.1 (Nat.lt_of_lt_of_le vc.2 (Nat.le_of_lt_succ hmI18)) (lv_sub hl [4, 5, 6, 1, 0] rfl)
                    · have vc := vc.2 h
                      refine lv_iconst (v := 1) hx hb d_Mo_same_178 (by decide) ?_
                      refine lv_goto (tgt := 208) hx hb d_Mo_same_179 (by decide) ?_
                      refine lv_istore_n hx hb d_Mo_same_208 rfl hl (by decide) (lv' := [(3, .int 1), (6, .int (mme ((12 * y) + x17 : Int32).toNatClampNeg)), (5, .int (mme ((12 * x) + x17 : Int32).toNatClampNeg)), (0, .ref (b 0)), (1, .int x), (2, .int y), (4, .int x17)]) rfl (fun ls hl => ?_)
                      refine lv_iinc (k := 6) (v := x17 + 1) hx hb d_Mo_same_209 hl rfl rfl (by decide) (lv' := [(4, .int (x17 + 1)), (3, .int 1), (6, .int (mme ((12 * y) + x17 : Int32).toNatClampNeg)), (5, .int (mme ((12 * x) + x17 : Int32).toNatClampNeg)), (0, .ref (b 0)), (1, .int x), (2, .int y)]) rfl (fun ls hl => ?_)
                      refine lv_goto (tgt := 122) hx hb d_Mo_same_212 (by decide) ?_
                      exact ihI18 1 (x17 + 1) ls vc.1 (Nat.lt_of_lt_of_le vc.2 (Nat.le_of_lt_succ hmI18)) (lv_sub hl [4, 5, 6, 1, 0] rfl)
                  · have vc := vc.2 h
                    refine lv_iload hx hb d_Mo_same_166 (lv_at hl 0 rfl) ?_
                    refine lv_if_ge (tgt := 186) hx hb d_Mo_same_168 (by decide) (fun h => ?_) (fun h => ?_)
                    · have vc := vc.1 h
                      refine lv_aload_n hx hb d_Mo_same_186 rfl (lv_at hl 2 rfl) ?_
                      refine va_get (D := D) (ci := 6) (v := .ref (b 6)) (C := R_Mo) (T := F_Mo) (N := 27) hx hb hts in_Mo hown hK hP 0 rfl rfl 7 (by decide) (hts _ fl_Mo_26) (fun _ h => h) rfl d_Mo_same_187 ?_
                      refine lv_iload hx hb d_Mo_same_190 (lv_at hl 1 rfl) ?_
                      obtain ⟨vcb, vc⟩ := vc
                      refine va_iald hx hb hK hP 6 0 rfl rfl vcb d_Mo_same_192 ?_
                      refine lv_aload_n hx hb d_Mo_same_193 rfl (lv_at hl 2 rfl) ?_
                      refine va_get (D := D) (ci := 6) (v := .ref (b 6)) (C := R_Mo) (T := F_Mo) (N := 27) hx hb hts in_Mo hown hK hP 0 rfl rfl 7 (by decide) (hts _ fl_Mo_26) (fun _ h => h) rfl d_Mo_same_194 ?_
                      refine lv_iload hx hb d_Mo_same_197 (lv_at hl 0 rfl) ?_
                      obtain ⟨vcb, vc⟩ := vc
                      refine va_iald hx hb hK hP 6 0 rfl rfl vcb d_Mo_same_199 ?_
                      refine lv_icmp_ne (tgt := 207) hx hb d_Mo_same_200 (by decide) (fun h => ?_) (fun h => ?_)
                      · have vc := vc.1 h
                        refine lv_iconst (v := 0) hx hb d_Mo_same_207 (by decide) ?_
                        refine lv_istore_n hx hb d_Mo_same_208 rfl hl (by decide) (lv' := [(3, .int 0), (6, .int (mme ((12 * y) + x17 : Int32).toNatClampNeg)), (5, .int (mme ((12 * x) + x17 : Int32).toNatClampNeg)), (0, .ref (b 0)), (1, .int x), (2, .int y), (4, .int x17)]) rfl (fun ls hl => ?_)
                        refine lv_iinc (k := 6) (v := x17 + 1) hx hb d_Mo_same_209 hl rfl rfl (by decide) (lv' := [(4, .int (x17 + 1)), (3, .int 0), (6, .int (mme ((12 * y) + x17 : Int32).toNatClampNeg)), (5, .int (mme ((12 * x) + x17 : Int32).toNatClampNeg)), (0, .ref (b 0)), (1, .int x), (2, .int y)]) rfl (fun ls hl => ?_)
                        refine lv_goto (tgt := 122) hx hb d_Mo_same_212 (by decide) ?_
                        exact ihI18 0 (x17 + 1) ls vc.1 (Nat.lt_of_lt_of_le vc.2 (Nat.le_of_lt_succ hmI18)) (lv_sub hl [4, 5, 6, 1, 0] rfl)
                      · have vc := vc.2 h
                        refine lv_iconst (v := 1) hx hb d_Mo_same_203 (by decide) ?_
                        refine lv_goto (tgt := 208) hx hb d_Mo_same_204 (by decide) ?_
                        refine lv_istore_n hx hb d_Mo_same_208 rfl hl (by decide) (lv' := [(3, .int 1), (6, .int (mme ((12 * y) + x17 : Int32).toNatClampNeg)), (5, .int (mme ((12 * x) + x17 : Int32).toNatClampNeg)), (0, .ref (b 0)), (1, .int x), (2, .int y), (4, .int x17)]) rfl (fun ls hl => ?_)
                        refine lv_iinc (k := 6) (v := x17 + 1) hx hb d_Mo_same_209 hl rfl rfl (by decide) (lv' := [(4, .int (x17 + 1)), (3, .int 1), (6, .int (mme ((12 * y) + x17 : Int32).toNatClampNeg)), (5, .int (mme ((12 * x) + x17 : Int32).toNatClampNeg)), (0, .ref (b 0)), (1, .int x), (2, .int y)]) rfl (fun ls hl => ?_)
                        refine lv_goto (tgt := 122) hx hb d_Mo_same_212 (by decide) ?_
                        exact ihI18 1 (x17 + 1) ls vc.1 (Nat.lt_of_lt_of_le vc.2 (Nat.le_of_lt_succ hmI18)) (lv_sub hl [4, 5, 6, 1, 0] rfl)
                    · have vc := vc.2 h
                      refine lv_iload hx hb d_Mo_same_171 (lv_at hl 1 rfl) ?_
                      refine lv_iload hx hb d_Mo_same_173 (lv_at hl 0 rfl) ?_
                      refine lv_icmp_ne (tgt := 182) hx hb d_Mo_same_175 (by decide) (fun h => ?_) (fun h => ?_)
                      · have vc := vc.1 h
                        refine lv_iconst (v := 0) hx hb d_Mo_same_182 (by decide) ?_
                        refine lv_goto (tgt := 208) hx hb d_Mo_same_183 (by decide) ?_
                        refine lv_istore_n hx hb d_Mo_same_208 rfl hl (by decide) (lv' := [(3, .int 0), (6, .int (mme ((12 * y) + x17 : Int32).toNatClampNeg)), (5, .int (mme ((12 * x) + x17 : Int32).toNatClampNeg)), (0, .ref (b 0)), (1, .int x), (2, .int y), (4, .int x17)]) rfl (fun ls hl => ?_)
                        refine lv_iinc (k := 6) (v := x17 + 1) hx hb d_Mo_same_209 hl rfl rfl (by decide) (lv' := [(4, .int (x17 + 1)), (3, .int 0), (6, .int (mme ((12 * y) + x17 : Int32).toNatClampNeg)), (5, .int (mme ((12 * x) + x17 : Int32).toNatClampNeg)), (0, .ref (b 0)), (1, .int x), (2, .int y)]) rfl (fun ls hl => ?_)
                        refine lv_goto (tgt := 122) hx hb d_Mo_same_212 (by decide) ?_
                        exact ihI18 0 (x17 + 1) ls vc.1 (Nat.lt_of_lt_of_le vc.2 (Nat.le_of_lt_succ hmI18)) (lv_sub hl [4, 5, 6, 1, 0] rfl)
                      · have vc := vc.2 h
                        refine lv_iconst (v := 1) hx hb d_Mo_same_178 (by decide) ?_
                        refine lv_goto (tgt := 208) hx hb d_Mo_same_179 (by decide) ?_
                        refine lv_istore_n hx hb d_Mo_same_208 rfl hl (by decide) (lv' := [(3, .int 1), (6, .int (mme ((12 * y) + x17 : Int32).toNatClampNeg)), (5, .int (mme ((12 * x) + x17 : Int32).toNatClampNeg)), (0, .ref (b 0)), (1, .int x), (2, .int y), (4, .int x17)]) rfl (fun ls hl => ?_)
                        refine lv_iinc (k := 6) (v := x17 + 1) hx hb d_Mo_same_209 hl rfl rfl (by decide) (lv' := [(4, .int (x17 + 1)), (3, .int 1), (6, .int (mme ((12 * y) + x17 : Int32).toNatClampNeg)), (5, .int (mme ((12 * x) + x17 : Int32).toNatClampNeg)), (0, .ref (b 0)), (1, .int x), (2, .int y)]) rfl (fun ls hl => ?_)
                        refine lv_goto (tgt := 122) hx hb d_Mo_same_212 (by decide) ?_
                        exact ihI18 1 (x17 + 1) ls vc.1 (Nat.lt_of_lt_of_le vc.2 (Nat.le_of_lt_succ hmI18)) (lv_sub hl [4, 5, 6, 1, 0] rfl)
          exact lI18 _ x11 0 ls vc0 (Nat.lt_succ_self _) (lv_sub hl [1, 2, 3, 4, 0] rfl)
        clear vc2
        refine lv_icmp_ge (tgt := 119) hx hb d_Mo_same_63 (by decide) (fun h => ?_) (fun h => ?_)
        · have vc := vc.1 h
          exact jJ14 ls vc (lv_sub hl [0, 1, 2, 3, 4] rfl)
        · have vc := vc.2 h
          refine lv_iload_n hx hb d_Mo_same_66 rfl (lv_at hl 3 rfl) ?_
          refine lv_if_eq (tgt := 119) hx hb d_Mo_same_67 (by decide) (fun h => ?_) (fun h => ?_)
          · have vc := vc.1 h
            exact jJ14 ls vc (lv_sub hl [0, 1, 2, 3, 4] rfl)
          · have vc := vc.2 h
            refine lv_aload_n hx hb d_Mo_same_70 rfl (lv_at hl 0 rfl) ?_
            refine va_get (D := D) (ci := 6) (v := .ref (b 6)) (C := R_Mo) (T := F_Mo) (N := 27) hx hb hts in_Mo hown hK hP 0 rfl rfl 7 (by decide) (hts _ fl_Mo_26) (fun _ h => h) rfl d_Mo_same_71 ?_
            refine lv_aload_n hx hb d_Mo_same_74 rfl (lv_at hl 0 rfl) ?_
            refine va_get (D := D) (ci := 6) (v := .ref (b 4)) (C := R_Mo) (T := F_Mo) (N := 27) hx hb hts in_Mo hown hK hP 0 rfl rfl 5 (by decide) (hts _ fl_Mo_20) (fun _ h => h) rfl d_Mo_same_75 ?_
            refine lv_bipush (v := 8) hx hb d_Mo_same_78 (by decide) ?_
            refine lv_iload_n hx hb d_Mo_same_80 rfl (lv_at hl 1 rfl) ?_
            refine lv_imul hx hb d_Mo_same_81 ?_
            refine lv_iload hx hb d_Mo_same_82 (lv_at hl 4 rfl) ?_
            refine lv_iadd hx hb d_Mo_same_84 ?_
            obtain ⟨vcb, vc⟩ := vc
            refine va_iald hx hb hK hP 4 0 rfl rfl vcb d_Mo_same_85 ?_
            obtain ⟨vcb, vc⟩ := vc
            refine va_iald hx hb hK hP 6 0 rfl rfl vcb d_Mo_same_86 ?_
            refine lv_aload_n hx hb d_Mo_same_87 rfl (lv_at hl 0 rfl) ?_
            refine va_get (D := D) (ci := 6) (v := .ref (b 6)) (C := R_Mo) (T := F_Mo) (N := 27) hx hb hts in_Mo hown hK hP 0 rfl rfl 7 (by decide) (hts _ fl_Mo_26) (fun _ h => h) rfl d_Mo_same_88 ?_
            refine lv_aload_n hx hb d_Mo_same_91 rfl (lv_at hl 0 rfl) ?_
            refine va_get (D := D) (ci := 6) (v := .ref (b 4)) (C := R_Mo) (T := F_Mo) (N := 27) hx hb hts in_Mo hown hK hP 0 rfl rfl 5 (by decide) (hts _ fl_Mo_20) (fun _ h => h) rfl d_Mo_same_92 ?_
            refine lv_bipush (v := 8) hx hb d_Mo_same_95 (by decide) ?_
            refine lv_iload_n hx hb d_Mo_same_97 rfl (lv_at hl 2 rfl) ?_
            refine lv_imul hx hb d_Mo_same_98 ?_
            refine lv_iload hx hb d_Mo_same_99 (lv_at hl 4 rfl) ?_
            refine lv_iadd hx hb d_Mo_same_101 ?_
            obtain ⟨vcb, vc⟩ := vc
            refine va_iald hx hb hK hP 4 0 rfl rfl vcb d_Mo_same_102 ?_
            obtain ⟨vcb, vc⟩ := vc
            refine va_iald hx hb hK hP 6 0 rfl rfl vcb d_Mo_same_103 ?_
            refine lv_icmp_ne (tgt := 111) hx hb d_Mo_same_104 (by decide) (fun h => ?_) (fun h => ?_)
            · have vc := vc.1 h
              refine lv_iconst (v := 0) hx hb d_Mo_same_111 (by decide) ?_
              refine lv_istore_n hx hb d_Mo_same_112 rfl hl (by decide) (lv' := [(3, .int 0), (0, .ref (b 0)), (1, .int x), (2, .int y), (4, .int x12)]) rfl (fun ls hl => ?_)
              refine lv_iinc (k := 4) (v := x12 + 1) hx hb d_Mo_same_113 hl rfl rfl (by decide) (lv' := [(4, .int (x12 + 1)), (3, .int 0), (0, .ref (b 0)), (1, .int x), (2, .int y)]) rfl (fun ls hl => ?_)
              refine lv_goto (tgt := 55) hx hb d_Mo_same_116 (by decide) ?_
              exact ihI13 0 (x12 + 1) ls vc.1 (Nat.lt_of_lt_of_le vc.2 (Nat.le_of_lt_succ hmI13)) (lv_sub hl [2, 3, 4, 1, 0] rfl)
            · have vc := vc.2 h
              refine lv_iconst (v := 1) hx hb d_Mo_same_107 (by decide) ?_
              refine lv_goto (tgt := 112) hx hb d_Mo_same_108 (by decide) ?_
              refine lv_istore_n hx hb d_Mo_same_112 rfl hl (by decide) (lv' := [(3, .int 1), (0, .ref (b 0)), (1, .int x), (2, .int y), (4, .int x12)]) rfl (fun ls hl => ?_)
              refine lv_iinc (k := 4) (v := x12 + 1) hx hb d_Mo_same_113 hl rfl rfl (by decide) (lv' := [(4, .int (x12 + 1)), (3, .int 1), (0, .ref (b 0)), (1, .int x), (2, .int y)]) rfl (fun ls hl => ?_)
              refine lv_goto (tgt := 55) hx hb d_Mo_same_116 (by decide) ?_
              exact ihI13 1 (x12 + 1) ls vc.1 (Nat.lt_of_lt_of_le vc.2 (Nat.le_of_lt_succ hmI13)) (lv_sub hl [2, 3, 4, 1, 0] rfl)
    exact lI13 _ x4 0 ls vc0 (Nat.lt_succ_self _) (lv_sub hl [2, 3, 4, 1, 0] rfl)
  clear vc2
  refine lv_icmp_ne (tgt := 50) hx hb d_Mo_same_12 (by decide) (fun h => ?_) (fun h => ?_)
  · have vc := vc.1 h
    refine lv_iconst (v := 0) hx hb d_Mo_same_50 (by decide) ?_
    exact jJ1 0 ls vc (lv_sub hl [0, 1, 2] rfl)
  · have vc := vc.2 h
    refine lv_aload_n hx hb d_Mo_same_15 rfl (lv_at hl 0 rfl) ?_
    refine va_get (D := D) (ci := 6) (v := .ref (b 2)) (C := R_Mo) (T := F_Mo) (N := 27) hx hb hts in_Mo hown hK hP 0 rfl rfl 3 (by decide) (hts _ fl_Mo_13) (fun _ h => h) rfl d_Mo_same_16 ?_
    refine lv_iload_n hx hb d_Mo_same_19 rfl (lv_at hl 1 rfl) ?_
    obtain ⟨vcb, vc⟩ := vc
    refine va_lald hx hb hK hP 2 1 rfl rfl vcb d_Mo_same_20 ?_
    refine lv_aload_n hx hb d_Mo_same_21 rfl (lv_at hl 0 rfl) ?_
    refine va_get (D := D) (ci := 6) (v := .ref (b 2)) (C := R_Mo) (T := F_Mo) (N := 27) hx hb hts in_Mo hown hK hP 0 rfl rfl 3 (by decide) (hts _ fl_Mo_13) (fun _ h => h) rfl d_Mo_same_22 ?_
    refine lv_iload_n hx hb d_Mo_same_25 rfl (lv_at hl 2 rfl) ?_
    obtain ⟨vcb, vc⟩ := vc
    refine va_lald hx hb hK hP 2 1 rfl rfl vcb d_Mo_same_26 ?_
    refine W.lcmp hx hb d_Mo_same_27 ?_
    obtain ⟨J2, vc, vc2⟩ := vc
    have jJ2 : ∀ (ls : Array Slot), J2 → lv_has ls 7 [(0, .ref (b 0)), (1, .int x), (2, .int y)] → W p l e R s m args below meth c H locs cells slots Q (F0 m 50 ls []) := by
      intro  ls vc hl
      have vc := vc2  vc
      refine lv_iconst (v := 0) hx hb d_Mo_same_50 (by decide) ?_
      exact jJ1 0 ls vc (lv_sub hl [0, 1, 2] rfl)
    clear vc2
    refine lv_if_ne (tgt := 50) hx hb d_Mo_same_28 (by decide) (fun h => ?_) (fun h => ?_)
    · have vc := vc.1 h
      exact jJ2 ls vc (lv_sub hl [0, 1, 2] rfl)
    · have vc := vc.2 h
      refine lv_aload_n hx hb d_Mo_same_31 rfl (lv_at hl 0 rfl) ?_
      refine va_get (D := D) (ci := 6) (v := .ref (b 3)) (C := R_Mo) (T := F_Mo) (N := 27) hx hb hts in_Mo hown hK hP 0 rfl rfl 4 (by decide) (hts _ fl_Mo_17) (fun _ h => h) rfl d_Mo_same_32 ?_
      refine lv_iload_n hx hb d_Mo_same_35 rfl (lv_at hl 1 rfl) ?_
      obtain ⟨vcb, vc⟩ := vc
      refine va_iald hx hb hK hP 3 0 rfl rfl vcb d_Mo_same_36 ?_
      refine lv_aload_n hx hb d_Mo_same_37 rfl (lv_at hl 0 rfl) ?_
      refine va_get (D := D) (ci := 6) (v := .ref (b 3)) (C := R_Mo) (T := F_Mo) (N := 27) hx hb hts in_Mo hown hK hP 0 rfl rfl 4 (by decide) (hts _ fl_Mo_17) (fun _ h => h) rfl d_Mo_same_38 ?_
      refine lv_iload_n hx hb d_Mo_same_41 rfl (lv_at hl 2 rfl) ?_
      obtain ⟨vcb, vc⟩ := vc
      refine va_iald hx hb hK hP 3 0 rfl rfl vcb d_Mo_same_42 ?_
      refine lv_icmp_ne (tgt := 50) hx hb d_Mo_same_43 (by decide) (fun h => ?_) (fun h => ?_)
      · have vc := vc.1 h
        exact jJ2 ls vc (lv_sub hl [0, 1, 2] rfl)
      · have vc := vc.2 h
        refine lv_iconst (v := 1) hx hb d_Mo_same_46 (by decide) ?_
        refine lv_goto (tgt := 51) hx hb d_Mo_same_47 (by decide) ?_
        exact jJ1 1 ls vc (lv_sub hl [0, 1, 2] rfl)
theorem h_Mo_same (l : Launch) (D : va_G) (b : Nat → Nat) (cI cJ cZ : ClassId) (mki : Nat → Int32) (msz : Nat → Int64) (mle : Nat → Int32) (mel : Nat → Int32) (mme : Nat → Int32) (mal : Nat → Int32) (mic : Nat → Int32) (mil : Nat → Int32) (mio : Nat → Int32) (mab : Nat → Int32) (mae : Nat → Int32) (msa : Nat → Int32) (mlc : Nat → Int32) (mli : Nat → Int32) (mna : Nat → Int32) (mva : Nat → Int32) (mma : Nat → Int32) (mch : Nat → Int32) (mre : Nat → Int32) (mlv : Nat → Int32) (mwr : Nat → Int64) (msh : Nat → Int32) (mth : Int32) (mnv : Int32) (mns : Int32) (mfa : Int32) (mmo : Int32) (x : Int32) (y : Int32) (r : Int32) (hr : narrow .boolean (.int r) = .int r) (vc : V_Mo_same mki msz mle mel mme mal mic mil mio mab mae msa mlc mli mna mva mma mch mre mlv mwr msh mth mnv mns mfa mmo x y (fun v => v = r)) : Pm l y_Mo_same b_Mo_same 7 (some .boolean) 0 0 [.ref (b 0), .int x, .int y] (wB D (tyA cI cJ cZ) (wM b cI cJ cZ mki msz mle mel mme mal mic mil mio mab mae msa mlc mli mna mva mma mch mre mlv mwr msh mth mnv mns mfa mmo)) (.int r) :=
  pm_i (by decide) hr (Nat.le_of_ble_eq_true rfl) (fun p e s m below meth c ls Q S hB hl hret => g_Mo_same S (Nat.le_refl _) (Nat.le_refl _) ⟨Nat.le_refl _, Nat.le_refl _⟩ D b cI cJ cZ mki msz mle mel mme mal mic mil mio mab mae msa mlc mli mna mva mma mch mre mlv mwr msh mth mnv mns mfa mmo x y hB.2 hB.1 hl vc hret)
theorem c_Mo_same (l : Launch) (D : va_G) (b : Nat → Nat) (cI cJ cZ : ClassId) (mki : Nat → Int32) (msz : Nat → Int64) (mle : Nat → Int32) (mel : Nat → Int32) (mme : Nat → Int32) (mal : Nat → Int32) (mic : Nat → Int32) (mil : Nat → Int32) (mio : Nat → Int32) (mab : Nat → Int32) (mae : Nat → Int32) (msa : Nat → Int32) (mlc : Nat → Int32) (mli : Nat → Int32) (mna : Nat → Int32) (mva : Nat → Int32) (mma : Nat → Int32) (mch : Nat → Int32) (mre : Nat → Int32) (mlv : Nat → Int32) (mwr : Nat → Int64) (msh : Nat → Int32) (mth : Int32) (mnv : Int32) (mns : Int32) (mfa : Int32) (mmo : Int32) (x : Int32) (y : Int32) (hpre : (vp_in x 40 ∧ vp_in y 40 ∧ (∀ v : Nat, v < 40 → (mle v).toNatClampNeg ≤ 8 ∧ ¬ mle v < 0) ∧ (∀ j : Nat, j < 320 → vp_in (mel j) 40) ∧ (∀ j : Nat, j < 480 → ¬ mme j < 0 → vp_in (mme j) 40))) : Pm l y_Mo_same b_Mo_same 7 (some .boolean) 0 0 [.ref (b 0), .int x, .int y] (wB D (tyA cI cJ cZ) (wM b cI cJ cZ mki msz mle mel mme mal mic mil mio mab mae msa mlc mli mna mva mma mch mre mlv mwr msh mth mnv mns mfa mmo)) (.int (bI (mSame mki msz mle mel mme mal x.toNatClampNeg y.toNatClampNeg))) := h_Mo_same l D b cI cJ cZ mki msz mle mel mme mal mic mil mio mab mae msa mlc mli mna mva mma mch mre mlv mwr msh mth mnv mns mfa mmo x y _ (bI_nar _) (by
  unfold V_Mo_same
  obtain ⟨hx, hy, hle, hel, hme⟩ := hpre
  obtain ⟨v, hv, rfl, hcv⟩ := vp_nat hx (by decide)
  obtain ⟨w, hw, rfl, hcw⟩ := vp_nat hy (by decide)
  obtain ⟨L, _, eL⟩ := nI_of (hle v hv).2
  have hL : L ≤ 8 := by have := (hle v hv).1; rw [eL, nI_clamp (by omega)] at this; exact this
  simp only [hcv, hcw, lg_eq0]
  generalize hc0 : decide (mki v = mki w ∧ msz v = msz w ∧ mle v = mle w) = c0
  refine ⟨hx, hy, fun z => z = bI c0, ⟨fun h => by rw [← hc0]; simp [bI, h], fun h => ⟨hx, hy, ¬ (msz v = msz w ∧ mle v = mle w), ⟨fun h2 => by simp [h2], fun h2 => ⟨hx, hy, fun h3 => by simp [h3], fun h3 => by rw [← hc0]; simp [bI, h, h2, h3]⟩⟩, fun h2 => by rw [← hc0]; simp [bI, h2]⟩⟩, ?_⟩
  rintro _ rfl
  generalize hpe : (fun i : Nat => decide (mal (mel (8 * v + i)).toNatClampNeg = mal (mel (8 * w + i)).toNatClampNeg)) = pe
  generalize hpm : (fun n : Nat => decide (if mme (12 * v + n) < 0 ∨ mme (12 * w + n) < 0 then mme (12 * v + n) = mme (12 * w + n) else mal (mme (12 * v + n)).toNatClampNeg = mal (mme (12 * w + n)).toNatClampNeg)) = pm
  have hfin : mSame mki msz mle mel mme mal v w = (c0 && (List.range L).all pe && (List.range 12).all pm) := by
    unfold mSame
    rw [hc0, hpe, hpm, eL, nI_clamp (by omega)]
  rw [hfin, eL]
  refine ⟨fun z i => ∃ k, k ≤ L ∧ i = nI k ∧ z = bI (c0 && (List.range k).all pe), fun _ i => L - i.toInt.toNat, ⟨0, Nat.zero_le _, rfl, by simp⟩, ?_⟩
  rintro z i ⟨k, hk, rfl, rfl⟩
  refine ⟨hx, (c0 && (List.range k).all pe) = (c0 && (List.range L).all pe), ⟨fun h => ?_, fun h => ⟨fun h2 => ?_, fun h2 => ?_⟩⟩, fun hj => ?_⟩
  · obtain rfl := fill_end (N := L) h (by omega) hk; rfl
  · cases c0
    · rfl
    · rw [bI0, Bool.true_and] at h2
      rw [Bool.true_and, Bool.true_and, h2, rall_f hk h2]
  · have hk2 := fill_step (N := L) h (by omega) hk
    have h3 : (c0 && (List.range k).all pe) = true := by
      cases e : (c0 && (List.range k).all pe)
      · rw [e] at h2; exact absurd rfl h2
      · rfl
    have i1 : (8 * nI v + nI k) = nI (8 * v + k) := by rw [nI_mulL, nI_add]
    have i2 : (8 * nI w + nI k) = nI (8 * w + k) := by rw [nI_mulL, nI_add]
    rw [i1, i2, nI_clamp (by omega), nI_clamp (by omega)]
    refine ⟨vp_in_nI (by omega) (by decide), hel _ (by omega), vp_in_nI (by omega) (by decide), hel _ (by omega), fun h4 => ⟨⟨k + 1, hk2, nI_1 k, ?_⟩, fill_mu hk2 (by omega)⟩, fun h4 => ⟨⟨k + 1, hk2, nI_1 k, ?_⟩, fill_mu hk2 (by omega)⟩⟩
    · rw [rall_s, ← Bool.and_assoc, h3, ← hpe]; simp [h4, bI]
    · rw [rall_s, ← Bool.and_assoc, h3, ← hpe]; simp [h4, bI]
  rw [hj]
  refine ⟨fun z i => ∃ k, k ≤ 12 ∧ i = nI k ∧ z = bI (c0 && (List.range L).all pe && (List.range k).all pm), fun _ i => 12 - i.toInt.toNat, ⟨0, Nat.zero_le _, rfl, by simp⟩, ?_⟩
  rintro z i ⟨k, hk, rfl, rfl⟩
  refine ⟨fun h => ?_, fun h => ⟨fun h2 => ?_, fun h2 => ?_⟩⟩
  · obtain rfl := fill_end (N := 12) h (by decide) hk; rfl
  · rw [bI0] at h2
    rw [h2]
    cases e : (c0 && (List.range L).all pe)
    · rfl
    · rw [e, Bool.true_and] at h2
      rw [Bool.true_and, rall_f hk h2]
  · have hk2 := fill_step (N := 12) h (by decide) hk
    have h3 : (c0 && (List.range L).all pe && (List.range k).all pm) = true := by
      cases e : (c0 && (List.range L).all pe && (List.range k).all pm)
      · rw [e] at h2; exact absurd rfl h2
      · rfl
    have i1 : (12 * nI v + nI k) = nI (12 * v + k) := by rw [nI_mulL, nI_add]
    have i2 : (12 * nI w + nI k) = nI (12 * w + k) := by rw [nI_mulL, nI_add]
    have st : ∀ b : Bool, pm k = b → (∃ k2, k2 ≤ 12 ∧ nI k + 1 = nI k2 ∧ bI b = bI (c0 && (List.range L).all pe && (List.range k2).all pm)) ∧ 12 - (nI k + 1).toInt.toNat < 12 - (nI k).toInt.toNat := fun b hb => ⟨⟨k + 1, hk2, nI_1 k, by rw [rall_s, ← Bool.and_assoc, h3, hb, Bool.true_and]⟩, fill_mu hk2 (by decide)⟩
    rw [i1, i2, nI_clamp (by omega), nI_clamp (by omega)]
    refine ⟨vp_in_nI (by omega) (by decide), vp_in_nI (by omega) (by decide), fun h4 => ⟨fun h5 => st false ?_, fun h5 => st true ?_⟩, fun h4 => ⟨fun h5 => ⟨hme _ (by omega) h4, hme _ (by omega) (fun q => absurd h5 (Int32.not_le.mpr q)), fun h6 => st false ?_, fun h6 => st true ?_⟩, fun h5 => ⟨fun h6 => st false ?_, fun h6 => st true ?_⟩⟩⟩
    · rw [← hpm]; simp [h4, h5]
    · rw [← hpm]; simp [h4, h5]
    · rw [← hpm]; simp [h4, Int32.not_lt.mpr h5, h6]
    · rw [← hpm]; simp [h4, Int32.not_lt.mpr h5, h6]
    · rw [← hpm]; simp [Int32.not_le.mp h5, h6]
    · rw [← hpm]; simp [Int32.not_le.mp h5, h6])
theorem hd_Mo_same : y_Mo_same.cls ≠ "java/lang/invoke/MethodHandle" ∧ y_Mo_same.cls ≠ "java/lang/invoke/VarHandle" ∧ (parseMethodDescriptor y_Mo_same.desc).map (fun d => d.parameters.length) = some 2 := ⟨by decide, by decide, by decide +kernel⟩
def V_Mo_compareAll (mki : Nat → Int32) (msz : Nat → Int64) (mle : Nat → Int32) (mel : Nat → Int32) (mme : Nat → Int32) (mal : Nat → Int32) (mic : Nat → Int32) (mil : Nat → Int32) (mio : Nat → Int32) (mab : Nat → Int32) (mae : Nat → Int32) (msa : Nat → Int32) (mlc : Nat → Int32) (mli : Nat → Int32) (mna : Nat → Int32) (mva : Nat → Int32) (mma : Nat → Int32) (mch : Nat → Int32) (mre : Nat → Int32) (mlv : Nat → Int32) (mwr : Nat → Int64) (msh : Nat → Int32) (mth : Int32) (mnv : Int32) (mns : Int32) (mfa : Int32) (mmo : Int32) (post : (Nat → Int32) → (Nat → Int64) → (Nat → Int32) → (Nat → Int32) → (Nat → Int32) → (Nat → Int32) → (Nat → Int32) → (Nat → Int32) → (Nat → Int32) → (Nat → Int32) → (Nat → Int32) → (Nat → Int32) → (Nat → Int32) → (Nat → Int32) → (Nat → Int32) → (Nat → Int32) → (Nat → Int32) → (Nat → Int32) → (Nat → Int32) → (Nat → Int32) → (Nat → Int64) → (Nat → Int32) → Int32 → Int32 → Int32 → Int32 → Int32 → Prop) : Prop :=
  (∃ (I12 : Int32 → (Nat → Int32) → Prop) (mI12 : Int32 → (Nat → Int32) → Nat), I12 0 mal ∧ (∀ (x10 : Int32) (f11 : Nat → Int32), I12 x10 f11 → ((mnv ≤ x10 → post mki msz mle mel mme f11 mic mil mio mab mae msa mlc mli mna mva mma mch mre mlv mwr msh mth mnv mns mfa mmo) ∧ (¬ mnv ≤ x10 → (vp_in x10 40 ∧ (∃ (I18 : Int32 → (Nat → Int32) → Prop) (mI18 : Int32 → (Nat → Int32) → Nat), I18 (x10 - 1) (upd f11 x10.toNatClampNeg x10) ∧ (∀ (x16 : Int32) (f17 : Nat → Int32), I18 x16 f17 → ((x16 < 0 → (vp_in x10 40 ∧ (vp_in (f17 x10.toNatClampNeg) 40 ∧ (vp_in x10 40 ∧ (I12 (x10 + 1) (upd f17 x10.toNatClampNeg (f17 (f17 x10.toNatClampNeg : Int32).toNatClampNeg)) ∧ mI12 (x10 + 1) (upd f17 x10.toNatClampNeg (f17 (f17 x10.toNatClampNeg : Int32).toNatClampNeg)) < mI12 x10 f11))))) ∧ (¬ x16 < 0 → ((vp_in x10 40 ∧ vp_in x16 40 ∧ (∀ v : Nat, v < 40 → (mle v).toNatClampNeg ≤ 8 ∧ ¬ mle v < 0) ∧ (∀ j : Nat, j < 320 → vp_in (mel j) 40) ∧ (∀ j : Nat, j < 480 → ¬ mme j < 0 → vp_in (mme j) 40)) ∧ (∃ J19 : Int32 → Prop, (((bI (mSame mki msz mle mel mme f17 x10.toNatClampNeg x16.toNatClampNeg)) = 0 → (vp_in x10 40 ∧ J19 (f17 x10.toNatClampNeg))) ∧ (¬ (bI (mSame mki msz mle mel mme f17 x10.toNatClampNeg x16.toNatClampNeg)) = 0 → J19 x16)) ∧ (∀ (x20 : Int32), J19 x20 → (vp_in x10 40 ∧ (I18 (x16 + (-1)) (upd f17 x10.toNatClampNeg x20) ∧ mI18 (x16 + (-1)) (upd f17 x10.toNatClampNeg x20) < mI18 x16 f17))))))))))))))
set_option maxHeartbeats 4000000 in
set_option maxRecDepth 100000 in
theorem g_Mo_compareAll {p : Program} {l : Launch} {e : Env} {R : Room} {s : State} {m : MethodId} {args : Array Value} {below : List Frame} {meth : Method} {c : Code} {H : Heap} {locs : List Loc} {cells slots : Nat} {Q : State → Prop} {ls : Array Slot} {A : Nat → Prop} (S : CallFix p m c b_Mo_compareAll 3 s args W0 R_Mo) (hRf : 1 ≤ R.frames) (hRl : 26 ≤ R.locals) (hRc : cells ≤ R.cells ∧ slots ≤ R.slots) (D : va_G) (b : Nat → Nat) (cI cJ cZ : ClassId) (mki : Nat → Int32) (msz : Nat → Int64) (mle : Nat → Int32) (mel : Nat → Int32) (mme : Nat → Int32) (mal : Nat → Int32) (mic : Nat → Int32) (mil : Nat → Int32) (mio : Nat → Int32) (mab : Nat → Int32) (mae : Nat → Int32) (msa : Nat → Int32) (mlc : Nat → Int32) (mli : Nat → Int32) (mna : Nat → Int32) (mva : Nat → Int32) (mma : Nat → Int32) (mch : Nat → Int32) (mre : Nat → Int32) (mlv : Nat → Int32) (mwr : Nat → Int64) (msh : Nat → Int32) (mth : Int32) (mnv : Int32) (mns : Int32) (mfa : Int32) (mmo : Int32) (hK : va_K D vwCl (tyA cI cJ cZ) s) (hP : va_P D vwCl (wM b cI cJ cZ mki msz mle mel mme mal mic mil mio mab mae msa mlc mli mna mva mma mch mre mlv mwr msh mth mnv mns mfa mmo) H) (hD : va_D A (wM b cI cJ cZ mki msz mle mel mme mal mic mil mio mab mae msa mlc mli mna mva mma mch mre mlv mwr msh mth mnv mns mfa mmo)) (hA : ∀ q, s.heap.size ≤ q → A q) (hS : va_S A s.heap H locs) (hl : lv_has ls 3 [(0, .ref (b 0))]) {post : (Nat → Int32) → (Nat → Int64) → (Nat → Int32) → (Nat → Int32) → (Nat → Int32) → (Nat → Int32) → (Nat → Int32) → (Nat → Int32) → (Nat → Int32) → (Nat → Int32) → (Nat → Int32) → (Nat → Int32) → (Nat → Int32) → (Nat → Int32) → (Nat → Int32) → (Nat → Int32) → (Nat → Int32) → (Nat → Int32) → (Nat → Int32) → (Nat → Int32) → (Nat → Int64) → (Nat → Int32) → Int32 → Int32 → Int32 → Int32 → Int32 → Prop} (vc : V_Mo_compareAll mki msz mle mel mme mal mic mil mio mab mae msa mlc mli mna mva mma mch mre mlv mwr msh mth mnv mns mfa mmo post)
    (hret : ∀ (mki : Nat → Int32) (msz : Nat → Int64) (mle : Nat → Int32) (mel : Nat → Int32) (mme : Nat → Int32) (mal : Nat → Int32) (mic : Nat → Int32) (mil : Nat → Int32) (mio : Nat → Int32) (mab : Nat → Int32) (mae : Nat → Int32) (msa : Nat → Int32) (mlc : Nat → Int32) (mli : Nat → Int32) (mna : Nat → Int32) (mva : Nat → Int32) (mma : Nat → Int32) (mch : Nat → Int32) (mre : Nat → Int32) (mlv : Nat → Int32) (mwr : Nat → Int64) (msh : Nat → Int32) (mth : Int32) (mnv : Int32) (mns : Int32) (mfa : Int32) (mmo : Int32) (ls : Array Slot) (pc : Nat) (H : Heap) (locs : List Loc), decode b_Mo_compareAll pc = .ok (.return_, 1) → post mki msz mle mel mme mal mic mil mio mab mae msa mlc mli mna mva mma mch mre mlv mwr msh mth mnv mns mfa mmo → va_P D vwCl (wM b cI cJ cZ mki msz mle mel mme mal mic mil mio mab mae msa mlc mli mna mva mma mch mre mlv mwr msh mth mnv mns mfa mmo) H → va_D A (wM b cI cJ cZ mki msz mle mel mme mal mic mil mio mab mae msa mlc mli mna mva mma mch mre mlv mwr msh mth mnv mns mfa mmo) → va_S A s.heap H locs → W p l e R s m args below meth c H locs cells slots Q (F0 m pc ls [])) : W p l e R s m args below meth c H locs cells slots Q (F0 m 0 ls []) := by
  have hx := S.1
  have hb := S.2.1
  have hown := S.2.2.2.1
  have hts := S.2.2.2.2
  unfold V_Mo_compareAll at vc
  refine lv_iconst (v := 0) hx hb d_Mo_compareAll_0 (by decide) ?_
  refine lv_istore_n hx hb d_Mo_compareAll_1 rfl hl (by decide) (lv' := [(1, .int 0), (0, .ref (b 0))]) rfl (fun ls hl => ?_)
  obtain ⟨I12, mI12, vc0, vcs⟩ := vc
  have lI12 : ∀ n : Nat, ∀ (x10 : Int32) (f11 : Nat → Int32) (ls : Array Slot) (H : Heap) (locs : List Loc), I12 x10 f11 → mI12 x10 f11 < n → lv_has ls 3 [(0, .ref (b 0)), (1, .int x10)] → va_P D vwCl (wM b cI cJ cZ mki msz mle mel mme f11 mic mil mio mab mae msa mlc mli mna mva mma mch mre mlv mwr msh mth mnv mns mfa mmo) H → va_D A (wM b cI cJ cZ mki msz mle mel mme f11 mic mil mio mab mae msa mlc mli mna mva mma mch mre mlv mwr msh mth mnv mns mfa mmo) → va_S A s.heap H locs → W p l e R s m args below meth c H locs cells slots Q (F0 m 2 ls []) := by
    intro n
    induction n with
    | zero => intro x10 f11 ls H locs _ h; exact absurd h (Nat.not_lt_zero _)
    | succ n ihI12 =>
      intro x10 f11 ls H locs vc hmI12 hl hP hD hS
      have vc := vcs x10 f11 vc
      refine lv_iload_n hx hb d_Mo_compareAll_2 rfl (lv_at hl 1 rfl) ?_
      refine lv_aload_n hx hb d_Mo_compareAll_3 rfl (lv_at hl 0 rfl) ?_
      refine va_get (D := D) (ci := 6) (v := .int mnv) (C := R_Mo) (T := F_Mo) (N := 27) hx hb hts in_Mo hown hK hP 0 rfl rfl 1 (by decide) (hts _ fl_Mo_82) (fun _ h => h) rfl d_Mo_compareAll_4 ?_
      refine lv_icmp_ge (tgt := 79) hx hb d_Mo_compareAll_7 (by decide) (fun h => ?_) (fun h => ?_)
      · have vc := vc.1 h
        exact hret _ _ _ _ _ _ _ _ _ _ _ _ _ _ _ _ _ _ _ _ _ _ _ _ _ _ _ ls _ H locs d_Mo_compareAll_79 vc hP hD hS
      · have vc := vc.2 h
        refine lv_aload_n hx hb d_Mo_compareAll_10 rfl (lv_at hl 0 rfl) ?_
        refine va_get (D := D) (ci := 6) (v := .ref (b 6)) (C := R_Mo) (T := F_Mo) (N := 27) hx hb hts in_Mo hown hK hP 0 rfl rfl 7 (by decide) (hts _ fl_Mo_26) (fun _ h => h) rfl d_Mo_compareAll_11 ?_
        refine lv_iload_n hx hb d_Mo_compareAll_14 rfl (lv_at hl 1 rfl) ?_
        refine lv_iload_n hx hb d_Mo_compareAll_15 rfl (lv_at hl 1 rfl) ?_
        obtain ⟨vcb, vc⟩ := vc
        refine va_iast hx hb hK hP hD hS 6 0 rfl rfl vcb d_Mo_compareAll_16 (fun H locs hP hD hS => ?_)
        have hP : va_P D vwCl (wM b cI cJ cZ mki msz mle mel mme (upd f11 x10.toNatClampNeg x10) mic mil mio mab mae msa mlc mli mna mva mma mch mre mlv mwr msh mth mnv mns mfa mmo) H := hP
        have hD : va_D A (wM b cI cJ cZ mki msz mle mel mme (upd f11 x10.toNatClampNeg x10) mic mil mio mab mae msa mlc mli mna mva mma mch mre mlv mwr msh mth mnv mns mfa mmo) := hD
        refine lv_iload_n hx hb d_Mo_compareAll_17 rfl (lv_at hl 1 rfl) ?_
        refine lv_iconst (v := 1) hx hb d_Mo_compareAll_18 (by decide) ?_
        refine lv_isub hx hb d_Mo_compareAll_19 ?_
        refine lv_istore_n hx hb d_Mo_compareAll_20 rfl hl (by decide) (lv' := [(2, .int (x10 - 1)), (0, .ref (b 0)), (1, .int x10)]) rfl (fun ls hl => ?_)
        obtain ⟨I18, mI18, vc0, vcs⟩ := vc
        have lI18 : ∀ n : Nat, ∀ (x16 : Int32) (f17 : Nat → Int32) (ls : Array Slot) (H : Heap) (locs : List Loc), I18 x16 f17 → mI18 x16 f17 < n → lv_has ls 3 [(0, .ref (b 0)), (1, .int x10), (2, .int x16)] → va_P D vwCl (wM b cI cJ cZ mki msz mle mel mme f17 mic mil mio mab mae msa mlc mli mna mva mma mch mre mlv mwr msh mth mnv mns mfa mmo) H → va_D A (wM b cI cJ cZ mki msz mle mel mme f17 mic mil mio mab mae msa mlc mli mna mva mma mch mre mlv mwr msh mth mnv mns mfa mmo) → va_S A s.heap H locs → W p l e R s m args below meth c H locs cells slots Q (F0 m 21 ls []) := by
          intro n
          induction n with
          | zero => intro x16 f17 ls H locs _ h; exact absurd h (Nat.not_lt_zero _)
          | succ n ihI18 =>
            intro x16 f17 ls H locs vc hmI18 hl hP hD hS
            have vc := vcs x16 f17 vc
            refine lv_iload_n hx hb d_Mo_compareAll_21 rfl (lv_at hl 2 rfl) ?_
            refine lv_if_lt (tgt := 56) hx hb d_Mo_compareAll_22 (by decide) (fun h => ?_) (fun h => ?_)
            · have vc := vc.1 h
              refine lv_aload_n hx hb d_Mo_compareAll_56 rfl (lv_at hl 0 rfl) ?_
              refine va_get (D := D) (ci := 6) (v := .ref (b 6)) (C := R_Mo) (T := F_Mo) (N := 27) hx hb hts in_Mo hown hK hP 0 rfl rfl 7 (by decide) (hts _ fl_Mo_26) (fun _ h => h) rfl d_Mo_compareAll_57 ?_
              refine lv_iload_n hx hb d_Mo_compareAll_60 rfl (lv_at hl 1 rfl) ?_
              refine lv_aload_n hx hb d_Mo_compareAll_61 rfl (lv_at hl 0 rfl) ?_
              refine va_get (D := D) (ci := 6) (v := .ref (b 6)) (C := R_Mo) (T := F_Mo) (N := 27) hx hb hts in_Mo hown hK hP 0 rfl rfl 7 (by decide) (hts _ fl_Mo_26) (fun _ h => h) rfl d_Mo_compareAll_62 ?_
              refine lv_aload_n hx hb d_Mo_compareAll_65 rfl (lv_at hl 0 rfl) ?_
              refine va_get (D := D) (ci := 6) (v := .ref (b 6)) (C := R_Mo) (T := F_Mo) (N := 27) hx hb hts in_Mo hown hK hP 0 rfl rfl 7 (by decide) (hts _ fl_Mo_26) (fun _ h => h) rfl d_Mo_compareAll_66 ?_
              refine lv_iload_n hx hb d_Mo_compareAll_69 rfl (lv_at hl 1 rfl) ?_
              obtain ⟨vcb, vc⟩ := vc
              refine va_iald hx hb hK hP 6 0 rfl rfl vcb d_Mo_compareAll_70 ?_
              obtain ⟨vcb, vc⟩ := vc
              refine va_iald hx hb hK hP 6 0 rfl rfl vcb d_Mo_compareAll_71 ?_
              obtain ⟨vcb, vc⟩ := vc
              refine va_iast hx hb hK hP hD hS 6 0 rfl rfl vcb d_Mo_compareAll_72 (fun H locs hP hD hS => ?_)
              have hP : va_P D vwCl (wM b cI cJ cZ mki msz mle mel mme (upd f17 x10.toNatClampNeg (f17 (f17 x10.toNatClampNeg : Int32).toNatClampNeg)) mic mil mio mab mae msa mlc mli mna mva mma mch mre mlv mwr msh mth mnv mns mfa mmo) H := hP
              have hD : va_D A (wM b cI cJ cZ mki msz mle mel mme (upd f17 x10.toNatClampNeg (f17 (f17 x10.toNatClampNeg : Int32).toNatClampNeg)) mic mil mio mab mae msa mlc mli mna mva mma mch mre mlv mwr msh mth mnv mns mfa mmo) := hD
              refine lv_iinc (k := 1) (v := x10 + 1) hx hb d_Mo_compareAll_73 hl rfl rfl (by decide) (lv' := [(1, .int (x10 + 1)), (0, .ref (b 0)), (2, .int x16)]) rfl (fun ls hl => ?_)
              refine lv_goto (tgt := 2) hx hb d_Mo_compareAll_76 (by decide) ?_
              exact ihI12 (x10 + 1) (upd f17 x10.toNatClampNeg (f17 (f17 x10.toNatClampNeg : Int32).toNatClampNeg)) ls H locs vc.1 (Nat.lt_of_lt_of_le vc.2 (Nat.le_of_lt_succ hmI12)) (lv_sub hl [1, 0] rfl) hP hD hS
            · have vc := vc.2 h
              refine lv_aload_n hx hb d_Mo_compareAll_25 rfl (lv_at hl 0 rfl) ?_
              refine va_get (D := D) (ci := 6) (v := .ref (b 6)) (C := R_Mo) (T := F_Mo) (N := 27) hx hb hts in_Mo hown hK hP 0 rfl rfl 7 (by decide) (hts _ fl_Mo_26) (fun _ h => h) rfl d_Mo_compareAll_26 ?_
              refine lv_iload_n hx hb d_Mo_compareAll_29 rfl (lv_at hl 1 rfl) ?_
              refine lv_aload_n hx hb d_Mo_compareAll_30 rfl (lv_at hl 0 rfl) ?_
              refine lv_iload_n hx hb d_Mo_compareAll_31 rfl (lv_at hl 1 rfl) ?_
              refine lv_iload_n hx hb d_Mo_compareAll_32 rfl (lv_at hl 2 rfl) ?_
              obtain ⟨hpre, vc⟩ := vc
              refine pc_V (As := [.int x10, .int x16]) (rest := [.int x10, .ref (b 6)]) S (c_Mo_same l D b cI cJ cZ mki msz mle mel mme f17 mic mil mio mab mae msa mlc mli mna mva mma mch mre mlv mwr msh mth mnv mns mfa mmo x10 x16 hpre) wB_blind k_Mo_same i_Mo_same e_Mo_same o_Mo ml_Mo_111 hd_Mo_same (Nat.le_trans (by decide) hRf) (Nat.le_trans (by decide) hRl) hRc (va_recv hK hP (q0 := 0) (ci := 6) rfl rfl) (wB_at hP hK) hl.1 rfl (Nat.le_of_ble_eq_true rfl) d_Mo_compareAll_33 ?_
              obtain ⟨J19, vc, vc2⟩ := vc
              have jJ19 : ∀ (x20 : Int32) (ls : Array Slot) (H : Heap) (locs : List Loc), J19 x20 → lv_has ls 3 [(0, .ref (b 0)), (1, .int x10), (2, .int x16)] → va_P D vwCl (wM b cI cJ cZ mki msz mle mel mme f17 mic mil mio mab mae msa mlc mli mna mva mma mch mre mlv mwr msh mth mnv mns mfa mmo) H → va_D A (wM b cI cJ cZ mki msz mle mel mme f17 mic mil mio mab mae msa mlc mli mna mva mma mch mre mlv mwr msh mth mnv mns mfa mmo) → va_S A s.heap H locs → W p l e R s m args below meth c H locs cells slots Q (F0 m 49 ls [.int x20, .int x10, .ref (b 6)]) := by
                intro x20 ls H locs vc hl hP hD hS
                have vc := vc2 x20 vc
                obtain ⟨vcb, vc⟩ := vc
                refine va_iast hx hb hK hP hD hS 6 0 rfl rfl vcb d_Mo_compareAll_49 (fun H locs hP hD hS => ?_)
                have hP : va_P D vwCl (wM b cI cJ cZ mki msz mle mel mme (upd f17 x10.toNatClampNeg x20) mic mil mio mab mae msa mlc mli mna mva mma mch mre mlv mwr msh mth mnv mns mfa mmo) H := hP
                have hD : va_D A (wM b cI cJ cZ mki msz mle mel mme (upd f17 x10.toNatClampNeg x20) mic mil mio mab mae msa mlc mli mna mva mma mch mre mlv mwr msh mth mnv mns mfa mmo) := hD
                refine lv_iinc (k := 2) (v := x16 + (-1)) hx hb d_Mo_compareAll_50 hl rfl rfl (by decide) (lv' := [(2, .int (x16 + (-1))), (0, .ref (b 0)), (1, .int x10)]) rfl (fun ls hl => ?_)
                refine lv_goto (tgt := 21) hx hb d_Mo_compareAll_53 (by decide) ?_
                exact ihI18 (x16 + (-1)) (upd f17 x10.toNatClampNeg x20) ls H locs vc.1 (Nat.lt_of_lt_of_le vc.2 (Nat.le_of_lt_succ hmI18)) (lv_sub hl [1, 2, 0] rfl) hP hD hS
              clear vc2
              refine lv_if_eq (tgt := 43) hx hb d_Mo_compareAll_36 (by decide) (fun h => ?_) (fun h => ?_)
              · have vc := vc.1 h
                refine lv_aload_n hx hb d_Mo_compareAll_43 rfl (lv_at hl 0 rfl) ?_
                refine va_get (D := D) (ci := 6) (v := .ref (b 6)) (C := R_Mo) (T := F_Mo) (N := 27) hx hb hts in_Mo hown hK hP 0 rfl rfl 7 (by decide) (hts _ fl_Mo_26) (fun _ h => h) rfl d_Mo_compareAll_44 ?_
                refine lv_iload_n hx hb d_Mo_compareAll_47 rfl (lv_at hl 1 rfl) ?_
                obtain ⟨vcb, vc⟩ := vc
                refine va_iald hx hb hK hP 6 0 rfl rfl vcb d_Mo_compareAll_48 ?_
                exact jJ19 (f17 x10.toNatClampNeg) ls H locs vc (lv_sub hl [0, 1, 2] rfl) hP hD hS
              · have vc := vc.2 h
                refine lv_iload_n hx hb d_Mo_compareAll_39 rfl (lv_at hl 2 rfl) ?_
                refine lv_goto (tgt := 49) hx hb d_Mo_compareAll_40 (by decide) ?_
                exact jJ19 x16 ls H locs vc (lv_sub hl [0, 1, 2] rfl) hP hD hS
        exact lI18 _ (x10 - 1) (upd f11 x10.toNatClampNeg x10) ls H locs vc0 (Nat.lt_succ_self _) (lv_sub hl [1, 2, 0] rfl) hP hD hS
  exact lI12 _ 0 mal ls H locs vc0 (Nat.lt_succ_self _) (lv_sub hl [1, 0] rfl) hP hD hS
set_option maxHeartbeats 4000000 in
theorem v_Mo_compareAll (mki : Nat → Int32) (msz : Nat → Int64) (mle : Nat → Int32) (mel : Nat → Int32) (mme : Nat → Int32) (mal : Nat → Int32) (mic : Nat → Int32) (mil : Nat → Int32) (mio : Nat → Int32) (mab : Nat → Int32) (mae : Nat → Int32) (msa : Nat → Int32) (mlc : Nat → Int32) (mli : Nat → Int32) (mna : Nat → Int32) (mva : Nat → Int32) (mma : Nat → Int32) (mch : Nat → Int32) (mre : Nat → Int32) (mlv : Nat → Int32) (mwr : Nat → Int64) (msh : Nat → Int32) (mth : Int32) (mnv : Int32) (mns : Int32) (mfa : Int32) (mmo : Int32) (hpre : (∃ n : Nat, n ≤ 40 ∧ mnv = nI n ∧ MeOK mle mel mme ∧ (∀ v : Nat, v < 40 → (mle v).toNatClampNeg ≤ 8 ∧ ¬ mle v < 0) ∧ (∀ j : Nat, j < 320 → vp_in (mel j) 40) ∧ (∀ j : Nat, j < 480 → ¬ mme j < 0 → vp_in (mme j) 40))) : V_Mo_compareAll mki msz mle mel mme mal mic mil mio mab mae msa mlc mli mna mva mma mch mre mlv mwr msh mth mnv mns mfa mmo (fun mki' msz' mle' mel' mme' mal' mic' mil' mio' mab' mae' msa' mlc' mli' mna' mva' mma' mch' mre' mlv' mwr' msh' mth' mnv' mns' mfa' mmo' => (∀ n : Nat, mnv = nI n → n ≤ 40 → AlOK mki msz mle mel mme mal' n) ∧ mki' = mki ∧ msz' = msz ∧ mle' = mle ∧ mel' = mel ∧ mme' = mme ∧ mic' = mic ∧ mil' = mil ∧ mio' = mio ∧ mab' = mab ∧ mae' = mae ∧ msa' = msa ∧ mlc' = mlc ∧ mli' = mli ∧ mna' = mna ∧ mva' = mva ∧ mma' = mma ∧ mch' = mch ∧ mre' = mre ∧ mlv' = mlv ∧ mwr' = mwr ∧ msh' = msh ∧ mth' = mth ∧ mnv' = mnv ∧ mns' = mns ∧ mfa' = mfa ∧ mmo' = mmo) := by
  unfold V_Mo_compareAll
  obtain ⟨n, hn, rfl, hp, hpre⟩ := hpre
  refine ⟨fun x f => ∃ v, v ≤ n ∧ x = nI v ∧ AlOK mki msz mle mel mme f v, fun x _ => n - x.toInt.toNat, ⟨0, Nat.zero_le _, rfl, fun v hv => absurd hv (Nat.not_lt_zero _)⟩, ?_⟩
  rintro x f ⟨v, hv, rfl, hf⟩
  refine ⟨fun h => ?_, fun h => ?_⟩
  · obtain rfl := fill_end (N := n) h (by omega) hv
    refine ⟨fun n2 e hn2 => ?_, rfl, rfl, rfl, rfl, rfl, rfl, rfl, rfl, rfl, rfl, rfl, rfl, rfl, rfl, rfl, rfl, rfl, rfl, rfl, rfl, rfl, rfl, rfl, rfl, rfl, rfl⟩
    rw [nI_eq (by omega) (by omega)] at e
    subst e; exact hf
  · have hv2 := fill_step (N := n) h (by omega) hv
    have hin : vp_in (nI v) 40 := vp_in_nI (by omega) (by decide)
    rw [nI_clamp (n := v) (by omega)]
    refine ⟨hin, fun x f2 => ∃ w t, w ≤ v ∧ x = nI w - 1 ∧ (∀ j, j ≠ v → f2 j = f j) ∧ f2 v = nI t ∧ t ≤ v ∧ (t < v → w ≤ t ∧ mSame mki msz mle mel mme f v t = true) ∧ (∀ u, w ≤ u → u < t → mSame mki msz mle mel mme f v u = false), fun x _ => (x + 1).toInt.toNat, ⟨v, v, Nat.le_refl _, rfl, fun j hj => upd_ne hj, upd_at, Nat.le_refl _, fun q => absurd q (Nat.lt_irrefl _), fun u q1 q2 => by omega⟩, ?_⟩
    rintro x f2 ⟨w, t, hw, rfl, g1, g2, g3, g4, g5⟩
    refine ⟨fun h2 => ?_, fun h2 => ?_⟩
    · rw [m1_lt (by omega)] at h2
      subst h2
      rw [g2, nI_clamp (n := t) (by omega)]
      have ht : f2 t = nI t := by
        by_cases e : t = v
        · rw [e] at g2 ⊢; exact g2
        · rw [g1 t e]
          obtain ⟨t', a1, a2, a3, a4⟩ := hf t (by omega)
          rw [a2]
          rcases Nat.lt_or_ge t' t with q | q
          · have := mSame_trans ((g4 (by omega)).2) (a3 q)
            rw [g5 t' (by omega) q] at this; cases this
          · rw [Nat.le_antisymm a1 q]
      rw [ht]
      exact ⟨hin, vp_in_nI (by omega) (by decide), hin, ⟨v + 1, hv2, nI_1 v, AlOK_next (t := t) (by omega) hp (fun j hj => by rw [upd_ne hj]; exact g1 j hj) hf g3 upd_at (fun q => (g4 q).2) (fun u hu => g5 u (by omega) hu)⟩, fill_mu hv2 (by omega)⟩
    · rw [m1_lt (by omega)] at h2
      rw [m1_nI w (by omega), nI_clamp (by omega), ← mSame_congr (mal := f) hp (by omega) (by omega) (fun j hj => (g1 j (by omega)).symm)]
      refine ⟨⟨hin, vp_in_nI (by omega) (by decide), hpre⟩, ?_⟩
      have hx : nI (w - 1) + (-1) = nI (w - 1) - 1 := by rw [← Int32.sub_eq_add_neg]
      have mu : (nI (w - 1) - 1 + 1).toInt.toNat < (nI (w - 1) + 1).toInt.toNat := by
        rw [Int32.sub_add_cancel, nI_1, nI_toInt (by omega), nI_toInt (by omega)]; omega
      refine ⟨fun z => z = if mSame mki msz mle mel mme f v (w - 1) = true then nI (w - 1) else f2 v, ⟨fun h3 => ⟨hin, ?_⟩, fun h3 => ?_⟩, ?_⟩
      · rw [bI0.mp h3]; rfl
      · have : mSame mki msz mle mel mme f v (w - 1) = true := by
          cases e : mSame mki msz mle mel mme f v (w - 1)
          · rw [e] at h3; exact absurd rfl h3
          · rfl
        rw [if_pos this]
      rintro _ rfl
      rw [hx]
      by_cases hs : mSame mki msz mle mel mme f v (w - 1) = true
      · rw [if_pos hs]
        exact ⟨hin, ⟨w - 1, w - 1, by omega, rfl, fun j hj => by rw [upd_ne hj]; exact g1 j hj, upd_at, by omega, fun _ => ⟨Nat.le_refl _, hs⟩, fun u q1 q2 => by omega⟩, mu⟩
      · rw [if_neg hs]
        refine ⟨hin, ⟨w - 1, t, by omega, rfl, fun j hj => by rw [upd_ne hj]; exact g1 j hj, by rw [upd_at]; exact g2, g3, fun q => ⟨by have := (g4 q).1; omega, (g4 q).2⟩, fun u q1 q2 => ?_⟩, mu⟩
        by_cases e : u = w - 1
        · subst e; exact Bool.eq_false_iff.mpr hs
        · exact g5 u (by omega) q2
theorem c_Mo_compareAll (l : Launch) (D : va_G) (b : Nat → Nat) (cI cJ cZ : ClassId) (mki : Nat → Int32) (msz : Nat → Int64) (mle : Nat → Int32) (mel : Nat → Int32) (mme : Nat → Int32) (mal : Nat → Int32) (mic : Nat → Int32) (mil : Nat → Int32) (mio : Nat → Int32) (mab : Nat → Int32) (mae : Nat → Int32) (msa : Nat → Int32) (mlc : Nat → Int32) (mli : Nat → Int32) (mna : Nat → Int32) (mva : Nat → Int32) (mma : Nat → Int32) (mch : Nat → Int32) (mre : Nat → Int32) (mlv : Nat → Int32) (mwr : Nat → Int64) (msh : Nat → Int32) (mth : Int32) (mnv : Int32) (mns : Int32) (mfa : Int32) (mmo : Int32) (hpre : (∃ n : Nat, n ≤ 40 ∧ mnv = nI n ∧ MeOK mle mel mme ∧ (∀ v : Nat, v < 40 → (mle v).toNatClampNeg ≤ 8 ∧ ¬ mle v < 0) ∧ (∀ j : Nat, j < 320 → vp_in (mel j) 40) ∧ (∀ j : Nat, j < 480 → ¬ mme j < 0 → vp_in (mme j) 40))) : Wm (S := (Nat → Int32)) l y_Mo_compareAll b_Mo_compareAll 3 none 1 26 [.ref (b 0)] D (tyA cI cJ cZ) (wM b cI cJ cZ mki msz mle mel mme mal mic mil mio mab mae msa mlc mli mna mva mma mch mre mlv mwr msh mth mnv mns mfa mmo) (fun uu => ∀ n : Nat, mnv = nI n → n ≤ 40 → AlOK mki msz mle mel mme uu n) (fun uu => none) (fun uu => (wM b cI cJ cZ mki msz mle mel mme uu mic mil mio mab mae msa mlc mli mna mva mma mch mre mlv mwr msh mth mnv mns mfa mmo)) :=
  wm_v (by decide) (Nat.le_of_ble_eq_true rfl) (fun p e s m below meth c ls Q A S hK hP hD hA hS hl hret => g_Mo_compareAll S (Nat.le_refl _) (Nat.le_refl _) ⟨Nat.le_refl _, Nat.le_refl _⟩ D b cI cJ cZ mki msz mle mel mme mal mic mil mio mab mae msa mlc mli mna mva mma mch mre mlv mwr msh mth mnv mns mfa mmo hK hP hD hA hS hl (v_Mo_compareAll mki msz mle mel mme mal mic mil mio mab mae msa mlc mli mna mva mma mch mre mlv mwr msh mth mnv mns mfa mmo hpre) (fun mki' msz' mle' mel' mme' mal' mic' mil' mio' mab' mae' msa' mlc' mli' mna' mva' mma' mch' mre' mlv' mwr' msh' mth' mnv' mns' mfa' mmo' ls1 pc H1 locs1 hd hv hP1 hD1 hS1 => by obtain ⟨hp, rfl, rfl, rfl, rfl, rfl, rfl, rfl, rfl, rfl, rfl, rfl, rfl, rfl, rfl, rfl, rfl, rfl, rfl, rfl, rfl, rfl, rfl, rfl, rfl, rfl, rfl⟩ := hv; exact hret mal' ls1 pc H1 locs1 hd hp hP1 hD1 hS1))
theorem hd_Mo_compareAll : y_Mo_compareAll.cls ≠ "java/lang/invoke/MethodHandle" ∧ y_Mo_compareAll.cls ≠ "java/lang/invoke/VarHandle" ∧ (parseMethodDescriptor y_Mo_compareAll.desc).map (fun d => d.parameters.length) = some 0 := ⟨by decide, by decide, by decide +kernel⟩
