/-! ===== patterns: the model's way ===== -/
def mSpr (of : Nat → Int32) (y : Int32) : Nat → Int32
  | 0 => y
  | i + 1 => if (bt (mSpr of y i) (2 * i + 1) || (bt (mSpr of y i) (2 * i) && (decide (of i = 1) || decide (of i = 2)))) = true then mSpr of y i ||| (4 <<< (nI (2 * i) &&& 31)) else mSpr of y i
def mOvr (fit : Nat → Bool) (of : Nat → Int32) (y : Int32) : Nat → Int32
  | 0 => 0
  | i + 1 => if (fit i && (bt y (2 * i) || (bt y (2 * i + 1) && decide (¬ of i ≤ 1)))) = true then mOvr fit of y i ||| (2 <<< (nI (2 * i) &&& 31)) else mOvr fit of y i
/-- the places after j letters -/
def mPlc (il io : Nat → Int32) (bg : Bool) (n t : Nat) : Nat → Int32
  | 0 => mSpr io 1 n
  | j + 1 => mSpr io (if bg = true then mOvr (fun i => bt (il i) (t / 5 ^ j % 5 - 1)) io (mPlc il io bg n t j) n else mOvr (fun i => bt (il i) (t / 5 ^ j % 5 - 1)) io (mPlc il io bg n t j) n ||| 1) n
def mFnd (il io : Nat → Int32) (bg ae : Bool) (n t : Nat) : Nat → Bool
  | 0 => bt (mPlc il io bg n t 0) (2 * n)
  | j + 1 => if ae = true then bt (mPlc il io bg n t (j + 1)) (2 * n) else mFnd il io bg ae n t j || bt (mPlc il io bg n t (j + 1)) (2 * n)
theorem mu5 {z : Nat} (h0 : z < 2 ^ 31) (h1 : ¬ z = 0) : (nI z / 5).toInt.toNat < (nI z).toInt.toNat := by
  rw [div5 h0, nI_toInt h0, nI_toInt (by omega)]; omega
theorem mOvr_s (fit : Nat → Bool) (of : Nat → Int32) (y : Int32) (i : Nat) : mOvr fit of y (i + 1) = if (fit i && (bt y (2 * i) || (bt y (2 * i + 1) && decide (¬ of i ≤ 1)))) = true then mOvr fit of y i ||| (2 <<< (nI (2 * i) &&& 31)) else mOvr fit of y i := rfl
theorem mFnd_s (il io : Nat → Int32) (bg ae : Bool) (n t j : Nat) : mFnd il io bg ae n t (j + 1) = if ae = true then bt (mPlc il io bg n t (j + 1)) (2 * n) else mFnd il io bg ae n t j || bt (mPlc il io bg n t (j + 1)) (2 * n) := rfl
theorem jb_f {c : Prop} [Decidable c] {R : Int32 → Prop} (h : R (bI (decide c))) : ∃ J : Int32 → Prop, ((¬ c → J 0) ∧ (c → J 1)) ∧ ∀ z, J z → R z :=
  ⟨fun z => z = bI (decide c), ⟨fun q => by simp [bI, q], fun q => by simp [bI, q]⟩, fun z e => e ▸ h⟩
theorem jb_t {c : Prop} [Decidable c] {R : Int32 → Prop} (h : R (bI (decide c))) : ∃ J : Int32 → Prop, ((c → J 1) ∧ (¬ c → J 0)) ∧ ∀ z, J z → R z :=
  ⟨fun z => z = bI (decide c), ⟨fun q => by simp [bI, q], fun q => by simp [bI, q]⟩, fun z e => e ▸ h⟩
theorem dec_bI1 {b : Bool} : decide (bI b = 1) = b := by cases b <;> decide
def V_Mo_spread (mki : Nat → Int32) (msz : Nat → Int64) (mle : Nat → Int32) (mel : Nat → Int32) (mme : Nat → Int32) (mal : Nat → Int32) (mic : Nat → Int32) (mil : Nat → Int32) (mio : Nat → Int32) (mab : Nat → Int32) (mae : Nat → Int32) (msa : Nat → Int32) (mlc : Nat → Int32) (mli : Nat → Int32) (mna : Nat → Int32) (mva : Nat → Int32) (mma : Nat → Int32) (mch : Nat → Int32) (mre : Nat → Int32) (mlv : Nat → Int32) (mwr : Nat → Int64) (msh : Nat → Int32) (mth : Int32) (mnv : Int32) (mns : Int32) (mfa : Int32) (mmo : Int32) (x : Int32) (y : Int32) (post : Int32 → Prop) : Prop :=
  (∃ (I8 : Int32 → Int32 → Prop) (mI8 : Int32 → Int32 → Nat), I8 y 0 ∧ (∀ (x6 : Int32) (x7 : Int32), I8 x6 x7 → (vp_in x 8 ∧ (((mic x.toNatClampNeg) ≤ x7 → post x6) ∧ (¬ (mic x.toNatClampNeg) ≤ x7 → (vp_in ((6 * x) + x7) 48 ∧ (∃ J9 : Int32 → Prop, ((¬ ((x6 >>> ((2 * x7) &&& 31)) &&& 1) = 1 → J9 0) ∧ (((x6 >>> ((2 * x7) &&& 31)) &&& 1) = 1 → J9 1)) ∧ (∀ (x10 : Int32), J9 x10 → (∃ J11 : Int32 → Prop, ((¬ ((x6 >>> (((2 * x7) + 1) &&& 31)) &&& 1) = 1 → J11 0) ∧ (((x6 >>> (((2 * x7) + 1) &&& 31)) &&& 1) = 1 → J11 1)) ∧ (∀ (x12 : Int32), J11 x12 → ((¬ x12 = 0 → (I8 (x6 ||| (4 <<< ((2 * x7) &&& 31))) (x7 + 1) ∧ mI8 (x6 ||| (4 <<< ((2 * x7) &&& 31))) (x7 + 1) < mI8 x6 x7)) ∧ (x12 = 0 → ((x10 = 0 → (I8 x6 (x7 + 1) ∧ mI8 x6 (x7 + 1) < mI8 x6 x7)) ∧ (¬ x10 = 0 → (((mio ((6 * x) + x7 : Int32).toNatClampNeg) = 1 → (I8 (x6 ||| (4 <<< ((2 * x7) &&& 31))) (x7 + 1) ∧ mI8 (x6 ||| (4 <<< ((2 * x7) &&& 31))) (x7 + 1) < mI8 x6 x7)) ∧ (¬ (mio ((6 * x) + x7 : Int32).toNatClampNeg) = 1 → ((¬ (mio ((6 * x) + x7 : Int32).toNatClampNeg) = 2 → (I8 x6 (x7 + 1) ∧ mI8 x6 (x7 + 1) < mI8 x6 x7)) ∧ ((mio ((6 * x) + x7 : Int32).toNatClampNeg) = 2 → (I8 (x6 ||| (4 <<< ((2 * x7) &&& 31))) (x7 + 1) ∧ mI8 (x6 ||| (4 <<< ((2 * x7) &&& 31))) (x7 + 1) < mI8 x6 x7)))))))))))))))))))
set_option maxHeartbeats 4000000 in
set_option maxRecDepth 100000 in
theorem g_Mo_spread {p : Program} {l : Launch} {e : Env} {R : Room} {s : State} {m : MethodId} {args : Array Value} {below : List Frame} {meth : Method} {c : Code} {H : Heap} {locs : List Loc} {cells slots : Nat} {Q : State → Prop} {ls : Array Slot} (S : CallFix p m c b_Mo_spread 8 s args W0 R_Mo) (hRf : 0 ≤ R.frames) (hRl : 0 ≤ R.locals) (hRc : cells ≤ R.cells ∧ slots ≤ R.slots) (D : va_G) (b : Nat → Nat) (cI cJ cZ : ClassId) (mki : Nat → Int32) (msz : Nat → Int64) (mle : Nat → Int32) (mel : Nat → Int32) (mme : Nat → Int32) (mal : Nat → Int32) (mic : Nat → Int32) (mil : Nat → Int32) (mio : Nat → Int32) (mab : Nat → Int32) (mae : Nat → Int32) (msa : Nat → Int32) (mlc : Nat → Int32) (mli : Nat → Int32) (mna : Nat → Int32) (mva : Nat → Int32) (mma : Nat → Int32) (mch : Nat → Int32) (mre : Nat → Int32) (mlv : Nat → Int32) (mwr : Nat → Int64) (msh : Nat → Int32) (mth : Int32) (mnv : Int32) (mns : Int32) (mfa : Int32) (mmo : Int32) (x : Int32) (y : Int32) (hK : va_K D vwCl (tyA cI cJ cZ) s) (hP : va_P D vwCl (wM b cI cJ cZ mki msz mle mel mme mal mic mil mio mab mae msa mlc mli mna mva mma mch mre mlv mwr msh mth mnv mns mfa mmo) H) (hl : lv_has ls 8 [(0, .ref (b 0)), (1, .int x), (2, .int y)]) {post : Int32 → Prop} (vc : V_Mo_spread mki msz mle mel mme mal mic mil mio mab mae msa mlc mli mna mva mma mch mre mlv mwr msh mth mnv mns mfa mmo x y post)
    (hret : ∀ (v : Int32) (ls : Array Slot) (pc : Nat), decode b_Mo_spread pc = .ok (.ireturn, 1) → post v → W p l e R s m args below meth c H locs cells slots Q (F0 m pc ls [.int v])) : W p l e R s m args below meth c H locs cells slots Q (F0 m 0 ls []) := by
  have hx := S.1
  have hb := S.2.1
  have hown := S.2.2.2.1
  have hts := S.2.2.2.2
  unfold V_Mo_spread at vc
  refine lv_iload_n hx hb d_Mo_spread_0 rfl (lv_at hl 2 rfl) ?_
  refine lv_istore_n hx hb d_Mo_spread_1 rfl hl (by decide) (lv' := [(3, .int y), (0, .ref (b 0)), (1, .int x), (2, .int y)]) rfl (fun ls hl => ?_)
  refine lv_iconst (v := 0) hx hb d_Mo_spread_2 (by decide) ?_
  refine lv_istore hx hb d_Mo_spread_3 hl (by decide) (lv' := [(4, .int 0), (3, .int y), (0, .ref (b 0)), (1, .int x), (2, .int y)]) rfl (fun ls hl => ?_)
  obtain ⟨I8, mI8, vc0, vcs⟩ := vc
  have lI8 : ∀ n : Nat, ∀ (x6 : Int32) (x7 : Int32) (ls : Array Slot), I8 x6 x7 → mI8 x6 x7 < n → lv_has ls 8 [(0, .ref (b 0)), (1, .int x), (2, .int y), (3, .int x6), (4, .int x7)] → W p l e R s m args below meth c H locs cells slots Q (F0 m 5 ls []) := by
    intro n
    induction n with
    | zero => intro x6 x7 ls _ h; exact absurd h (Nat.not_lt_zero _)
    | succ n ihI8 =>
      intro x6 x7 ls vc hmI8 hl
      have vc := vcs x6 x7 vc
      refine lv_iload hx hb d_Mo_spread_5 (lv_at hl 4 rfl) ?_
      refine lv_aload_n hx hb d_Mo_spread_7 rfl (lv_at hl 0 rfl) ?_
      refine va_get (D := D) (ci := 6) (v := .ref (b 7)) (C := R_Mo) (T := F_Mo) (N := 27) hx hb hts in_Mo hown hK hP 0 rfl rfl 8 (by decide) (hts _ fl_Mo_29) (fun _ h => h) rfl d_Mo_spread_8 ?_
      refine lv_iload_n hx hb d_Mo_spread_11 rfl (lv_at hl 1 rfl) ?_
      obtain ⟨vcb, vc⟩ := vc
      refine va_iald hx hb hK hP 7 0 rfl rfl vcb d_Mo_spread_12 ?_
      refine lv_icmp_ge (tgt := 111) hx hb d_Mo_spread_13 (by decide) (fun h => ?_) (fun h => ?_)
      · have vc := vc.1 h
        refine lv_iload_n hx hb d_Mo_spread_111 rfl (lv_at hl 3 rfl) ?_
        exact hret _ ls _ d_Mo_spread_112 vc
      · have vc := vc.2 h
        refine lv_aload_n hx hb d_Mo_spread_16 rfl (lv_at hl 0 rfl) ?_
        refine va_get (D := D) (ci := 6) (v := .ref (b 9)) (C := R_Mo) (T := F_Mo) (N := 27) hx hb hts in_Mo hown hK hP 0 rfl rfl 10 (by decide) (hts _ fl_Mo_35) (fun _ h => h) rfl d_Mo_spread_17 ?_
        refine lv_bipush (v := 6) hx hb d_Mo_spread_20 (by decide) ?_
        refine lv_iload_n hx hb d_Mo_spread_22 rfl (lv_at hl 1 rfl) ?_
        refine lv_imul hx hb d_Mo_spread_23 ?_
        refine lv_iload hx hb d_Mo_spread_24 (lv_at hl 4 rfl) ?_
        refine lv_iadd hx hb d_Mo_spread_26 ?_
        obtain ⟨vcb, vc⟩ := vc
        refine va_iald hx hb hK hP 9 0 rfl rfl vcb d_Mo_spread_27 ?_
        refine lv_istore hx hb d_Mo_spread_28 hl (by decide) (lv' := [(5, .int (mio ((6 * x) + x7 : Int32).toNatClampNeg)), (0, .ref (b 0)), (1, .int x), (2, .int y), (3, .int x6), (4, .int x7)]) rfl (fun ls hl => ?_)
        refine lv_iload_n hx hb d_Mo_spread_30 rfl (lv_at hl 4 rfl) ?_
        refine lv_iconst (v := 2) hx hb d_Mo_spread_31 (by decide) ?_
        refine lv_iload hx hb d_Mo_spread_32 (lv_at hl 5 rfl) ?_
        refine lv_imul hx hb d_Mo_spread_34 ?_
        refine lv_ishr hx hb d_Mo_spread_35 ?_
        refine lv_iconst (v := 1) hx hb d_Mo_spread_36 (by decide) ?_
        refine lv_iand hx hb d_Mo_spread_37 ?_
        refine lv_iconst (v := 1) hx hb d_Mo_spread_38 (by decide) ?_
        obtain ⟨J9, vc, vc2⟩ := vc
        have jJ9 : ∀ (x10 : Int32) (ls : Array Slot), J9 x10 → lv_has ls 8 [(0, .ref (b 0)), (1, .int x), (2, .int y), (3, .int x6), (4, .int x7), (5, .int (mio ((6 * x) + x7 : Int32).toNatClampNeg))] → W p l e R s m args below meth c H locs cells slots Q (F0 m 47 ls [.int x10]) := by
          intro x10 ls vc hl
          have vc := vc2 x10 vc
          refine lv_istore hx hb d_Mo_spread_47 hl (by decide) (lv' := [(6, .int x10), (0, .ref (b 0)), (1, .int x), (2, .int y), (3, .int x6), (4, .int x7), (5, .int (mio ((6 * x) + x7 : Int32).toNatClampNeg))]) rfl (fun ls hl => ?_)
          refine lv_iload_n hx hb d_Mo_spread_49 rfl (lv_at hl 4 rfl) ?_
          refine lv_iconst (v := 2) hx hb d_Mo_spread_50 (by decide) ?_
          refine lv_iload hx hb d_Mo_spread_51 (lv_at hl 5 rfl) ?_
          refine lv_imul hx hb d_Mo_spread_53 ?_
          refine lv_iconst (v := 1) hx hb d_Mo_spread_54 (by decide) ?_
          refine lv_iadd hx hb d_Mo_spread_55 ?_
          refine lv_ishr hx hb d_Mo_spread_56 ?_
          refine lv_iconst (v := 1) hx hb d_Mo_spread_57 (by decide) ?_
          refine lv_iand hx hb d_Mo_spread_58 ?_
          refine lv_iconst (v := 1) hx hb d_Mo_spread_59 (by decide) ?_
          obtain ⟨J11, vc, vc2⟩ := vc
          have jJ11 : ∀ (x12 : Int32) (ls : Array Slot), J11 x12 → lv_has ls 8 [(0, .ref (b 0)), (1, .int x), (2, .int y), (3, .int x6), (4, .int x7), (5, .int (mio ((6 * x) + x7 : Int32).toNatClampNeg)), (6, .int x10)] → W p l e R s m args below meth c H locs cells slots Q (F0 m 68 ls [.int x12]) := by
            intro x12 ls vc hl
            have vc := vc2 x12 vc
            refine lv_istore hx hb d_Mo_spread_68 hl (by decide) (lv' := [(7, .int x12), (0, .ref (b 0)), (1, .int x), (2, .int y), (3, .int x6), (4, .int x7), (5, .int (mio ((6 * x) + x7 : Int32).toNatClampNeg)), (6, .int x10)]) rfl (fun ls hl => ?_)
            refine lv_iload hx hb d_Mo_spread_70 (lv_at hl 0 rfl) ?_
            refine lv_if_ne (tgt := 92) hx hb d_Mo_spread_72 (by decide) (fun h => ?_) (fun h => ?_)
            · have vc := vc.1 h
              refine lv_iload_n hx hb d_Mo_spread_92 rfl (lv_at hl 4 rfl) ?_
              refine lv_iconst (v := 4) hx hb d_Mo_spread_93 (by decide) ?_
              refine lv_iconst (v := 2) hx hb d_Mo_spread_94 (by decide) ?_
              refine lv_iload hx hb d_Mo_spread_95 (lv_at hl 5 rfl) ?_
              refine lv_imul hx hb d_Mo_spread_97 ?_
              refine lv_ishl hx hb d_Mo_spread_98 ?_
              refine lv_ior hx hb d_Mo_spread_99 ?_
              refine lv_goto (tgt := 104) hx hb d_Mo_spread_100 (by decide) ?_
              refine lv_istore_n hx hb d_Mo_spread_104 rfl hl (by decide) (lv' := [(3, .int (x6 ||| (4 <<< ((2 * x7) &&& 31)))), (7, .int x12), (0, .ref (b 0)), (1, .int x), (2, .int y), (4, .int x7), (5, .int (mio ((6 * x) + x7 : Int32).toNatClampNeg)), (6, .int x10)]) rfl (fun ls hl => ?_)
              refine lv_iinc (k := 5) (v := x7 + 1) hx hb d_Mo_spread_105 hl rfl rfl (by decide) (lv' := [(4, .int (x7 + 1)), (3, .int (x6 ||| (4 <<< ((2 * x7) &&& 31)))), (7, .int x12), (0, .ref (b 0)), (1, .int x), (2, .int y), (5, .int (mio ((6 * x) + x7 : Int32).toNatClampNeg)), (6, .int x10)]) rfl (fun ls hl => ?_)
              refine lv_goto (tgt := 5) hx hb d_Mo_spread_108 (by decide) ?_
              exact ihI8 (x6 ||| (4 <<< ((2 * x7) &&& 31))) (x7 + 1) ls vc.1 (Nat.lt_of_lt_of_le vc.2 (Nat.le_of_lt_succ hmI8)) (lv_sub hl [3, 4, 5, 1, 0] rfl)
            · have vc := vc.2 h
              refine lv_iload hx hb d_Mo_spread_75 (lv_at hl 7 rfl) ?_
              refine lv_if_eq (tgt := 103) hx hb d_Mo_spread_77 (by decide) (fun h => ?_) (fun h => ?_)
              · have vc := vc.1 h
                refine lv_iload_n hx hb d_Mo_spread_103 rfl (lv_at hl 4 rfl) ?_
                refine lv_istore_n hx hb d_Mo_spread_104 rfl hl (by decide) (lv' := [(3, .int x6), (7, .int x12), (0, .ref (b 0)), (1, .int x), (2, .int y), (4, .int x7), (5, .int (mio ((6 * x) + x7 : Int32).toNatClampNeg)), (6, .int x10)]) rfl (fun ls hl => ?_)
                refine lv_iinc (k := 5) (v := x7 + 1) hx hb d_Mo_spread_105 hl rfl rfl (by decide) (lv' := [(4, .int (x7 + 1)), (3, .int x6), (7, .int x12), (0, .ref (b 0)), (1, .int x), (2, .int y), (5, .int (mio ((6 * x) + x7 : Int32).toNatClampNeg)), (6, .int x10)]) rfl (fun ls hl => ?_)
                refine lv_goto (tgt := 5) hx hb d_Mo_spread_108 (by decide) ?_
                exact ihI8 x6 (x7 + 1) ls vc.1 (Nat.lt_of_lt_of_le vc.2 (Nat.le_of_lt_succ hmI8)) (lv_sub hl [3, 4, 5, 1, 0] rfl)
              · have vc := vc.2 h
                refine lv_iload hx hb d_Mo_spread_80 (lv_at hl 6 rfl) ?_
                refine lv_iconst (v := 1) hx hb d_Mo_spread_82 (by decide) ?_
                refine lv_icmp_eq (tgt := 92) hx hb d_Mo_spread_83 (by decide) (fun h => ?_) (fun h => ?_)
                · have vc := vc.1 h
                  refine lv_iload_n hx hb d_Mo_spread_92 rfl (lv_at hl 4 rfl) ?_
                  refine lv_iconst (v := 4) hx hb d_Mo_spread_93 (by decide) ?_
                  refine lv_iconst (v := 2) hx hb d_Mo_spread_94 (by decide) ?_
                  refine lv_iload hx hb d_Mo_spread_95 (lv_at hl 5 rfl) ?_
                  refine lv_imul hx hb d_Mo_spread_97 ?_
                  refine lv_ishl hx hb d_Mo_spread_98 ?_
                  refine lv_ior hx hb d_Mo_spread_99 ?_
                  refine lv_goto (tgt := 104) hx hb d_Mo_spread_100 (by decide) ?_
                  refine lv_istore_n hx hb d_Mo_spread_104 rfl hl (by decide) (lv' := [(3, .int (x6 ||| (4 <<< ((2 * x7) &&& 31)))), (7, .int x12), (0, .ref (b 0)), (1, .int x), (2, .int y), (4, .int x7), (5, .int (mio ((6 * x) + x7 : Int32).toNatClampNeg)), (6, .int x10)]) rfl (fun ls hl => ?_)
                  refine lv_iinc (k := 5) (v := x7 + 1) hx hb d_Mo_spread_105 hl rfl rfl (by decide) (lv' := [(4, .int (x7 + 1)), (3, .int (x6 ||| (4 <<< ((2 * x7) &&& 31)))), (7, .int x12), (0, .ref (b 0)), (1, .int x), (2, .int y), (5, .int (mio ((6 * x) + x7 : Int32).toNatClampNeg)), (6, .int x10)]) rfl (fun ls hl => ?_)
                  refine lv_goto (tgt := 5) hx hb d_Mo_spread_108 (by decide) ?_
                  exact ihI8 (x6 ||| (4 <<< ((2 * x7) &&& 31))) (x7 + 1) ls vc.1 (Nat.lt_of_lt_of_le vc.2 (Nat.le_of_lt_succ hmI8)) (lv_sub hl [3, 4, 5, 1, 0] rfl)
                · have vc := vc.2 h
                  refine lv_iload hx hb d_Mo_spread_86 (lv_at hl 6 rfl) ?_
                  refine lv_iconst (v := 2) hx hb d_Mo_spread_88 (by decide) ?_
                  refine lv_icmp_ne (tgt := 103) hx hb d_Mo_spread_89 (by decide) (fun h => ?_) (fun h => ?_)
                  · have vc := vc.1 h
                    refine lv_iload_n hx hb d_Mo_spread_103 rfl (lv_at hl 4 rfl) ?_
                    refine lv_istore_n hx hb d_Mo_spread_104 rfl hl (by decide) (lv' := [(3, .int x6), (7, .int x12), (0, .ref (b 0)), (1, .int x), (2, .int y), (4, .int x7), (5, .int (mio ((6 * x) + x7 : Int32).toNatClampNeg)), (6, .int x10)]) rfl (fun ls hl => ?_)
                    refine lv_iinc (k := 5) (v := x7 + 1) hx hb d_Mo_spread_105 hl rfl rfl (by decide) (lv' := [(4, .int (x7 + 1)), (3, .int x6), (7, .int x12), (0, .ref (b 0)), (1, .int x), (2, .int y), (5, .int (mio ((6 * x) + x7 : Int32).toNatClampNeg)), (6, .int x10)]) rfl (fun ls hl => ?_)
                    refine lv_goto (tgt := 5) hx hb d_Mo_spread_108 (by decide) ?_
                    exact ihI8 x6 (x7 + 1) ls vc.1 (Nat.lt_of_lt_of_le vc.2 (Nat.le_of_lt_succ hmI8)) (lv_sub hl [3, 4, 5, 1, 0] rfl)
                  · have vc := vc.2 h
                    refine lv_iload_n hx hb d_Mo_spread_92 rfl (lv_at hl 4 rfl) ?_
                    refine lv_iconst (v := 4) hx hb d_Mo_spread_93 (by decide) ?_
                    refine lv_iconst (v := 2) hx hb d_Mo_spread_94 (by decide) ?_
                    refine lv_iload hx hb d_Mo_spread_95 (lv_at hl 5 rfl) ?_
                    refine lv_imul hx hb d_Mo_spread_97 ?_
                    refine lv_ishl hx hb d_Mo_spread_98 ?_
                    refine lv_ior hx hb d_Mo_spread_99 ?_
                    refine lv_goto (tgt := 104) hx hb d_Mo_spread_100 (by decide) ?_
                    refine lv_istore_n hx hb d_Mo_spread_104 rfl hl (by decide) (lv' := [(3, .int (x6 ||| (4 <<< ((2 * x7) &&& 31)))), (7, .int x12), (0, .ref (b 0)), (1, .int x), (2, .int y), (4, .int x7), (5, .int (mio ((6 * x) + x7 : Int32).toNatClampNeg)), (6, .int x10)]) rfl (fun ls hl => ?_)
                    refine lv_iinc (k := 5) (v := x7 + 1) hx hb d_Mo_spread_105 hl rfl rfl (by decide) (lv' := [(4, .int (x7 + 1)), (3, .int (x6 ||| (4 <<< ((2 * x7) &&& 31)))), (7, .int x12), (0, .ref (b 0)), (1, .int x), (2, .int y), (5, .int (mio ((6 * x) + x7 : Int32).toNatClampNeg)), (6, .int x10)]) rfl (fun ls hl => ?_)
                    refine lv_goto (tgt := 5) hx hb d_Mo_spread_108 (by decide) ?_
                    exact ihI8 (x6 ||| (4 <<< ((2 * x7) &&& 31))) (x7 + 1) ls vc.1 (Nat.lt_of_lt_of_le vc.2 (Nat.le_of_lt_succ hmI8)) (lv_sub hl [3, 4, 5, 1, 0] rfl)
          clear vc2
          refine lv_icmp_ne (tgt := 67) hx hb d_Mo_spread_60 (by decide) (fun h => ?_) (fun h => ?_)
          · have vc := vc.1 h
            refine lv_iconst (v := 0) hx hb d_Mo_spread_67 (by decide) ?_
            exact jJ11 0 ls vc (lv_sub hl [1, 2, 3, 4, 5, 6, 0] rfl)
          · have vc := vc.2 h
            refine lv_iconst (v := 1) hx hb d_Mo_spread_63 (by decide) ?_
            refine lv_goto (tgt := 68) hx hb d_Mo_spread_64 (by decide) ?_
            exact jJ11 1 ls vc (lv_sub hl [1, 2, 3, 4, 5, 6, 0] rfl)
        clear vc2
        refine lv_icmp_ne (tgt := 46) hx hb d_Mo_spread_39 (by decide) (fun h => ?_) (fun h => ?_)
        · have vc := vc.1 h
          refine lv_iconst (v := 0) hx hb d_Mo_spread_46 (by decide) ?_
          exact jJ9 0 ls vc (lv_sub hl [1, 2, 3, 4, 5, 0] rfl)
        · have vc := vc.2 h
          refine lv_iconst (v := 1) hx hb d_Mo_spread_42 (by decide) ?_
          refine lv_goto (tgt := 47) hx hb d_Mo_spread_43 (by decide) ?_
          exact jJ9 1 ls vc (lv_sub hl [1, 2, 3, 4, 5, 0] rfl)
  exact lI8 _ y 0 ls vc0 (Nat.lt_succ_self _) (lv_sub hl [2, 3, 4, 1, 0] rfl)
theorem h_Mo_spread (l : Launch) (D : va_G) (b : Nat → Nat) (cI cJ cZ : ClassId) (mki : Nat → Int32) (msz : Nat → Int64) (mle : Nat → Int32) (mel : Nat → Int32) (mme : Nat → Int32) (mal : Nat → Int32) (mic : Nat → Int32) (mil : Nat → Int32) (mio : Nat → Int32) (mab : Nat → Int32) (mae : Nat → Int32) (msa : Nat → Int32) (mlc : Nat → Int32) (mli : Nat → Int32) (mna : Nat → Int32) (mva : Nat → Int32) (mma : Nat → Int32) (mch : Nat → Int32) (mre : Nat → Int32) (mlv : Nat → Int32) (mwr : Nat → Int64) (msh : Nat → Int32) (mth : Int32) (mnv : Int32) (mns : Int32) (mfa : Int32) (mmo : Int32) (x : Int32) (y : Int32) (r : Int32) (vc : V_Mo_spread mki msz mle mel mme mal mic mil mio mab mae msa mlc mli mna mva mma mch mre mlv mwr msh mth mnv mns mfa mmo x y (fun v => v = r)) : Pm l y_Mo_spread b_Mo_spread 8 (some .int) 0 0 [.ref (b 0), .int x, .int y] (wB D (tyA cI cJ cZ) (wM b cI cJ cZ mki msz mle mel mme mal mic mil mio mab mae msa mlc mli mna mva mma mch mre mlv mwr msh mth mnv mns mfa mmo)) (.int r) :=
  pm_i (by decide) rfl (Nat.le_of_ble_eq_true rfl) (fun p e s m below meth c ls Q S hB hl hret => g_Mo_spread S (Nat.le_refl _) (Nat.le_refl _) ⟨Nat.le_refl _, Nat.le_refl _⟩ D b cI cJ cZ mki msz mle mel mme mal mic mil mio mab mae msa mlc mli mna mva mma mch mre mlv mwr msh mth mnv mns mfa mmo x y hB.2 hB.1 hl vc hret)
theorem c_Mo_spread (l : Launch) (D : va_G) (b : Nat → Nat) (cI cJ cZ : ClassId) (mki : Nat → Int32) (msz : Nat → Int64) (mle : Nat → Int32) (mel : Nat → Int32) (mme : Nat → Int32) (mal : Nat → Int32) (mic : Nat → Int32) (mil : Nat → Int32) (mio : Nat → Int32) (mab : Nat → Int32) (mae : Nat → Int32) (msa : Nat → Int32) (mlc : Nat → Int32) (mli : Nat → Int32) (mna : Nat → Int32) (mva : Nat → Int32) (mma : Nat → Int32) (mch : Nat → Int32) (mre : Nat → Int32) (mlv : Nat → Int32) (mwr : Nat → Int64) (msh : Nat → Int32) (mth : Int32) (mnv : Int32) (mns : Int32) (mfa : Int32) (mmo : Int32) (x : Int32) (y : Int32) (hpre : (vp_in x 8 ∧ (∃ n : Nat, n ≤ 6 ∧ mic x.toNatClampNeg = nI n))) : Pm l y_Mo_spread b_Mo_spread 8 (some .int) 0 0 [.ref (b 0), .int x, .int y] (wB D (tyA cI cJ cZ) (wM b cI cJ cZ mki msz mle mel mme mal mic mil mio mab mae msa mlc mli mna mva mma mch mre mlv mwr msh mth mnv mns mfa mmo)) (.int (mSpr (fun i => mio (6 * x.toNatClampNeg + i)) y (mic x.toNatClampNeg).toNatClampNeg)) := h_Mo_spread l D b cI cJ cZ mki msz mle mel mme mal mic mil mio mab mae msa mlc mli mna mva mma mch mre mlv mwr msh mth mnv mns mfa mmo x y _ (by
  unfold V_Mo_spread
  obtain ⟨hx, n, hn, en⟩ := hpre
  obtain ⟨q, hq, rfl, hcq⟩ := vp_nat hx (by decide)
  rw [hcq] at en
  simp only [hcq, en, nI_clamp (show n < 2 ^ 31 by omega)]
  refine ⟨fun z i => ∃ k, k ≤ n ∧ i = nI k ∧ z = mSpr (fun i => mio (6 * q + i)) y k, fun _ i => n - i.toInt.toNat, ⟨0, Nat.zero_le _, rfl, rfl⟩, ?_⟩
  rintro z i ⟨k, hk, rfl, rfl⟩
  refine ⟨hx, fun h => ?_, fun h => ?_⟩
  · obtain rfl := fill_end (N := n) h (by omega) hk; rfl
  · have hk2 := fill_step (N := n) h (by omega) hk
    have i1 : 6 * nI q + nI k = nI (6 * q + k) := by rw [nI_mulL, nI_add]
    have i2 : 2 * nI k = nI (2 * k) := by rw [nI_mulL]
    have i3 : nI (2 * k) + 1 = nI (2 * k + 1) := nI_1 _
    rw [i1, i2, i3, nI_clamp (by omega), b_and1 _ (by omega), b_and1 _ (by omega)]
    refine ⟨vp_in_nI (by omega) (by decide), ?_⟩
    have m : ∀ z2, z2 = mSpr (fun i => mio (6 * q + i)) y (k + 1) → (∃ k2, k2 ≤ n ∧ nI k + 1 = nI k2 ∧ z2 = mSpr (fun i => mio (6 * q + i)) y k2) ∧ n - (nI k + 1).toInt.toNat < n - (nI k).toInt.toNat := fun z2 e => ⟨⟨k + 1, hk2, nI_1 k, e⟩, fill_mu hk2 (by omega)⟩
    refine jb_f ?_
    refine jb_f ?_
    rw [dec_bI1, dec_bI1]
    refine ⟨fun h2 => m _ ?_, fun h2 => ⟨fun h3 => m _ ?_, fun h3 => ⟨fun h4 => m _ ?_, fun h4 => ⟨fun h5 => m _ ?_, fun h5 => m _ ?_⟩⟩⟩⟩
    · simp [mSpr, bI_ne.mp h2]
    · simp [mSpr, bI0.mp h2, bI0.mp h3]
    · simp [mSpr, bI0.mp h2, bI_ne.mp h3, h4]
    · simp [mSpr, bI0.mp h2, bI_ne.mp h3, h4, h5]
    · simp [mSpr, bI0.mp h2, bI_ne.mp h3, h4, h5])
theorem hd_Mo_spread : y_Mo_spread.cls ≠ "java/lang/invoke/MethodHandle" ∧ y_Mo_spread.cls ≠ "java/lang/invoke/VarHandle" ∧ (parseMethodDescriptor y_Mo_spread.desc).map (fun d => d.parameters.length) = some 2 := ⟨by decide, by decide, by decide +kernel⟩
def V_Mo_over (mki : Nat → Int32) (msz : Nat → Int64) (mle : Nat → Int32) (mel : Nat → Int32) (mme : Nat → Int32) (mal : Nat → Int32) (mic : Nat → Int32) (mil : Nat → Int32) (mio : Nat → Int32) (mab : Nat → Int32) (mae : Nat → Int32) (msa : Nat → Int32) (mlc : Nat → Int32) (mli : Nat → Int32) (mna : Nat → Int32) (mva : Nat → Int32) (mma : Nat → Int32) (mch : Nat → Int32) (mre : Nat → Int32) (mlv : Nat → Int32) (mwr : Nat → Int64) (msh : Nat → Int32) (mth : Int32) (mnv : Int32) (mns : Int32) (mfa : Int32) (mmo : Int32) (x : Int32) (y : Int32) (z : Int32) (post : Int32 → Prop) : Prop :=
  (∃ (I11 : Int32 → Int32 → Prop) (mI11 : Int32 → Int32 → Nat), I11 0 0 ∧ (∀ (x9 : Int32) (x10 : Int32), I11 x9 x10 → (vp_in x 8 ∧ (((mic x.toNatClampNeg) ≤ x10 → post x9) ∧ (¬ (mic x.toNatClampNeg) ≤ x10 → (vp_in ((6 * x) + x10) 48 ∧ (vp_in ((6 * x) + x10) 48 ∧ (∃ J12 : Int32 → Prop, ((¬ (((mil ((6 * x) + x10 : Int32).toNatClampNeg) >>> (z &&& 31)) &&& 1) = 1 → J12 0) ∧ ((((mil ((6 * x) + x10 : Int32).toNatClampNeg) >>> (z &&& 31)) &&& 1) = 1 → J12 1)) ∧ (∀ (x13 : Int32), J12 x13 → (∃ J14 : Int32 → Prop, ((¬ ((y >>> ((2 * x10) &&& 31)) &&& 1) = 1 → J14 0) ∧ (((y >>> ((2 * x10) &&& 31)) &&& 1) = 1 → J14 1)) ∧ (∀ (x15 : Int32), J14 x15 → (∃ J16 : Int32 → Prop, ((¬ ((y >>> (((2 * x10) + 1) &&& 31)) &&& 1) = 1 → J16 0) ∧ (((y >>> (((2 * x10) + 1) &&& 31)) &&& 1) = 1 → (((mio ((6 * x) + x10 : Int32).toNatClampNeg) ≤ 1 → J16 0) ∧ (¬ (mio ((6 * x) + x10 : Int32).toNatClampNeg) ≤ 1 → J16 1)))) ∧ (∀ (x18 : Int32), J16 x18 → ((x13 = 0 → (I11 x9 (x10 + 1) ∧ mI11 x9 (x10 + 1) < mI11 x9 x10)) ∧ (¬ x13 = 0 → ((¬ x15 = 0 → (I11 (x9 ||| (2 <<< ((2 * x10) &&& 31))) (x10 + 1) ∧ mI11 (x9 ||| (2 <<< ((2 * x10) &&& 31))) (x10 + 1) < mI11 x9 x10)) ∧ (x15 = 0 → ((x18 = 0 → (I11 x9 (x10 + 1) ∧ mI11 x9 (x10 + 1) < mI11 x9 x10)) ∧ (¬ x18 = 0 → (I11 (x9 ||| (2 <<< ((2 * x10) &&& 31))) (x10 + 1) ∧ mI11 (x9 ||| (2 <<< ((2 * x10) &&& 31))) (x10 + 1) < mI11 x9 x10))))))))))))))))))))
set_option maxHeartbeats 4000000 in
set_option maxRecDepth 100000 in
theorem g_Mo_over {p : Program} {l : Launch} {e : Env} {R : Room} {s : State} {m : MethodId} {args : Array Value} {below : List Frame} {meth : Method} {c : Code} {H : Heap} {locs : List Loc} {cells slots : Nat} {Q : State → Prop} {ls : Array Slot} (S : CallFix p m c b_Mo_over 10 s args W0 R_Mo) (hRf : 0 ≤ R.frames) (hRl : 0 ≤ R.locals) (hRc : cells ≤ R.cells ∧ slots ≤ R.slots) (D : va_G) (b : Nat → Nat) (cI cJ cZ : ClassId) (mki : Nat → Int32) (msz : Nat → Int64) (mle : Nat → Int32) (mel : Nat → Int32) (mme : Nat → Int32) (mal : Nat → Int32) (mic : Nat → Int32) (mil : Nat → Int32) (mio : Nat → Int32) (mab : Nat → Int32) (mae : Nat → Int32) (msa : Nat → Int32) (mlc : Nat → Int32) (mli : Nat → Int32) (mna : Nat → Int32) (mva : Nat → Int32) (mma : Nat → Int32) (mch : Nat → Int32) (mre : Nat → Int32) (mlv : Nat → Int32) (mwr : Nat → Int64) (msh : Nat → Int32) (mth : Int32) (mnv : Int32) (mns : Int32) (mfa : Int32) (mmo : Int32) (x : Int32) (y : Int32) (z : Int32) (hK : va_K D vwCl (tyA cI cJ cZ) s) (hP : va_P D vwCl (wM b cI cJ cZ mki msz mle mel mme mal mic mil mio mab mae msa mlc mli mna mva mma mch mre mlv mwr msh mth mnv mns mfa mmo) H) (hl : lv_has ls 10 [(0, .ref (b 0)), (1, .int x), (2, .int y), (3, .int z)]) {post : Int32 → Prop} (vc : V_Mo_over mki msz mle mel mme mal mic mil mio mab mae msa mlc mli mna mva mma mch mre mlv mwr msh mth mnv mns mfa mmo x y z post)
    (hret : ∀ (v : Int32) (ls : Array Slot) (pc : Nat), decode b_Mo_over pc = .ok (.ireturn, 1) → post v → W p l e R s m args below meth c H locs cells slots Q (F0 m pc ls [.int v])) : W p l e R s m args below meth c H locs cells slots Q (F0 m 0 ls []) := by
  have hx := S.1
  have hb := S.2.1
  have hown := S.2.2.2.1
  have hts := S.2.2.2.2
  unfold V_Mo_over at vc
  refine lv_iconst (v := 0) hx hb d_Mo_over_0 (by decide) ?_
  refine lv_istore hx hb d_Mo_over_1 hl (by decide) (lv' := [(4, .int 0), (0, .ref (b 0)), (1, .int x), (2, .int y), (3, .int z)]) rfl (fun ls hl => ?_)
  refine lv_iconst (v := 0) hx hb d_Mo_over_3 (by decide) ?_
  refine lv_istore hx hb d_Mo_over_4 hl (by decide) (lv' := [(5, .int 0), (4, .int 0), (0, .ref (b 0)), (1, .int x), (2, .int y), (3, .int z)]) rfl (fun ls hl => ?_)
  obtain ⟨I11, mI11, vc0, vcs⟩ := vc
  have lI11 : ∀ n : Nat, ∀ (x9 : Int32) (x10 : Int32) (ls : Array Slot), I11 x9 x10 → mI11 x9 x10 < n → lv_has ls 10 [(0, .ref (b 0)), (1, .int x), (2, .int y), (3, .int z), (4, .int x9), (5, .int x10)] → W p l e R s m args below meth c H locs cells slots Q (F0 m 6 ls []) := by
    intro n
    induction n with
    | zero => intro x9 x10 ls _ h; exact absurd h (Nat.not_lt_zero _)
    | succ n ihI11 =>
      intro x9 x10 ls vc hmI11 hl
      have vc := vcs x9 x10 vc
      refine lv_iload hx hb d_Mo_over_6 (lv_at hl 5 rfl) ?_
      refine lv_aload_n hx hb d_Mo_over_8 rfl (lv_at hl 0 rfl) ?_
      refine va_get (D := D) (ci := 6) (v := .ref (b 7)) (C := R_Mo) (T := F_Mo) (N := 27) hx hb hts in_Mo hown hK hP 0 rfl rfl 8 (by decide) (hts _ fl_Mo_29) (fun _ h => h) rfl d_Mo_over_9 ?_
      refine lv_iload_n hx hb d_Mo_over_12 rfl (lv_at hl 1 rfl) ?_
      obtain ⟨vcb, vc⟩ := vc
      refine va_iald hx hb hK hP 7 0 rfl rfl vcb d_Mo_over_13 ?_
      refine lv_icmp_ge (tgt := 141) hx hb d_Mo_over_14 (by decide) (fun h => ?_) (fun h => ?_)
      · have vc := vc.1 h
        refine lv_iload hx hb d_Mo_over_141 (lv_at hl 4 rfl) ?_
        exact hret _ ls _ d_Mo_over_143 vc
      · have vc := vc.2 h
        refine lv_aload_n hx hb d_Mo_over_17 rfl (lv_at hl 0 rfl) ?_
        refine va_get (D := D) (ci := 6) (v := .ref (b 9)) (C := R_Mo) (T := F_Mo) (N := 27) hx hb hts in_Mo hown hK hP 0 rfl rfl 10 (by decide) (hts _ fl_Mo_35) (fun _ h => h) rfl d_Mo_over_18 ?_
        refine lv_bipush (v := 6) hx hb d_Mo_over_21 (by decide) ?_
        refine lv_iload_n hx hb d_Mo_over_23 rfl (lv_at hl 1 rfl) ?_
        refine lv_imul hx hb d_Mo_over_24 ?_
        refine lv_iload hx hb d_Mo_over_25 (lv_at hl 5 rfl) ?_
        refine lv_iadd hx hb d_Mo_over_27 ?_
        obtain ⟨vcb, vc⟩ := vc
        refine va_iald hx hb hK hP 9 0 rfl rfl vcb d_Mo_over_28 ?_
        refine lv_istore hx hb d_Mo_over_29 hl (by decide) (lv' := [(6, .int (mio ((6 * x) + x10 : Int32).toNatClampNeg)), (0, .ref (b 0)), (1, .int x), (2, .int y), (3, .int z), (4, .int x9), (5, .int x10)]) rfl (fun ls hl => ?_)
        refine lv_aload_n hx hb d_Mo_over_31 rfl (lv_at hl 1 rfl) ?_
        refine va_get (D := D) (ci := 6) (v := .ref (b 8)) (C := R_Mo) (T := F_Mo) (N := 27) hx hb hts in_Mo hown hK hP 0 rfl rfl 9 (by decide) (hts _ fl_Mo_32) (fun _ h => h) rfl d_Mo_over_32 ?_
        refine lv_bipush (v := 6) hx hb d_Mo_over_35 (by decide) ?_
        refine lv_iload_n hx hb d_Mo_over_37 rfl (lv_at hl 2 rfl) ?_
        refine lv_imul hx hb d_Mo_over_38 ?_
        refine lv_iload hx hb d_Mo_over_39 (lv_at hl 6 rfl) ?_
        refine lv_iadd hx hb d_Mo_over_41 ?_
        obtain ⟨vcb, vc⟩ := vc
        refine va_iald hx hb hK hP 8 0 rfl rfl vcb d_Mo_over_42 ?_
        refine lv_iload_n hx hb d_Mo_over_43 rfl (lv_at hl 4 rfl) ?_
        refine lv_ishr hx hb d_Mo_over_44 ?_
        refine lv_iconst (v := 1) hx hb d_Mo_over_45 (by decide) ?_
        refine lv_iand hx hb d_Mo_over_46 ?_
        refine lv_iconst (v := 1) hx hb d_Mo_over_47 (by decide) ?_
        obtain ⟨J12, vc, vc2⟩ := vc
        have jJ12 : ∀ (x13 : Int32) (ls : Array Slot), J12 x13 → lv_has ls 10 [(0, .ref (b 0)), (1, .int x), (2, .int y), (3, .int z), (4, .int x9), (5, .int x10), (6, .int (mio ((6 * x) + x10 : Int32).toNatClampNeg))] → W p l e R s m args below meth c H locs cells slots Q (F0 m 56 ls [.int x13]) := by
          intro x13 ls vc hl
          have vc := vc2 x13 vc
          refine lv_istore hx hb d_Mo_over_56 hl (by decide) (lv' := [(7, .int x13), (0, .ref (b 0)), (1, .int x), (2, .int y), (3, .int z), (4, .int x9), (5, .int x10), (6, .int (mio ((6 * x) + x10 : Int32).toNatClampNeg))]) rfl (fun ls hl => ?_)
          refine lv_iload_n hx hb d_Mo_over_58 rfl (lv_at hl 3 rfl) ?_
          refine lv_iconst (v := 2) hx hb d_Mo_over_59 (by decide) ?_
          refine lv_iload hx hb d_Mo_over_60 (lv_at hl 6 rfl) ?_
          refine lv_imul hx hb d_Mo_over_62 ?_
          refine lv_ishr hx hb d_Mo_over_63 ?_
          refine lv_iconst (v := 1) hx hb d_Mo_over_64 (by decide) ?_
          refine lv_iand hx hb d_Mo_over_65 ?_
          refine lv_iconst (v := 1) hx hb d_Mo_over_66 (by decide) ?_
          obtain ⟨J14, vc, vc2⟩ := vc
          have jJ14 : ∀ (x15 : Int32) (ls : Array Slot), J14 x15 → lv_has ls 10 [(0, .ref (b 0)), (1, .int x), (2, .int y), (3, .int z), (4, .int x9), (5, .int x10), (6, .int (mio ((6 * x) + x10 : Int32).toNatClampNeg)), (7, .int x13)] → W p l e R s m args below meth c H locs cells slots Q (F0 m 75 ls [.int x15]) := by
            intro x15 ls vc hl
            have vc := vc2 x15 vc
            refine lv_istore hx hb d_Mo_over_75 hl (by decide) (lv' := [(8, .int x15), (0, .ref (b 0)), (1, .int x), (2, .int y), (3, .int z), (4, .int x9), (5, .int x10), (6, .int (mio ((6 * x) + x10 : Int32).toNatClampNeg)), (7, .int x13)]) rfl (fun ls hl => ?_)
            refine lv_iload_n hx hb d_Mo_over_77 rfl (lv_at hl 3 rfl) ?_
            refine lv_iconst (v := 2) hx hb d_Mo_over_78 (by decide) ?_
            refine lv_iload hx hb d_Mo_over_79 (lv_at hl 6 rfl) ?_
            refine lv_imul hx hb d_Mo_over_81 ?_
            refine lv_iconst (v := 1) hx hb d_Mo_over_82 (by decide) ?_
            refine lv_iadd hx hb d_Mo_over_83 ?_
            refine lv_ishr hx hb d_Mo_over_84 ?_
            refine lv_iconst (v := 1) hx hb d_Mo_over_85 (by decide) ?_
            refine lv_iand hx hb d_Mo_over_86 ?_
            refine lv_iconst (v := 1) hx hb d_Mo_over_87 (by decide) ?_
            obtain ⟨J16, vc, vc2⟩ := vc
            have jJ16 : ∀ (x18 : Int32) (ls : Array Slot), J16 x18 → lv_has ls 10 [(0, .ref (b 0)), (1, .int x), (2, .int y), (3, .int z), (4, .int x9), (5, .int x10), (6, .int (mio ((6 * x) + x10 : Int32).toNatClampNeg)), (7, .int x13), (8, .int x15)] → W p l e R s m args below meth c H locs cells slots Q (F0 m 102 ls [.int x18]) := by
              intro x18 ls vc hl
              have vc := vc2 x18 vc
              refine lv_istore hx hb d_Mo_over_102 hl (by decide) (lv' := [(9, .int x18), (0, .ref (b 0)), (1, .int x), (2, .int y), (3, .int z), (4, .int x9), (5, .int x10), (6, .int (mio ((6 * x) + x10 : Int32).toNatClampNeg)), (7, .int x13), (8, .int x15)]) rfl (fun ls hl => ?_)
              refine lv_iload hx hb d_Mo_over_104 (lv_at hl 8 rfl) ?_
              refine lv_if_eq (tgt := 131) hx hb d_Mo_over_106 (by decide) (fun h => ?_) (fun h => ?_)
              · have vc := vc.1 h
                refine lv_iload hx hb d_Mo_over_131 (lv_at hl 5 rfl) ?_
                refine lv_istore hx hb d_Mo_over_133 hl (by decide) (lv' := [(4, .int x9), (9, .int x18), (0, .ref (b 0)), (1, .int x), (2, .int y), (3, .int z), (5, .int x10), (6, .int (mio ((6 * x) + x10 : Int32).toNatClampNeg)), (7, .int x13), (8, .int x15)]) rfl (fun ls hl => ?_)
                refine lv_iinc (k := 6) (v := x10 + 1) hx hb d_Mo_over_135 hl rfl rfl (by decide) (lv' := [(5, .int (x10 + 1)), (4, .int x9), (9, .int x18), (0, .ref (b 0)), (1, .int x), (2, .int y), (3, .int z), (6, .int (mio ((6 * x) + x10 : Int32).toNatClampNeg)), (7, .int x13), (8, .int x15)]) rfl (fun ls hl => ?_)
                refine lv_goto (tgt := 6) hx hb d_Mo_over_138 (by decide) ?_
                exact ihI11 x9 (x10 + 1) ls vc.1 (Nat.lt_of_lt_of_le vc.2 (Nat.le_of_lt_succ hmI11)) (lv_sub hl [3, 4, 5, 6, 1, 0] rfl)
              · have vc := vc.2 h
                refine lv_iload hx hb d_Mo_over_109 (lv_at hl 9 rfl) ?_
                refine lv_if_ne (tgt := 119) hx hb d_Mo_over_111 (by decide) (fun h => ?_) (fun h => ?_)
                · have vc := vc.1 h
                  refine lv_iload hx hb d_Mo_over_119 (lv_at hl 5 rfl) ?_
                  refine lv_iconst (v := 2) hx hb d_Mo_over_121 (by decide) ?_
                  refine lv_iconst (v := 2) hx hb d_Mo_over_122 (by decide) ?_
                  refine lv_iload hx hb d_Mo_over_123 (lv_at hl 6 rfl) ?_
                  refine lv_imul hx hb d_Mo_over_125 ?_
                  refine lv_ishl hx hb d_Mo_over_126 ?_
                  refine lv_ior hx hb d_Mo_over_127 ?_
                  refine lv_goto (tgt := 133) hx hb d_Mo_over_128 (by decide) ?_
                  refine lv_istore hx hb d_Mo_over_133 hl (by decide) (lv' := [(4, .int (x9 ||| (2 <<< ((2 * x10) &&& 31)))), (9, .int x18), (0, .ref (b 0)), (1, .int x), (2, .int y), (3, .int z), (5, .int x10), (6, .int (mio ((6 * x) + x10 : Int32).toNatClampNeg)), (7, .int x13), (8, .int x15)]) rfl (fun ls hl => ?_)
                  refine lv_iinc (k := 6) (v := x10 + 1) hx hb d_Mo_over_135 hl rfl rfl (by decide) (lv' := [(5, .int (x10 + 1)), (4, .int (x9 ||| (2 <<< ((2 * x10) &&& 31)))), (9, .int x18), (0, .ref (b 0)), (1, .int x), (2, .int y), (3, .int z), (6, .int (mio ((6 * x) + x10 : Int32).toNatClampNeg)), (7, .int x13), (8, .int x15)]) rfl (fun ls hl => ?_)
                  refine lv_goto (tgt := 6) hx hb d_Mo_over_138 (by decide) ?_
                  exact ihI11 (x9 ||| (2 <<< ((2 * x10) &&& 31))) (x10 + 1) ls vc.1 (Nat.lt_of_lt_of_le vc.2 (Nat.le_of_lt_succ hmI11)) (lv_sub hl [3, 4, 5, 6, 1, 0] rfl)
                · have vc := vc.2 h
                  refine lv_iload hx hb d_Mo_over_114 (lv_at hl 0 rfl) ?_
                  refine lv_if_eq (tgt := 131) hx hb d_Mo_over_116 (by decide) (fun h => ?_) (fun h => ?_)
                  · have vc := vc.1 h
                    refine lv_iload hx hb d_Mo_over_131 (lv_at hl 5 rfl) ?_
                    refine lv_istore hx hb d_Mo_over_133 hl (by decide) (lv' := [(4, .int x9), (9, .int x18), (0, .ref (b 0)), (1, .int x), (2, .int y), (3, .int z), (5, .int x10), (6, .int (mio ((6 * x) + x10 : Int32).toNatClampNeg)), (7, .int x13), (8, .int x15)]) rfl (fun ls hl => ?_)
                    refine lv_iinc (k := 6) (v := x10 + 1) hx hb d_Mo_over_135 hl rfl rfl (by decide) (lv' := [(5, .int (x10 + 1)), (4, .int x9), (9, .int x18), (0, .ref (b 0)), (1, .int x), (2, .int y), (3, .int z), (6, .int (mio ((6 * x) + x10 : Int32).toNatClampNeg)), (7, .int x13), (8, .int x15)]) rfl (fun ls hl => ?_)
                    refine lv_goto (tgt := 6) hx hb d_Mo_over_138 (by decide) ?_
                    exact ihI11 x9 (x10 + 1) ls vc.1 (Nat.lt_of_lt_of_le vc.2 (Nat.le_of_lt_succ hmI11)) (lv_sub hl [3, 4, 5, 6, 1, 0] rfl)
                  · have vc := vc.2 h
                    refine lv_iload hx hb d_Mo_over_119 (lv_at hl 5 rfl) ?_
                    refine lv_iconst (v := 2) hx hb d_Mo_over_121 (by decide) ?_
                    refine lv_iconst (v := 2) hx hb d_Mo_over_122 (by decide) ?_
                    refine lv_iload hx hb d_Mo_over_123 (lv_at hl 6 rfl) ?_
                    refine lv_imul hx hb d_Mo_over_125 ?_
                    refine lv_ishl hx hb d_Mo_over_126 ?_
                    refine lv_ior hx hb d_Mo_over_127 ?_
                    refine lv_goto (tgt := 133) hx hb d_Mo_over_128 (by decide) ?_
                    refine lv_istore hx hb d_Mo_over_133 hl (by decide) (lv' := [(4, .int (x9 ||| (2 <<< ((2 * x10) &&& 31)))), (9, .int x18), (0, .ref (b 0)), (1, .int x), (2, .int y), (3, .int z), (5, .int x10), (6, .int (mio ((6 * x) + x10 : Int32).toNatClampNeg)), (7, .int x13), (8, .int x15)]) rfl (fun ls hl => ?_)
                    refine lv_iinc (k := 6) (v := x10 + 1) hx hb d_Mo_over_135 hl rfl rfl (by decide) (lv' := [(5, .int (x10 + 1)), (4, .int (x9 ||| (2 <<< ((2 * x10) &&& 31)))), (9, .int x18), (0, .ref (b 0)), (1, .int x), (2, .int y), (3, .int z), (6, .int (mio ((6 * x) + x10 : Int32).toNatClampNeg)), (7, .int x13), (8, .int x15)]) rfl (fun ls hl => ?_)
                    refine lv_goto (tgt := 6) hx hb d_Mo_over_138 (by decide) ?_
                    exact ihI11 (x9 ||| (2 <<< ((2 * x10) &&& 31))) (x10 + 1) ls vc.1 (Nat.lt_of_lt_of_le vc.2 (Nat.le_of_lt_succ hmI11)) (lv_sub hl [3, 4, 5, 6, 1, 0] rfl)
            clear vc2
            refine lv_icmp_ne (tgt := 101) hx hb d_Mo_over_88 (by decide) (fun h => ?_) (fun h => ?_)
            · have vc := vc.1 h
              refine lv_iconst (v := 0) hx hb d_Mo_over_101 (by decide) ?_
              exact jJ16 0 ls vc (lv_sub hl [1, 2, 3, 4, 5, 6, 7, 8, 0] rfl)
            · have vc := vc.2 h
              refine lv_iload hx hb d_Mo_over_91 (lv_at hl 7 rfl) ?_
              refine lv_iconst (v := 1) hx hb d_Mo_over_93 (by decide) ?_
              refine lv_icmp_le (tgt := 101) hx hb d_Mo_over_94 (by decide) (fun h => ?_) (fun h => ?_)
              · have vc := vc.1 h
                refine lv_iconst (v := 0) hx hb d_Mo_over_101 (by decide) ?_
                exact jJ16 0 ls vc (lv_sub hl [1, 2, 3, 4, 5, 6, 7, 8, 0] rfl)
              · have vc := vc.2 h
                refine lv_iconst (v := 1) hx hb d_Mo_over_97 (by decide) ?_
                refine lv_goto (tgt := 102) hx hb d_Mo_over_98 (by decide) ?_
                exact jJ16 1 ls vc (lv_sub hl [1, 2, 3, 4, 5, 6, 7, 8, 0] rfl)
          clear vc2
          refine lv_icmp_ne (tgt := 74) hx hb d_Mo_over_67 (by decide) (fun h => ?_) (fun h => ?_)
          · have vc := vc.1 h
            refine lv_iconst (v := 0) hx hb d_Mo_over_74 (by decide) ?_
            exact jJ14 0 ls vc (lv_sub hl [1, 2, 3, 4, 5, 6, 7, 0] rfl)
          · have vc := vc.2 h
            refine lv_iconst (v := 1) hx hb d_Mo_over_70 (by decide) ?_
            refine lv_goto (tgt := 75) hx hb d_Mo_over_71 (by decide) ?_
            exact jJ14 1 ls vc (lv_sub hl [1, 2, 3, 4, 5, 6, 7, 0] rfl)
        clear vc2
        refine lv_icmp_ne (tgt := 55) hx hb d_Mo_over_48 (by decide) (fun h => ?_) (fun h => ?_)
        · have vc := vc.1 h
          refine lv_iconst (v := 0) hx hb d_Mo_over_55 (by decide) ?_
          exact jJ12 0 ls vc (lv_sub hl [1, 2, 3, 4, 5, 6, 0] rfl)
        · have vc := vc.2 h
          refine lv_iconst (v := 1) hx hb d_Mo_over_51 (by decide) ?_
          refine lv_goto (tgt := 56) hx hb d_Mo_over_52 (by decide) ?_
          exact jJ12 1 ls vc (lv_sub hl [1, 2, 3, 4, 5, 6, 0] rfl)
  exact lI11 _ 0 0 ls vc0 (Nat.lt_succ_self _) (lv_sub hl [2, 3, 4, 5, 1, 0] rfl)
theorem h_Mo_over (l : Launch) (D : va_G) (b : Nat → Nat) (cI cJ cZ : ClassId) (mki : Nat → Int32) (msz : Nat → Int64) (mle : Nat → Int32) (mel : Nat → Int32) (mme : Nat → Int32) (mal : Nat → Int32) (mic : Nat → Int32) (mil : Nat → Int32) (mio : Nat → Int32) (mab : Nat → Int32) (mae : Nat → Int32) (msa : Nat → Int32) (mlc : Nat → Int32) (mli : Nat → Int32) (mna : Nat → Int32) (mva : Nat → Int32) (mma : Nat → Int32) (mch : Nat → Int32) (mre : Nat → Int32) (mlv : Nat → Int32) (mwr : Nat → Int64) (msh : Nat → Int32) (mth : Int32) (mnv : Int32) (mns : Int32) (mfa : Int32) (mmo : Int32) (x : Int32) (y : Int32) (z : Int32) (r : Int32) (vc : V_Mo_over mki msz mle mel mme mal mic mil mio mab mae msa mlc mli mna mva mma mch mre mlv mwr msh mth mnv mns mfa mmo x y z (fun v => v = r)) : Pm l y_Mo_over b_Mo_over 10 (some .int) 0 0 [.ref (b 0), .int x, .int y, .int z] (wB D (tyA cI cJ cZ) (wM b cI cJ cZ mki msz mle mel mme mal mic mil mio mab mae msa mlc mli mna mva mma mch mre mlv mwr msh mth mnv mns mfa mmo)) (.int r) :=
  pm_i (by decide) rfl (Nat.le_of_ble_eq_true rfl) (fun p e s m below meth c ls Q S hB hl hret => g_Mo_over S (Nat.le_refl _) (Nat.le_refl _) ⟨Nat.le_refl _, Nat.le_refl _⟩ D b cI cJ cZ mki msz mle mel mme mal mic mil mio mab mae msa mlc mli mna mva mma mch mre mlv mwr msh mth mnv mns mfa mmo x y z hB.2 hB.1 hl vc hret)
theorem c_Mo_over (l : Launch) (D : va_G) (b : Nat → Nat) (cI cJ cZ : ClassId) (mki : Nat → Int32) (msz : Nat → Int64) (mle : Nat → Int32) (mel : Nat → Int32) (mme : Nat → Int32) (mal : Nat → Int32) (mic : Nat → Int32) (mil : Nat → Int32) (mio : Nat → Int32) (mab : Nat → Int32) (mae : Nat → Int32) (msa : Nat → Int32) (mlc : Nat → Int32) (mli : Nat → Int32) (mna : Nat → Int32) (mva : Nat → Int32) (mma : Nat → Int32) (mch : Nat → Int32) (mre : Nat → Int32) (mlv : Nat → Int32) (mwr : Nat → Int64) (msh : Nat → Int32) (mth : Int32) (mnv : Int32) (mns : Int32) (mfa : Int32) (mmo : Int32) (x : Int32) (y : Int32) (z : Int32) (hpre : (vp_in x 8 ∧ (∃ n : Nat, n ≤ 6 ∧ mic x.toNatClampNeg = nI n) ∧ vp_in z 32)) : Pm l y_Mo_over b_Mo_over 10 (some .int) 0 0 [.ref (b 0), .int x, .int y, .int z] (wB D (tyA cI cJ cZ) (wM b cI cJ cZ mki msz mle mel mme mal mic mil mio mab mae msa mlc mli mna mva mma mch mre mlv mwr msh mth mnv mns mfa mmo)) (.int (mOvr (fun i => bt (mil (6 * x.toNatClampNeg + i)) z.toNatClampNeg) (fun i => mio (6 * x.toNatClampNeg + i)) y (mic x.toNatClampNeg).toNatClampNeg)) := h_Mo_over l D b cI cJ cZ mki msz mle mel mme mal mic mil mio mab mae msa mlc mli mna mva mma mch mre mlv mwr msh mth mnv mns mfa mmo x y z _ (by
  unfold V_Mo_over
  obtain ⟨hx, ⟨n, hn, en⟩, hz⟩ := hpre
  obtain ⟨q, hq, rfl, hcq⟩ := vp_nat hx (by decide)
  obtain ⟨d, hd, rfl, hcd⟩ := vp_nat hz (by decide)
  rw [hcq] at en
  simp only [hcq, hcd, en, nI_clamp (show n < 2 ^ 31 by omega)]
  generalize hF : (fun i => bt (mil (6 * q + i)) d) = F
  generalize hO : (fun i => mio (6 * q + i)) = O
  refine ⟨fun z i => ∃ k, k ≤ n ∧ i = nI k ∧ z = mOvr F O y k, fun _ i => n - i.toInt.toNat, ⟨0, Nat.zero_le _, rfl, rfl⟩, ?_⟩
  rintro z i ⟨k, hk, rfl, rfl⟩
  refine ⟨hx, fun h => ?_, fun h => ?_⟩
  · obtain rfl := fill_end (N := n) h (by omega) hk; rfl
  · have hk2 := fill_step (N := n) h (by omega) hk
    have i1 : 6 * nI q + nI k = nI (6 * q + k) := by rw [nI_mulL, nI_add]
    have i2 : 2 * nI k = nI (2 * k) := by rw [nI_mulL]
    have i3 : nI (2 * k) + 1 = nI (2 * k + 1) := nI_1 _
    have e1 : F k = bt (mil (6 * q + k)) d := by rw [← hF]
    have e2 : O k = mio (6 * q + k) := by rw [← hO]
    rw [i1, i2, i3, nI_clamp (by omega), b_and1 _ (by omega), b_and1 _ (by omega), b_and1 _ (by omega), ← e1, ← e2]
    refine ⟨vp_in_nI (by omega) (by decide), vp_in_nI (by omega) (by decide), ?_⟩
    have m : ∀ z2, z2 = mOvr F O y (k + 1) → (∃ k2, k2 ≤ n ∧ nI k + 1 = nI k2 ∧ z2 = mOvr F O y k2) ∧ n - (nI k + 1).toInt.toNat < n - (nI k).toInt.toNat := fun z2 e => ⟨⟨k + 1, hk2, nI_1 k, e⟩, fill_mu hk2 (by omega)⟩
    refine jb_f ?_
    refine jb_f ?_
    refine ⟨fun z => z = bI (bt y (2 * k + 1) && decide (¬ O k ≤ 1)), ⟨fun h2 => ?_, fun h2 => ⟨fun h3 => ?_, fun h3 => ?_⟩⟩, ?_⟩
    · have : bt y (2 * k + 1) = false := by cases e : bt y (2 * k + 1); rfl; rw [e] at h2; exact absurd rfl h2
      rw [this]; rfl
    · simp [bI, h3]
    · rw [bI1.mp h2]; simp [bI, h3]
    rintro _ rfl
    rw [dec_bI1, dec_bI1]
    refine ⟨fun h2 => m _ ?_, fun h2 => ⟨fun h3 => m _ ?_, fun h3 => ⟨fun h4 => m _ ?_, fun h4 => m _ ?_⟩⟩⟩
    · rw [mOvr_s, bI0.mp h2]; simp
    · rw [mOvr_s, bI_ne.mp h2, bI_ne.mp h3]; simp
    · rw [mOvr_s, bI_ne.mp h2, bI0.mp h3, bI0.mp h4]; simp
    · rw [mOvr_s, bI_ne.mp h2, bI0.mp h3, bI_ne.mp h4]; simp)
theorem hd_Mo_over : y_Mo_over.cls ≠ "java/lang/invoke/MethodHandle" ∧ y_Mo_over.cls ≠ "java/lang/invoke/VarHandle" ∧ (parseMethodDescriptor y_Mo_over.desc).map (fun d => d.parameters.length) = some 3 := ⟨by decide, by decide, by decide +kernel⟩
def V_Mo_matches (mki : Nat → Int32) (msz : Nat → Int64) (mle : Nat → Int32) (mel : Nat → Int32) (mme : Nat → Int32) (mal : Nat → Int32) (mic : Nat → Int32) (mil : Nat → Int32) (mio : Nat → Int32) (mab : Nat → Int32) (mae : Nat → Int32) (msa : Nat → Int32) (mlc : Nat → Int32) (mli : Nat → Int32) (mna : Nat → Int32) (mva : Nat → Int32) (mma : Nat → Int32) (mch : Nat → Int32) (mre : Nat → Int32) (mlv : Nat → Int32) (mwr : Nat → Int64) (msh : Nat → Int32) (mth : Int32) (mnv : Int32) (mns : Int32) (mfa : Int32) (mmo : Int32) (x : Int32) (y : Int32) (post : Int32 → Prop) : Prop :=
  (vp_in x 8 ∧ ((vp_in x 8 ∧ (∃ n : Nat, n ≤ 6 ∧ mic x.toNatClampNeg = nI n)) ∧ (∃ J1 : Int32 → Prop, ((¬ (((mSpr (fun i => mio (6 * x.toNatClampNeg + i)) 1 (mic x.toNatClampNeg).toNatClampNeg) >>> ((2 * (mic x.toNatClampNeg)) &&& 31)) &&& 1) = 1 → J1 0) ∧ ((((mSpr (fun i => mio (6 * x.toNatClampNeg + i)) 1 (mic x.toNatClampNeg).toNatClampNeg) >>> ((2 * (mic x.toNatClampNeg)) &&& 31)) &&& 1) = 1 → J1 1)) ∧ (∀ (x2 : Int32), J1 x2 → (∃ (I12 : Int32 → Int32 → Int32 → Prop) (mI12 : Int32 → Int32 → Int32 → Nat), I12 (mSpr (fun i => mio (6 * x.toNatClampNeg + i)) 1 (mic x.toNatClampNeg).toNatClampNeg) x2 y ∧ (∀ (x9 : Int32) (x10 : Int32) (x11 : Int32), I12 x9 x10 x11 → ((x11 ≤ 0 → post x10) ∧ (¬ x11 ≤ 0 → ((vp_in x 8 ∧ (∃ n : Nat, n ≤ 6 ∧ mic x.toNatClampNeg = nI n) ∧ vp_in ((x11 - x11 / 5 * 5) - 1) 32) ∧ (∀ z13 : Int32, z13 = mOvr (fun i => bt (mil (6 * x.toNatClampNeg + i)) ((x11 - x11 / 5 * 5) - 1 : Int32).toNatClampNeg) (fun i => mio (6 * x.toNatClampNeg + i)) x9 (mic x.toNatClampNeg).toNatClampNeg → (vp_in x 8 ∧ (∃ J14 : Int32 → Prop, (((mab x.toNatClampNeg) = 0 → J14 (z13 ||| 1)) ∧ (¬ (mab x.toNatClampNeg) = 0 → J14 z13)) ∧ (∀ (x15 : Int32), J14 x15 → ((vp_in x 8 ∧ (∃ n : Nat, n ≤ 6 ∧ mic x.toNatClampNeg = nI n)) ∧ (∃ J16 : Int32 → Prop, ((¬ (((mSpr (fun i => mio (6 * x.toNatClampNeg + i)) x15 (mic x.toNatClampNeg).toNatClampNeg) >>> ((2 * (mic x.toNatClampNeg)) &&& 31)) &&& 1) = 1 → J16 0) ∧ ((((mSpr (fun i => mio (6 * x.toNatClampNeg + i)) x15 (mic x.toNatClampNeg).toNatClampNeg) >>> ((2 * (mic x.toNatClampNeg)) &&& 31)) &&& 1) = 1 → J16 1)) ∧ (∀ (x17 : Int32), J16 x17 → (vp_in x 8 ∧ (((mae x.toNatClampNeg) = 0 → ((¬ x10 = 0 → (I12 (mSpr (fun i => mio (6 * x.toNatClampNeg + i)) x15 (mic x.toNatClampNeg).toNatClampNeg) 1 (x11 / 5) ∧ mI12 (mSpr (fun i => mio (6 * x.toNatClampNeg + i)) x15 (mic x.toNatClampNeg).toNatClampNeg) 1 (x11 / 5) < mI12 x9 x10 x11)) ∧ (x10 = 0 → ((x17 = 0 → (I12 (mSpr (fun i => mio (6 * x.toNatClampNeg + i)) x15 (mic x.toNatClampNeg).toNatClampNeg) 0 (x11 / 5) ∧ mI12 (mSpr (fun i => mio (6 * x.toNatClampNeg + i)) x15 (mic x.toNatClampNeg).toNatClampNeg) 0 (x11 / 5) < mI12 x9 x10 x11)) ∧ (¬ x17 = 0 → (I12 (mSpr (fun i => mio (6 * x.toNatClampNeg + i)) x15 (mic x.toNatClampNeg).toNatClampNeg) 1 (x11 / 5) ∧ mI12 (mSpr (fun i => mio (6 * x.toNatClampNeg + i)) x15 (mic x.toNatClampNeg).toNatClampNeg) 1 (x11 / 5) < mI12 x9 x10 x11)))))) ∧ (¬ (mae x.toNatClampNeg) = 0 → (I12 (mSpr (fun i => mio (6 * x.toNatClampNeg + i)) x15 (mic x.toNatClampNeg).toNatClampNeg) x17 (x11 / 5) ∧ mI12 (mSpr (fun i => mio (6 * x.toNatClampNeg + i)) x15 (mic x.toNatClampNeg).toNatClampNeg) x17 (x11 / 5) < mI12 x9 x10 x11))))))))))))))))))))
set_option maxHeartbeats 4000000 in
set_option maxRecDepth 100000 in
theorem g_Mo_matches {p : Program} {l : Launch} {e : Env} {R : Room} {s : State} {m : MethodId} {args : Array Value} {below : List Frame} {meth : Method} {c : Code} {H : Heap} {locs : List Loc} {cells slots : Nat} {Q : State → Prop} {ls : Array Slot} (S : CallFix p m c b_Mo_matches 8 s args W0 R_Mo) (hRf : 1 ≤ R.frames) (hRl : 29 ≤ R.locals) (hRc : cells ≤ R.cells ∧ slots ≤ R.slots) (D : va_G) (b : Nat → Nat) (cI cJ cZ : ClassId) (mki : Nat → Int32) (msz : Nat → Int64) (mle : Nat → Int32) (mel : Nat → Int32) (mme : Nat → Int32) (mal : Nat → Int32) (mic : Nat → Int32) (mil : Nat → Int32) (mio : Nat → Int32) (mab : Nat → Int32) (mae : Nat → Int32) (msa : Nat → Int32) (mlc : Nat → Int32) (mli : Nat → Int32) (mna : Nat → Int32) (mva : Nat → Int32) (mma : Nat → Int32) (mch : Nat → Int32) (mre : Nat → Int32) (mlv : Nat → Int32) (mwr : Nat → Int64) (msh : Nat → Int32) (mth : Int32) (mnv : Int32) (mns : Int32) (mfa : Int32) (mmo : Int32) (x : Int32) (y : Int32) (hK : va_K D vwCl (tyA cI cJ cZ) s) (hP : va_P D vwCl (wM b cI cJ cZ mki msz mle mel mme mal mic mil mio mab mae msa mlc mli mna mva mma mch mre mlv mwr msh mth mnv mns mfa mmo) H) (hl : lv_has ls 8 [(0, .ref (b 0)), (1, .int x), (2, .int y)]) {post : Int32 → Prop} (vc : V_Mo_matches mki msz mle mel mme mal mic mil mio mab mae msa mlc mli mna mva mma mch mre mlv mwr msh mth mnv mns mfa mmo x y post)
    (hret : ∀ (v : Int32) (ls : Array Slot) (pc : Nat), decode b_Mo_matches pc = .ok (.ireturn, 1) → post v → W p l e R s m args below meth c H locs cells slots Q (F0 m pc ls [.int v])) : W p l e R s m args below meth c H locs cells slots Q (F0 m 0 ls []) := by
  have hx := S.1
  have hb := S.2.1
  have hown := S.2.2.2.1
  have hts := S.2.2.2.2
  unfold V_Mo_matches at vc
  refine lv_iconst (v := 2) hx hb d_Mo_matches_0 (by decide) ?_
  refine lv_aload_n hx hb d_Mo_matches_1 rfl (lv_at hl 0 rfl) ?_
  refine va_get (D := D) (ci := 6) (v := .ref (b 7)) (C := R_Mo) (T := F_Mo) (N := 27) hx hb hts in_Mo hown hK hP 0 rfl rfl 8 (by decide) (hts _ fl_Mo_29) (fun _ h => h) rfl d_Mo_matches_2 ?_
  refine lv_iload_n hx hb d_Mo_matches_5 rfl (lv_at hl 1 rfl) ?_
  obtain ⟨vcb, vc⟩ := vc
  refine va_iald hx hb hK hP 7 0 rfl rfl vcb d_Mo_matches_6 ?_
  refine lv_imul hx hb d_Mo_matches_7 ?_
  refine lv_istore_n hx hb d_Mo_matches_8 rfl hl (by decide) (lv' := [(3, .int (2 * (mic x.toNatClampNeg))), (0, .ref (b 0)), (1, .int x), (2, .int y)]) rfl (fun ls hl => ?_)
  refine lv_aload_n hx hb d_Mo_matches_9 rfl (lv_at hl 1 rfl) ?_
  refine lv_iload_n hx hb d_Mo_matches_10 rfl (lv_at hl 2 rfl) ?_
  refine lv_iconst (v := 1) hx hb d_Mo_matches_11 (by decide) ?_
  obtain ⟨hpre, vc⟩ := vc
  refine pc_V (As := [.int x, .int 1]) (rest := []) S (c_Mo_spread l D b cI cJ cZ mki msz mle mel mme mal mic mil mio mab mae msa mlc mli mna mva mma mch mre mlv mwr msh mth mnv mns mfa mmo x 1 hpre) wB_blind k_Mo_spread i_Mo_spread e_Mo_spread o_Mo ml_Mo_120 hd_Mo_spread (Nat.le_trans (by decide) hRf) (Nat.le_trans (by decide) hRl) hRc (va_recv hK hP (q0 := 0) (ci := 6) rfl rfl) (wB_at hP hK) hl.1 rfl (Nat.le_of_ble_eq_true rfl) d_Mo_matches_12 ?_
  refine lv_istore hx hb d_Mo_matches_15 hl (by decide) (lv' := [(4, .int (mSpr (fun i => mio (6 * x.toNatClampNeg + i)) 1 (mic x.toNatClampNeg).toNatClampNeg)), (3, .int (2 * (mic x.toNatClampNeg))), (0, .ref (b 0)), (1, .int x), (2, .int y)]) rfl (fun ls hl => ?_)
  refine lv_iload hx hb d_Mo_matches_17 (lv_at hl 0 rfl) ?_
  refine lv_iload_n hx hb d_Mo_matches_19 rfl (lv_at hl 1 rfl) ?_
  refine lv_ishr hx hb d_Mo_matches_20 ?_
  refine lv_iconst (v := 1) hx hb d_Mo_matches_21 (by decide) ?_
  refine lv_iand hx hb d_Mo_matches_22 ?_
  refine lv_iconst (v := 1) hx hb d_Mo_matches_23 (by decide) ?_
  obtain ⟨J1, vc, vc2⟩ := vc
  have jJ1 : ∀ (x2 : Int32) (ls : Array Slot), J1 x2 → lv_has ls 8 [(0, .ref (b 0)), (1, .int x), (2, .int y), (3, .int (2 * (mic x.toNatClampNeg))), (4, .int (mSpr (fun i => mio (6 * x.toNatClampNeg + i)) 1 (mic x.toNatClampNeg).toNatClampNeg))] → W p l e R s m args below meth c H locs cells slots Q (F0 m 32 ls [.int x2]) := by
    intro x2 ls vc hl
    have vc := vc2 x2 vc
    refine lv_istore hx hb d_Mo_matches_32 hl (by decide) (lv' := [(5, .int x2), (0, .ref (b 0)), (1, .int x), (2, .int y), (3, .int (2 * (mic x.toNatClampNeg))), (4, .int (mSpr (fun i => mio (6 * x.toNatClampNeg + i)) 1 (mic x.toNatClampNeg).toNatClampNeg))]) rfl (fun ls hl => ?_)
    refine lv_iload_n hx hb d_Mo_matches_34 rfl (lv_at hl 3 rfl) ?_
    refine lv_istore hx hb d_Mo_matches_35 hl (by decide) (lv' := [(6, .int y), (5, .int x2), (0, .ref (b 0)), (1, .int x), (2, .int y), (3, .int (2 * (mic x.toNatClampNeg))), (4, .int (mSpr (fun i => mio (6 * x.toNatClampNeg + i)) 1 (mic x.toNatClampNeg).toNatClampNeg))]) rfl (fun ls hl => ?_)
    obtain ⟨I12, mI12, vc0, vcs⟩ := vc
    have lI12 : ∀ n : Nat, ∀ (x9 : Int32) (x10 : Int32) (x11 : Int32) (ls : Array Slot), I12 x9 x10 x11 → mI12 x9 x10 x11 < n → lv_has ls 8 [(0, .ref (b 0)), (1, .int x), (2, .int y), (3, .int (2 * (mic x.toNatClampNeg))), (4, .int x9), (5, .int x10), (6, .int x11)] → W p l e R s m args below meth c H locs cells slots Q (F0 m 37 ls []) := by
      intro n
      induction n with
      | zero => intro x9 x10 x11 ls _ h; exact absurd h (Nat.not_lt_zero _)
      | succ n ihI12 =>
        intro x9 x10 x11 ls vc hmI12 hl
        have vc := vcs x9 x10 x11 vc
        refine lv_iload hx hb d_Mo_matches_37 (lv_at hl 6 rfl) ?_
        refine lv_if_le (tgt := 139) hx hb d_Mo_matches_39 (by decide) (fun h => ?_) (fun h => ?_)
        · have vc := vc.1 h
          refine lv_iload hx hb d_Mo_matches_139 (lv_at hl 5 rfl) ?_
          exact hret _ ls _ d_Mo_matches_141 vc
        · have vc := vc.2 h
          refine lv_aload_n hx hb d_Mo_matches_42 rfl (lv_at hl 0 rfl) ?_
          refine lv_iload_n hx hb d_Mo_matches_43 rfl (lv_at hl 1 rfl) ?_
          refine lv_iload hx hb d_Mo_matches_44 (lv_at hl 4 rfl) ?_
          refine lv_iload hx hb d_Mo_matches_46 (lv_at hl 6 rfl) ?_
          refine lv_iconst (v := 5) hx hb d_Mo_matches_48 (by decide) ?_
          refine lv_irem hx hb d_Mo_matches_49 (by decide) ?_
          refine lv_iconst (v := 1) hx hb d_Mo_matches_50 (by decide) ?_
          refine lv_isub hx hb d_Mo_matches_51 ?_
          obtain ⟨hpre, vc⟩ := vc
          refine pc_V (As := [.int x, .int x9, .int ((x11 - x11 / 5 * 5) - 1)]) (rest := []) S (c_Mo_over l D b cI cJ cZ mki msz mle mel mme mal mic mil mio mab mae msa mlc mli mna mva mma mch mre mlv mwr msh mth mnv mns mfa mmo x x9 ((x11 - x11 / 5 * 5) - 1) hpre) wB_blind k_Mo_over i_Mo_over e_Mo_over o_Mo ml_Mo_124 hd_Mo_over (Nat.le_trans (by decide) hRf) (Nat.le_trans (by decide) hRl) hRc (va_recv hK hP (q0 := 0) (ci := 6) rfl rfl) (wB_at hP hK) hl.1 rfl (Nat.le_of_ble_eq_true rfl) d_Mo_matches_52 ?_
          refine lv_topi (fun z13 ez13 => ?_)
          have vc := vc z13 ez13
          refine lv_istore hx hb d_Mo_matches_55 hl (by decide) (lv' := [(4, .int z13), (0, .ref (b 0)), (1, .int x), (2, .int y), (3, .int (2 * (mic x.toNatClampNeg))), (5, .int x10), (6, .int x11)]) rfl (fun ls hl => ?_)
          refine lv_iload hx hb d_Mo_matches_57 (lv_at hl 6 rfl) ?_
          refine lv_iconst (v := 5) hx hb d_Mo_matches_59 (by decide) ?_
          refine lv_idiv hx hb d_Mo_matches_60 (by decide) ?_
          refine lv_istore hx hb d_Mo_matches_61 hl (by decide) (lv' := [(6, .int (x11 / 5)), (4, .int z13), (0, .ref (b 0)), (1, .int x), (2, .int y), (3, .int (2 * (mic x.toNatClampNeg))), (5, .int x10)]) rfl (fun ls hl => ?_)
          refine lv_aload_n hx hb d_Mo_matches_63 rfl (lv_at hl 2 rfl) ?_
          refine lv_iload_n hx hb d_Mo_matches_64 rfl (lv_at hl 3 rfl) ?_
          refine lv_aload_n hx hb d_Mo_matches_65 rfl (lv_at hl 2 rfl) ?_
          refine va_get (D := D) (ci := 6) (v := .ref (b 10)) (C := R_Mo) (T := F_Mo) (N := 27) hx hb hts in_Mo hown hK hP 0 rfl rfl 11 (by decide) (hts _ fl_Mo_38) (fun _ h => h) rfl d_Mo_matches_66 ?_
          refine lv_iload_n hx hb d_Mo_matches_69 rfl (lv_at hl 3 rfl) ?_
          obtain ⟨vcb, vc⟩ := vc
          refine va_zald hx hb hK hP 10 2 rfl rfl vcb d_Mo_matches_70 ?_
          obtain ⟨J14, vc, vc2⟩ := vc
          have jJ14 : ∀ (x15 : Int32) (ls : Array Slot), J14 x15 → lv_has ls 8 [(0, .ref (b 0)), (1, .int x), (2, .int y), (3, .int (2 * (mic x.toNatClampNeg))), (4, .int z13), (5, .int x10), (6, .int (x11 / 5))] → W p l e R s m args below meth c H locs cells slots Q (F0 m 83 ls [.int x15, .int x, .ref (b 0)]) := by
            intro x15 ls vc hl
            have vc := vc2 x15 vc
            obtain ⟨hpre, vc⟩ := vc
            refine pc_V (As := [.int x, .int x15]) (rest := []) S (c_Mo_spread l D b cI cJ cZ mki msz mle mel mme mal mic mil mio mab mae msa mlc mli mna mva mma mch mre mlv mwr msh mth mnv mns mfa mmo x x15 hpre) wB_blind k_Mo_spread i_Mo_spread e_Mo_spread o_Mo ml_Mo_120 hd_Mo_spread (Nat.le_trans (by decide) hRf) (Nat.le_trans (by decide) hRl) hRc (va_recv hK hP (q0 := 0) (ci := 6) rfl rfl) (wB_at hP hK) hl.1 rfl (Nat.le_of_ble_eq_true rfl) d_Mo_matches_83 ?_
            refine lv_istore hx hb d_Mo_matches_86 hl (by decide) (lv' := [(4, .int (mSpr (fun i => mio (6 * x.toNatClampNeg + i)) x15 (mic x.toNatClampNeg).toNatClampNeg)), (0, .ref (b 0)), (1, .int x), (2, .int y), (3, .int (2 * (mic x.toNatClampNeg))), (5, .int x10), (6, .int (x11 / 5))]) rfl (fun ls hl => ?_)
            refine lv_iload hx hb d_Mo_matches_88 (lv_at hl 0 rfl) ?_
            refine lv_iload_n hx hb d_Mo_matches_90 rfl (lv_at hl 4 rfl) ?_
            refine lv_ishr hx hb d_Mo_matches_91 ?_
            refine lv_iconst (v := 1) hx hb d_Mo_matches_92 (by decide) ?_
            refine lv_iand hx hb d_Mo_matches_93 ?_
            refine lv_iconst (v := 1) hx hb d_Mo_matches_94 (by decide) ?_
            obtain ⟨J16, vc, vc2⟩ := vc
            have jJ16 : ∀ (x17 : Int32) (ls : Array Slot), J16 x17 → lv_has ls 8 [(0, .ref (b 0)), (1, .int x), (2, .int y), (3, .int (2 * (mic x.toNatClampNeg))), (4, .int (mSpr (fun i => mio (6 * x.toNatClampNeg + i)) x15 (mic x.toNatClampNeg).toNatClampNeg)), (5, .int x10), (6, .int (x11 / 5))] → W p l e R s m args below meth c H locs cells slots Q (F0 m 103 ls [.int x17]) := by
              intro x17 ls vc hl
              have vc := vc2 x17 vc
              refine lv_istore hx hb d_Mo_matches_103 hl (by decide) (lv' := [(7, .int x17), (0, .ref (b 0)), (1, .int x), (2, .int y), (3, .int (2 * (mic x.toNatClampNeg))), (4, .int (mSpr (fun i => mio (6 * x.toNatClampNeg + i)) x15 (mic x.toNatClampNeg).toNatClampNeg)), (5, .int x10), (6, .int (x11 / 5))]) rfl (fun ls hl => ?_)
              refine lv_aload_n hx hb d_Mo_matches_105 rfl (lv_at hl 1 rfl) ?_
              refine va_get (D := D) (ci := 6) (v := .ref (b 11)) (C := R_Mo) (T := F_Mo) (N := 27) hx hb hts in_Mo hown hK hP 0 rfl rfl 12 (by decide) (hts _ fl_Mo_42) (fun _ h => h) rfl d_Mo_matches_106 ?_
              refine lv_iload_n hx hb d_Mo_matches_109 rfl (lv_at hl 2 rfl) ?_
              obtain ⟨vcb, vc⟩ := vc
              refine va_zald hx hb hK hP 11 2 rfl rfl vcb d_Mo_matches_110 ?_
              refine lv_if_eq (tgt := 119) hx hb d_Mo_matches_111 (by decide) (fun h => ?_) (fun h => ?_)
              · have vc := vc.1 h
                refine lv_iload hx hb d_Mo_matches_119 (lv_at hl 6 rfl) ?_
                refine lv_if_ne (tgt := 129) hx hb d_Mo_matches_121 (by decide) (fun h => ?_) (fun h => ?_)
                · have vc := vc.1 h
                  refine lv_iconst (v := 1) hx hb d_Mo_matches_129 (by decide) ?_
                  refine lv_goto (tgt := 134) hx hb d_Mo_matches_130 (by decide) ?_
                  refine lv_istore hx hb d_Mo_matches_134 hl (by decide) (lv' := [(5, .int 1), (7, .int x17), (0, .ref (b 0)), (1, .int x), (2, .int y), (3, .int (2 * (mic x.toNatClampNeg))), (4, .int (mSpr (fun i => mio (6 * x.toNatClampNeg + i)) x15 (mic x.toNatClampNeg).toNatClampNeg)), (6, .int (x11 / 5))]) rfl (fun ls hl => ?_)
                  refine lv_goto (tgt := 37) hx hb d_Mo_matches_136 (by decide) ?_
                  exact ihI12 (mSpr (fun i => mio (6 * x.toNatClampNeg + i)) x15 (mic x.toNatClampNeg).toNatClampNeg) 1 (x11 / 5) ls vc.1 (Nat.lt_of_lt_of_le vc.2 (Nat.le_of_lt_succ hmI12)) (lv_sub hl [2, 3, 4, 5, 6, 0, 7] rfl)
                · have vc := vc.2 h
                  refine lv_iload hx hb d_Mo_matches_124 (lv_at hl 0 rfl) ?_
                  refine lv_if_eq (tgt := 133) hx hb d_Mo_matches_126 (by decide) (fun h => ?_) (fun h => ?_)
                  · have vc := vc.1 h
                    refine lv_iconst (v := 0) hx hb d_Mo_matches_133 (by decide) ?_
                    refine lv_istore hx hb d_Mo_matches_134 hl (by decide) (lv' := [(5, .int 0), (7, .int x17), (0, .ref (b 0)), (1, .int x), (2, .int y), (3, .int (2 * (mic x.toNatClampNeg))), (4, .int (mSpr (fun i => mio (6 * x.toNatClampNeg + i)) x15 (mic x.toNatClampNeg).toNatClampNeg)), (6, .int (x11 / 5))]) rfl (fun ls hl => ?_)
                    refine lv_goto (tgt := 37) hx hb d_Mo_matches_136 (by decide) ?_
                    exact ihI12 (mSpr (fun i => mio (6 * x.toNatClampNeg + i)) x15 (mic x.toNatClampNeg).toNatClampNeg) 0 (x11 / 5) ls vc.1 (Nat.lt_of_lt_of_le vc.2 (Nat.le_of_lt_succ hmI12)) (lv_sub hl [2, 3, 4, 5, 6, 0, 7] rfl)
                  · have vc := vc.2 h
                    refine lv_iconst (v := 1) hx hb d_Mo_matches_129 (by decide) ?_
                    refine lv_goto (tgt := 134) hx hb d_Mo_matches_130 (by decide) ?_
                    refine lv_istore hx hb d_Mo_matches_134 hl (by decide) (lv' := [(5, .int 1), (7, .int x17), (0, .ref (b 0)), (1, .int x), (2, .int y), (3, .int (2 * (mic x.toNatClampNeg))), (4, .int (mSpr (fun i => mio (6 * x.toNatClampNeg + i)) x15 (mic x.toNatClampNeg).toNatClampNeg)), (6, .int (x11 / 5))]) rfl (fun ls hl => ?_)
                    refine lv_goto (tgt := 37) hx hb d_Mo_matches_136 (by decide) ?_
                    exact ihI12 (mSpr (fun i => mio (6 * x.toNatClampNeg + i)) x15 (mic x.toNatClampNeg).toNatClampNeg) 1 (x11 / 5) ls vc.1 (Nat.lt_of_lt_of_le vc.2 (Nat.le_of_lt_succ hmI12)) (lv_sub hl [2, 3, 4, 5, 6, 0, 7] rfl)
              · have vc := vc.2 h
                refine lv_iload hx hb d_Mo_matches_114 (lv_at hl 0 rfl) ?_
                refine lv_goto (tgt := 134) hx hb d_Mo_matches_116 (by decide) ?_
                refine lv_istore hx hb d_Mo_matches_134 hl (by decide) (lv' := [(5, .int x17), (7, .int x17), (0, .ref (b 0)), (1, .int x), (2, .int y), (3, .int (2 * (mic x.toNatClampNeg))), (4, .int (mSpr (fun i => mio (6 * x.toNatClampNeg + i)) x15 (mic x.toNatClampNeg).toNatClampNeg)), (6, .int (x11 / 5))]) rfl (fun ls hl => ?_)
                refine lv_goto (tgt := 37) hx hb d_Mo_matches_136 (by decide) ?_
                exact ihI12 (mSpr (fun i => mio (6 * x.toNatClampNeg + i)) x15 (mic x.toNatClampNeg).toNatClampNeg) x17 (x11 / 5) ls vc.1 (Nat.lt_of_lt_of_le vc.2 (Nat.le_of_lt_succ hmI12)) (lv_sub hl [2, 3, 4, 5, 6, 0, 7] rfl)
            clear vc2
            refine lv_icmp_ne (tgt := 102) hx hb d_Mo_matches_95 (by decide) (fun h => ?_) (fun h => ?_)
            · have vc := vc.1 h
              refine lv_iconst (v := 0) hx hb d_Mo_matches_102 (by decide) ?_
              exact jJ16 0 ls vc (lv_sub hl [1, 2, 3, 4, 0, 5, 6] rfl)
            · have vc := vc.2 h
              refine lv_iconst (v := 1) hx hb d_Mo_matches_98 (by decide) ?_
              refine lv_goto (tgt := 103) hx hb d_Mo_matches_99 (by decide) ?_
              exact jJ16 1 ls vc (lv_sub hl [1, 2, 3, 4, 0, 5, 6] rfl)
          clear vc2
          refine lv_if_eq (tgt := 79) hx hb d_Mo_matches_71 (by decide) (fun h => ?_) (fun h => ?_)
          · have vc := vc.1 h
            refine lv_iload hx hb d_Mo_matches_79 (lv_at hl 1 rfl) ?_
            refine lv_iconst (v := 1) hx hb d_Mo_matches_81 (by decide) ?_
            refine lv_ior hx hb d_Mo_matches_82 ?_
            exact jJ14 (z13 ||| 1) ls vc (lv_sub hl [2, 3, 4, 5, 1, 6, 0] rfl)
          · have vc := vc.2 h
            refine lv_iload hx hb d_Mo_matches_74 (lv_at hl 1 rfl) ?_
            refine lv_goto (tgt := 83) hx hb d_Mo_matches_76 (by decide) ?_
            exact jJ14 z13 ls vc (lv_sub hl [2, 3, 4, 5, 1, 6, 0] rfl)
    exact lI12 _ (mSpr (fun i => mio (6 * x.toNatClampNeg + i)) 1 (mic x.toNatClampNeg).toNatClampNeg) x2 y ls vc0 (Nat.lt_succ_self _) (lv_sub hl [2, 3, 4, 5, 6, 1, 0] rfl)
  clear vc2
  refine lv_icmp_ne (tgt := 31) hx hb d_Mo_matches_24 (by decide) (fun h => ?_) (fun h => ?_)
  · have vc := vc.1 h
    refine lv_iconst (v := 0) hx hb d_Mo_matches_31 (by decide) ?_
    exact jJ1 0 ls vc (lv_sub hl [2, 3, 4, 1, 0] rfl)
  · have vc := vc.2 h
    refine lv_iconst (v := 1) hx hb d_Mo_matches_27 (by decide) ?_
    refine lv_goto (tgt := 32) hx hb d_Mo_matches_28 (by decide) ?_
    exact jJ1 1 ls vc (lv_sub hl [2, 3, 4, 1, 0] rfl)
theorem h_Mo_matches (l : Launch) (D : va_G) (b : Nat → Nat) (cI cJ cZ : ClassId) (mki : Nat → Int32) (msz : Nat → Int64) (mle : Nat → Int32) (mel : Nat → Int32) (mme : Nat → Int32) (mal : Nat → Int32) (mic : Nat → Int32) (mil : Nat → Int32) (mio : Nat → Int32) (mab : Nat → Int32) (mae : Nat → Int32) (msa : Nat → Int32) (mlc : Nat → Int32) (mli : Nat → Int32) (mna : Nat → Int32) (mva : Nat → Int32) (mma : Nat → Int32) (mch : Nat → Int32) (mre : Nat → Int32) (mlv : Nat → Int32) (mwr : Nat → Int64) (msh : Nat → Int32) (mth : Int32) (mnv : Int32) (mns : Int32) (mfa : Int32) (mmo : Int32) (x : Int32) (y : Int32) (r : Int32) (hr : narrow .boolean (.int r) = .int r) (vc : V_Mo_matches mki msz mle mel mme mal mic mil mio mab mae msa mlc mli mna mva mma mch mre mlv mwr msh mth mnv mns mfa mmo x y (fun v => v = r)) : Pm l y_Mo_matches b_Mo_matches 8 (some .boolean) 1 29 [.ref (b 0), .int x, .int y] (wB D (tyA cI cJ cZ) (wM b cI cJ cZ mki msz mle mel mme mal mic mil mio mab mae msa mlc mli mna mva mma mch mre mlv mwr msh mth mnv mns mfa mmo)) (.int r) :=
  pm_i (by decide) hr (Nat.le_of_ble_eq_true rfl) (fun p e s m below meth c ls Q S hB hl hret => g_Mo_matches S (Nat.le_refl _) (Nat.le_refl _) ⟨Nat.le_refl _, Nat.le_refl _⟩ D b cI cJ cZ mki msz mle mel mme mal mic mil mio mab mae msa mlc mli mna mva mma mch mre mlv mwr msh mth mnv mns mfa mmo x y hB.2 hB.1 hl vc hret)
theorem c_Mo_matches (l : Launch) (D : va_G) (b : Nat → Nat) (cI cJ cZ : ClassId) (mki : Nat → Int32) (msz : Nat → Int64) (mle : Nat → Int32) (mel : Nat → Int32) (mme : Nat → Int32) (mal : Nat → Int32) (mic : Nat → Int32) (mil : Nat → Int32) (mio : Nat → Int32) (mab : Nat → Int32) (mae : Nat → Int32) (msa : Nat → Int32) (mlc : Nat → Int32) (mli : Nat → Int32) (mna : Nat → Int32) (mva : Nat → Int32) (mma : Nat → Int32) (mch : Nat → Int32) (mre : Nat → Int32) (mlv : Nat → Int32) (mwr : Nat → Int64) (msh : Nat → Int32) (mth : Int32) (mnv : Int32) (mns : Int32) (mfa : Int32) (mmo : Int32) (x : Int32) (y : Int32) (hpre : (vp_in x 8 ∧ (∃ n : Nat, n ≤ 6 ∧ mic x.toNatClampNeg = nI n) ∧ ∃ n : Nat, n < 2 ^ 31 ∧ y = nI n ∧ told 8 n = true)) : Pm l y_Mo_matches b_Mo_matches 8 (some .boolean) 1 29 [.ref (b 0), .int x, .int y] (wB D (tyA cI cJ cZ) (wM b cI cJ cZ mki msz mle mel mme mal mic mil mio mab mae msa mlc mli mna mva mma mch mre mlv mwr msh mth mnv mns mfa mmo)) (.int (bI (mFnd (fun i => mil (6 * x.toNatClampNeg + i)) (fun i => mio (6 * x.toNatClampNeg + i)) (decide (¬ mab x.toNatClampNeg = 0)) (decide (¬ mae x.toNatClampNeg = 0)) (mic x.toNatClampNeg).toNatClampNeg y.toNatClampNeg (sTextLen 8 y.toNatClampNeg)))) := h_Mo_matches l D b cI cJ cZ mki msz mle mel mme mal mic mil mio mab mae msa mlc mli mna mva mma mch mre mlv mwr msh mth mnv mns mfa mmo x y _ (bI_nar _) (by
  unfold V_Mo_matches
  obtain ⟨hx, ⟨n, hn, en⟩, t, ht, rfl, hto⟩ := hpre
  obtain ⟨d1, d2⟩ := told_len 8 t hto
  obtain ⟨q, hq, rfl, hcq⟩ := vp_nat hx (by decide)
  rw [hcq] at en
  have hpn : ∃ n : Nat, n ≤ 6 ∧ mic q = nI n := ⟨n, hn, en⟩
  have i2 : 2 * nI n = nI (2 * n) := by rw [nI_mulL]
  simp only [hcq, en, nI_clamp (show n < 2 ^ 31 by omega), nI_clamp ht, i2, b_and1 _ (show 2 * n < 32 by omega)]
  generalize sTextLen 8 t = L at d1 d2 ⊢
  generalize hO : (fun i => mio (6 * q + i)) = O
  generalize hbg : decide (¬ mab q = 0) = bg
  generalize hae : decide (¬ mae q = 0) = ae
  generalize hI : (fun i => mil (6 * q + i)) = IL
  have hen : ∃ n' : Nat, n' ≤ 6 ∧ nI n = nI n' := ⟨n, hn, rfl⟩
  refine ⟨hx, ⟨hx, hen⟩, ?_⟩
  refine jb_f ?_
  rw [dec_bI1]
  refine ⟨fun z f c => ∃ j, j ≤ L ∧ z = mPlc IL O bg n t j ∧ f = bI (mFnd IL O bg ae n t j) ∧ c = nI (t / 5 ^ j), fun _ _ c => c.toInt.toNat, ⟨0, Nat.zero_le _, rfl, rfl, by simp⟩, ?_⟩
  rintro z f c ⟨j, hj, rfl, rfl, rfl⟩
  have hd := dig_lt t j ht
  refine ⟨fun h2 => ?_, fun h2 => ?_⟩
  · rw [nI_le0 hd] at h2
    rcases Nat.lt_or_ge j L with w | w
    · exact absurd (by rw [h2]) (d1 j w)
    · obtain rfl : j = L := by omega
      rfl
  · rw [nI_le0 hd] at h2
    have hj2 : j < L := by
      rcases Nat.lt_or_ge j L with w | w
      · exact w
      · obtain rfl : j = L := by omega
        exact absurd d2 h2
    have hlt : t / 5 ^ j % 5 < 5 := Nat.mod_lt _ (by decide)
    rw [rem5 hd, dig_m1 (d1 j hj2), nI_clamp (by omega)]
    refine ⟨⟨hx, hen, vp_in_nI (by omega) (by decide)⟩, ?_⟩
    rintro z2 e2
    have eF : (fun i => bt (mil (6 * q + i)) (t / 5 ^ j % 5 - 1)) = fun i => bt (IL i) (t / 5 ^ j % 5 - 1) := by rw [← hI]
    rw [eF] at e2
    refine ⟨hx, ?_⟩
    refine jn_t (c := mab q = 0) ?_
    have e3 : mSpr O (if mab q = 0 then z2 ||| 1 else z2) n = mPlc IL O bg n t (j + 1) := by
      show _ = mSpr O _ n
      rw [← e2, ← hbg]
      by_cases w : mab q = 0 <;> simp [w]
    refine ⟨⟨hx, hen⟩, ?_⟩
    rw [e3]
    refine jb_f ?_
    rw [dec_bI1]
    have m : ∀ f2, f2 = bI (mFnd IL O bg ae n t (j + 1)) → (∃ j2, j2 ≤ L ∧ mPlc IL O bg n t (j + 1) = mPlc IL O bg n t j2 ∧ f2 = bI (mFnd IL O bg ae n t j2) ∧ nI (t / 5 ^ j) / 5 = nI (t / 5 ^ j2)) ∧ (nI (t / 5 ^ j) / 5).toInt.toNat < (nI (t / 5 ^ j)).toInt.toNat := fun f2 e => ⟨⟨j + 1, hj2, rfl, e, by rw [div5 hd, div_pow5]⟩, mu5 hd h2⟩
    refine ⟨hx, fun h3 => ⟨fun h4 => m _ ?_, fun h4 => ⟨fun h5 => m _ ?_, fun h5 => m _ ?_⟩⟩, fun h3 => m _ ?_⟩
    · rw [mFnd_s, bI_ne.mp h4, show ae = false by rw [← hae]; simp [h3]]; rfl
    · rw [mFnd_s, bI0.mp h4, bI0.mp h5, show ae = false by rw [← hae]; simp [h3]]; rfl
    · rw [mFnd_s, bI0.mp h4, bI_ne.mp h5, show ae = false by rw [← hae]; simp [h3]]; rfl
    · rw [mFnd_s, ← hae]; simp [h3])
theorem hd_Mo_matches : y_Mo_matches.cls ≠ "java/lang/invoke/MethodHandle" ∧ y_Mo_matches.cls ≠ "java/lang/invoke/VarHandle" ∧ (parseMethodDescriptor y_Mo_matches.desc).map (fun d => d.parameters.length) = some 2 := ⟨by decide, by decide, by decide +kernel⟩
