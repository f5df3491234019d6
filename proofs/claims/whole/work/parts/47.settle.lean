/-! ===== equality: both sides give the least equal value ===== -/
theorem rall_s {p : Nat → Bool} {k : Nat} : (List.range (k + 1)).all p = ((List.range k).all p && p k) := by simp [List.range_succ]
theorem rall_f {p : Nat → Bool} {k L : Nat} (h : k ≤ L) (hf : (List.range k).all p = false) : (List.range L).all p = false := by
  cases e : (List.range L).all p
  · rfl
  · have : (List.range k).all p = true := all_lt.mpr (fun i hi => all_lt.mp e i (by omega))
    rw [this] at hf; cases hf
/-- parts are lesser -/
def PaOK (pr pa : Nat → Int32) : Prop := ∀ v, v < 40 → ∀ i, i < 12 → bt (pr v) i = true → (pa (v * 12 + i)).toNatClampNeg < v
/-- the twins are right below n -/
def TwOK (ki : Nat → Int32) (co : Nat → Int64) (pr pa tw : Nat → Int32) (n : Nat) : Prop :=
  ∀ v, v < n → ∃ t, t ≤ v ∧ tw v = nI t ∧ (t < v → sAlike ki co pr pa tw v t = true) ∧ ∀ w, w < t → sAlike ki co pr pa tw v w = false
theorem sAlike_congr {ki : Nat → Int32} {co : Nat → Int64} {pr pa tw tw2 : Nat → Int32} (hp : PaOK pr pa) {v w : Nat} (hv : v < 40) (hw : w ≤ v) (h : ∀ j, j < v → tw j = tw2 j) : sAlike ki co pr pa tw v w = sAlike ki co pr pa tw2 v w := by
  unfold sAlike
  by_cases hc : ki v = ki w ∧ co v = co w ∧ pr v = pr w
  · rw [decide_eq_true hc, Bool.true_and, Bool.true_and]
    refine Bool.eq_iff_iff.mpr ?_
    rw [all_lt, all_lt]
    refine forall_congr' (fun i => forall_congr' (fun hi => ?_))
    rw [sBit_bt _ (by omega)]
    cases hb : bt (pr v) i
    · simp
    · have h1 := hp v hv i hi hb
      have h2 := hp w (by omega) i hi (by rw [← hc.2.2]; exact hb)
      rw [h _ h1, h _ (Nat.lt_of_lt_of_le h2 hw)]
  · rw [decide_eq_false hc, Bool.false_and, Bool.false_and]
theorem TwOK_congr {ki : Nat → Int32} {co : Nat → Int64} {pr pa tw tw2 : Nat → Int32} {n : Nat} (hn : n ≤ 40) (hp : PaOK pr pa) (h : ∀ j, j < n → tw j = tw2 j) (ht : TwOK ki co pr pa tw n) : TwOK ki co pr pa tw2 n := by
  intro v hv
  obtain ⟨t, h1, h2, h3, h4⟩ := ht v hv
  refine ⟨t, h1, by rw [← h v hv]; exact h2, fun q => ?_, fun w hw => ?_⟩
  · rw [← sAlike_congr hp (by omega) h1 (fun j hj => h j (by omega))]; exact h3 q
  · rw [← sAlike_congr hp (by omega) (by omega) (fun j hj => h j (by omega))]; exact h4 w hw
theorem TwOK_next {ki : Nat → Int32} {co : Nat → Int64} {pr pa tw tw2 : Nat → Int32} {v t : Nat} (hv : v < 40) (hp : PaOK pr pa) (h : ∀ j, j ≠ v → tw2 j = tw j) (ht : TwOK ki co pr pa tw v) (hl : t ≤ v) (he : tw2 v = nI t) (ha : t < v → sAlike ki co pr pa tw v t = true) (hm : ∀ w, w < t → sAlike ki co pr pa tw v w = false) : TwOK ki co pr pa tw2 (v + 1) := by
  have hc : ∀ j, j < v → tw j = tw2 j := fun j hj => (h j (by omega)).symm
  intro u hu
  by_cases e : u = v
  · subst e
    refine ⟨t, hl, he, fun q => ?_, fun w hw => ?_⟩
    · rw [← sAlike_congr hp hv hl hc]; exact ha q
    · rw [← sAlike_congr hp hv (by omega) hc]; exact hm w hw
  · exact TwOK_congr (by omega) hp hc ht u (by omega)
def V_Va_settle (ki : Nat → Int32) (co : Nat → Int64) (pr : Nat → Int32) (pa : Nat → Int32) (tw : Nat → Int32) (nv : Int32) (sv : Int32) (post : (Nat → Int32) → (Nat → Int64) → (Nat → Int32) → (Nat → Int32) → (Nat → Int32) → Int32 → Int32 → Prop) : Prop :=
  (∃ (I8 : Int32 → (Nat → Int32) → Prop) (mI8 : Int32 → (Nat → Int32) → Nat), I8 sv tw ∧ (∀ (x6 : Int32) (f7 : Nat → Int32), I8 x6 f7 → ((nv ≤ x6 → post ki co pr pa f7 nv nv) ∧ (¬ nv ≤ x6 → (vp_in x6 40 ∧ (∃ (I12 : Int32 → (Nat → Int32) → Prop) (mI12 : Int32 → (Nat → Int32) → Nat), I12 0 (upd f7 x6.toNatClampNeg x6) ∧ (∀ (x10 : Int32) (f11 : Nat → Int32), I12 x10 f11 → ((x6 ≤ x10 → (I8 (x6 + 1) f11 ∧ mI8 (x6 + 1) f11 < mI8 x6 f7)) ∧ (¬ x6 ≤ x10 → (vp_in x6 40 ∧ ((¬ (f11 x6.toNatClampNeg) = x6 → (I8 (x6 + 1) f11 ∧ mI8 (x6 + 1) f11 < mI8 x6 f7)) ∧ ((f11 x6.toNatClampNeg) = x6 → ((vp_in x6 40 ∧ vp_in x10 40 ∧ ∀ j : Nat, j < 480 → vp_in (pa j) 40) ∧ (((bI (sAlike ki co pr pa f11 x6.toNatClampNeg x10.toNatClampNeg)) = 0 → (I12 (x10 + 1) f11 ∧ mI12 (x10 + 1) f11 < mI12 x10 f11)) ∧ (¬ (bI (sAlike ki co pr pa f11 x6.toNatClampNeg x10.toNatClampNeg)) = 0 → (vp_in x6 40 ∧ (I12 (x10 + 1) (upd f11 x6.toNatClampNeg x10) ∧ mI12 (x10 + 1) (upd f11 x6.toNatClampNeg x10) < mI12 x10 f11)))))))))))))))))
set_option maxHeartbeats 4000000 in
set_option maxRecDepth 100000 in
theorem g_Va_settle {p : Program} {l : Launch} {e : Env} {R : Room} {s : State} {m : MethodId} {args : Array Value} {below : List Frame} {meth : Method} {c : Code} {H : Heap} {locs : List Loc} {cells slots : Nat} {Q : State → Prop} {ls : Array Slot} {A : Nat → Prop} (S : CallFix p m c b_Va_settle 3 s args W0 R_Va) (hRf : 2 ≤ R.frames) (hRl : 45 ≤ R.locals) (hRc : cells ≤ R.cells ∧ slots ≤ R.slots) (D : va_G) (a : Nat → Nat) (cI cJ cZ : ClassId) (ki : Nat → Int32) (co : Nat → Int64) (pr : Nat → Int32) (pa : Nat → Int32) (tw : Nat → Int32) (nv : Int32) (sv : Int32) (hK : va_K D vwCl (tyA cI cJ cZ) s) (hP : va_P D vwCl (wV a cI cJ ki co pr pa tw nv sv) H) (hD : va_D A (wV a cI cJ ki co pr pa tw nv sv)) (hA : ∀ q, s.heap.size ≤ q → A q) (hS : va_S A s.heap H locs) (hl : lv_has ls 3 [(0, .ref (a 0))]) {post : (Nat → Int32) → (Nat → Int64) → (Nat → Int32) → (Nat → Int32) → (Nat → Int32) → Int32 → Int32 → Prop} (vc : V_Va_settle ki co pr pa tw nv sv post)
    (hret : ∀ (ki : Nat → Int32) (co : Nat → Int64) (pr : Nat → Int32) (pa : Nat → Int32) (tw : Nat → Int32) (nv : Int32) (sv : Int32) (ls : Array Slot) (pc : Nat) (H : Heap) (locs : List Loc), decode b_Va_settle pc = .ok (.return_, 1) → post ki co pr pa tw nv sv → va_P D vwCl (wV a cI cJ ki co pr pa tw nv sv) H → va_D A (wV a cI cJ ki co pr pa tw nv sv) → va_S A s.heap H locs → W p l e R s m args below meth c H locs cells slots Q (F0 m pc ls [])) : W p l e R s m args below meth c H locs cells slots Q (F0 m 0 ls []) := by
  have hx := S.1
  have hb := S.2.1
  have hown := S.2.2.2.1
  have hts := S.2.2.2.2
  unfold V_Va_settle at vc
  refine lv_aload_n hx hb d_Va_settle_0 rfl (lv_at hl 0 rfl) ?_
  refine va_get (D := D) (ci := 4) (v := .int sv) (C := R_Va) (T := F_Va) (N := 7) hx hb hts in_Va hown hK hP 0 rfl rfl 6 (by decide) (hts _ fl_Va_34) (fun _ h => h) rfl d_Va_settle_1 ?_
  refine lv_istore_n hx hb d_Va_settle_4 rfl hl (by decide) (lv' := [(1, .int sv), (0, .ref (a 0))]) rfl (fun ls hl => ?_)
  obtain ⟨I8, mI8, vc0, vcs⟩ := vc
  have lI8 : ∀ n : Nat, ∀ (x6 : Int32) (f7 : Nat → Int32) (ls : Array Slot) (H : Heap) (locs : List Loc), I8 x6 f7 → mI8 x6 f7 < n → lv_has ls 3 [(0, .ref (a 0)), (1, .int x6)] → va_P D vwCl (wV a cI cJ ki co pr pa f7 nv sv) H → va_D A (wV a cI cJ ki co pr pa f7 nv sv) → va_S A s.heap H locs → W p l e R s m args below meth c H locs cells slots Q (F0 m 5 ls []) := by
    intro n
    induction n with
    | zero => intro x6 f7 ls H locs _ h; exact absurd h (Nat.not_lt_zero _)
    | succ n ihI8 =>
      intro x6 f7 ls H locs vc hmI8 hl hP hD hS
      have vc := vcs x6 f7 vc
      refine lv_iload_n hx hb d_Va_settle_5 rfl (lv_at hl 1 rfl) ?_
      refine lv_aload_n hx hb d_Va_settle_6 rfl (lv_at hl 0 rfl) ?_
      refine va_get (D := D) (ci := 4) (v := .int nv) (C := R_Va) (T := F_Va) (N := 7) hx hb hts in_Va hown hK hP 0 rfl rfl 5 (by decide) (hts _ fl_Va_26) (fun _ h => h) rfl d_Va_settle_7 ?_
      refine lv_icmp_ge (tgt := 65) hx hb d_Va_settle_10 (by decide) (fun h => ?_) (fun h => ?_)
      · have vc := vc.1 h
        refine lv_aload_n hx hb d_Va_settle_65 rfl (lv_at hl 0 rfl) ?_
        refine lv_aload_n hx hb d_Va_settle_66 rfl (lv_at hl 0 rfl) ?_
        refine va_get (D := D) (ci := 4) (v := .int nv) (C := R_Va) (T := F_Va) (N := 7) hx hb hts in_Va hown hK hP 0 rfl rfl 5 (by decide) (hts _ fl_Va_26) (fun _ h => h) rfl d_Va_settle_67 ?_
        refine va_put (D := D) (ci := 4) (v := .int nv) (ty := .int) (C := R_Va) (T := F_Va) (N := 7) hx hb hts in_Va t_Va t_Va_ok n_Va hown hK hP hD hS 0 rfl rfl 6 (by decide) (hts _ fl_Va_34) (fun _ h => h) rfl (by decide +kernel) rfl rfl (Nat.le_of_ble_eq_true rfl) d_Va_settle_70 (fun H locs hP hD hS => ?_)
        have hP : va_P D vwCl (wV a cI cJ ki co pr pa f7 nv nv) H := hP
        have hD : va_D A (wV a cI cJ ki co pr pa f7 nv nv) := hD
        exact hret _ _ _ _ _ _ _ ls _ H locs d_Va_settle_73 vc hP hD hS
      · have vc := vc.2 h
        refine lv_aload_n hx hb d_Va_settle_13 rfl (lv_at hl 0 rfl) ?_
        refine va_get (D := D) (ci := 4) (v := .ref (a 5)) (C := R_Va) (T := F_Va) (N := 7) hx hb hts in_Va hown hK hP 0 rfl rfl 4 (by decide) (hts _ fl_Va_23) (fun _ h => h) rfl d_Va_settle_14 ?_
        refine lv_iload_n hx hb d_Va_settle_17 rfl (lv_at hl 1 rfl) ?_
        refine lv_iload_n hx hb d_Va_settle_18 rfl (lv_at hl 1 rfl) ?_
        obtain ⟨vcb, vc⟩ := vc
        refine va_iast hx hb hK hP hD hS 5 0 rfl rfl vcb d_Va_settle_19 (fun H locs hP hD hS => ?_)
        have hP : va_P D vwCl (wV a cI cJ ki co pr pa (upd f7 x6.toNatClampNeg x6) nv sv) H := hP
        have hD : va_D A (wV a cI cJ ki co pr pa (upd f7 x6.toNatClampNeg x6) nv sv) := hD
        refine lv_iconst (v := 0) hx hb d_Va_settle_20 (by decide) ?_
        refine lv_istore_n hx hb d_Va_settle_21 rfl hl (by decide) (lv' := [(2, .int 0), (0, .ref (a 0)), (1, .int x6)]) rfl (fun ls hl => ?_)
        obtain ⟨I12, mI12, vc0, vcs⟩ := vc
        have lI12 : ∀ n : Nat, ∀ (x10 : Int32) (f11 : Nat → Int32) (ls : Array Slot) (H : Heap) (locs : List Loc), I12 x10 f11 → mI12 x10 f11 < n → lv_has ls 3 [(0, .ref (a 0)), (1, .int x6), (2, .int x10)] → va_P D vwCl (wV a cI cJ ki co pr pa f11 nv sv) H → va_D A (wV a cI cJ ki co pr pa f11 nv sv) → va_S A s.heap H locs → W p l e R s m args below meth c H locs cells slots Q (F0 m 22 ls []) := by
          intro n
          induction n with
          | zero => intro x10 f11 ls H locs _ h; exact absurd h (Nat.not_lt_zero _)
          | succ n ihI12 =>
            intro x10 f11 ls H locs vc hmI12 hl hP hD hS
            have vc := vcs x10 f11 vc
            refine lv_iload_n hx hb d_Va_settle_22 rfl (lv_at hl 2 rfl) ?_
            refine lv_iload_n hx hb d_Va_settle_23 rfl (lv_at hl 1 rfl) ?_
            refine lv_icmp_ge (tgt := 59) hx hb d_Va_settle_24 (by decide) (fun h => ?_) (fun h => ?_)
            · have vc := vc.1 h
              refine lv_iinc (k := 1) (v := x6 + 1) hx hb d_Va_settle_59 hl rfl rfl (by decide) (lv' := [(1, .int (x6 + 1)), (0, .ref (a 0)), (2, .int x10)]) rfl (fun ls hl => ?_)
              refine lv_goto (tgt := 5) hx hb d_Va_settle_62 (by decide) ?_
              exact ihI8 (x6 + 1) f11 ls H locs vc.1 (Nat.lt_of_lt_of_le vc.2 (Nat.le_of_lt_succ hmI8)) (lv_sub hl [1, 0] rfl) hP hD hS
            · have vc := vc.2 h
              refine lv_aload_n hx hb d_Va_settle_27 rfl (lv_at hl 0 rfl) ?_
              refine va_get (D := D) (ci := 4) (v := .ref (a 5)) (C := R_Va) (T := F_Va) (N := 7) hx hb hts in_Va hown hK hP 0 rfl rfl 4 (by decide) (hts _ fl_Va_23) (fun _ h => h) rfl d_Va_settle_28 ?_
              refine lv_iload_n hx hb d_Va_settle_31 rfl (lv_at hl 1 rfl) ?_
              obtain ⟨vcb, vc⟩ := vc
              refine va_iald hx hb hK hP 5 0 rfl rfl vcb d_Va_settle_32 ?_
              refine lv_iload_n hx hb d_Va_settle_33 rfl (lv_at hl 1 rfl) ?_
              refine lv_icmp_ne (tgt := 59) hx hb d_Va_settle_34 (by decide) (fun h => ?_) (fun h => ?_)
              · have vc := vc.1 h
                refine lv_iinc (k := 1) (v := x6 + 1) hx hb d_Va_settle_59 hl rfl rfl (by decide) (lv' := [(1, .int (x6 + 1)), (0, .ref (a 0)), (2, .int x10)]) rfl (fun ls hl => ?_)
                refine lv_goto (tgt := 5) hx hb d_Va_settle_62 (by decide) ?_
                exact ihI8 (x6 + 1) f11 ls H locs vc.1 (Nat.lt_of_lt_of_le vc.2 (Nat.le_of_lt_succ hmI8)) (lv_sub hl [1, 0] rfl) hP hD hS
              · have vc := vc.2 h
                refine lv_aload_n hx hb d_Va_settle_37 rfl (lv_at hl 0 rfl) ?_
                refine lv_iload_n hx hb d_Va_settle_38 rfl (lv_at hl 1 rfl) ?_
                refine lv_iload_n hx hb d_Va_settle_39 rfl (lv_at hl 2 rfl) ?_
                obtain ⟨hpre, vc⟩ := vc
                refine pc_V (As := [.int x6, .int x10]) (rest := []) S (c_Va_areAlike l D a cI cJ cZ ki co pr pa f11 nv sv x6 x10 hpre) wB_blind k_Va_areAlike i_Va_areAlike e_Va_areAlike o_Va ml_Va_55 hd_Va_areAlike (Nat.le_trans (by decide) hRf) (Nat.le_trans (by decide) hRl) hRc (va_recv hK hP (q0 := 0) (ci := 4) rfl rfl) (wB_at hP hK) hl.1 rfl (Nat.le_of_ble_eq_true rfl) d_Va_settle_40 ?_
                refine lv_if_eq (tgt := 53) hx hb d_Va_settle_43 (by decide) (fun h => ?_) (fun h => ?_)
                · have vc := vc.1 h
                  refine lv_iinc (k := 2) (v := x10 + 1) hx hb d_Va_settle_53 hl rfl rfl (by decide) (lv' := [(2, .int (x10 + 1)), (0, .ref (a 0)), (1, .int x6)]) rfl (fun ls hl => ?_)
                  refine lv_goto (tgt := 22) hx hb d_Va_settle_56 (by decide) ?_
                  exact ihI12 (x10 + 1) f11 ls H locs vc.1 (Nat.lt_of_lt_of_le vc.2 (Nat.le_of_lt_succ hmI12)) (lv_sub hl [1, 2, 0] rfl) hP hD hS
                · have vc := vc.2 h
                  refine lv_aload_n hx hb d_Va_settle_46 rfl (lv_at hl 0 rfl) ?_
                  refine va_get (D := D) (ci := 4) (v := .ref (a 5)) (C := R_Va) (T := F_Va) (N := 7) hx hb hts in_Va hown hK hP 0 rfl rfl 4 (by decide) (hts _ fl_Va_23) (fun _ h => h) rfl d_Va_settle_47 ?_
                  refine lv_iload_n hx hb d_Va_settle_50 rfl (lv_at hl 1 rfl) ?_
                  refine lv_iload_n hx hb d_Va_settle_51 rfl (lv_at hl 2 rfl) ?_
                  obtain ⟨vcb, vc⟩ := vc
                  refine va_iast hx hb hK hP hD hS 5 0 rfl rfl vcb d_Va_settle_52 (fun H locs hP hD hS => ?_)
                  have hP : va_P D vwCl (wV a cI cJ ki co pr pa (upd f11 x6.toNatClampNeg x10) nv sv) H := hP
                  have hD : va_D A (wV a cI cJ ki co pr pa (upd f11 x6.toNatClampNeg x10) nv sv) := hD
                  refine lv_iinc (k := 2) (v := x10 + 1) hx hb d_Va_settle_53 hl rfl rfl (by decide) (lv' := [(2, .int (x10 + 1)), (0, .ref (a 0)), (1, .int x6)]) rfl (fun ls hl => ?_)
                  refine lv_goto (tgt := 22) hx hb d_Va_settle_56 (by decide) ?_
                  exact ihI12 (x10 + 1) (upd f11 x6.toNatClampNeg x10) ls H locs vc.1 (Nat.lt_of_lt_of_le vc.2 (Nat.le_of_lt_succ hmI12)) (lv_sub hl [1, 2, 0] rfl) hP hD hS
        exact lI12 _ 0 (upd f7 x6.toNatClampNeg x6) ls H locs vc0 (Nat.lt_succ_self _) (lv_sub hl [1, 2, 0] rfl) hP hD hS
  exact lI8 _ sv tw ls H locs vc0 (Nat.lt_succ_self _) (lv_sub hl [1, 0] rfl) hP hD hS
set_option maxHeartbeats 4000000 in
theorem v_Va_settle (ki : Nat → Int32) (co : Nat → Int64) (pr : Nat → Int32) (pa : Nat → Int32) (tw : Nat → Int32) (nv : Int32) (sv : Int32) (hpre : (∃ n k : Nat, n ≤ 40 ∧ k ≤ n ∧ nv = nI n ∧ sv = nI k ∧ (∀ j : Nat, j < 480 → vp_in (pa j) 40) ∧ PaOK pr pa ∧ TwOK ki co pr pa tw k)) : V_Va_settle ki co pr pa tw nv sv (fun ki' co' pr' pa' tw' nv' sv' => (∀ n : Nat, nv = nI n → n ≤ 40 → TwOK ki co pr pa tw' n ∧ sv' = nv) ∧ ki' = ki ∧ co' = co ∧ pr' = pr ∧ pa' = pa ∧ nv' = nv) := by
  unfold V_Va_settle
  obtain ⟨n, k0, hn, hk0, rfl, rfl, hpa, hp, ht⟩ := hpre
  refine ⟨fun x f => ∃ v, v ≤ n ∧ x = nI v ∧ TwOK ki co pr pa f v, fun x _ => n - x.toInt.toNat, ⟨k0, hk0, rfl, ht⟩, ?_⟩
  rintro x f ⟨v, hv, rfl, hf⟩
  refine ⟨fun h => ?_, fun h => ?_⟩
  · obtain rfl := fill_end (N := n) h (by omega) hv
    refine ⟨fun n2 e hn2 => ?_, rfl, rfl, rfl, rfl, rfl⟩
    rw [nI_eq (by omega) (by omega)] at e
    subst e; exact ⟨hf, rfl⟩
  · have hv2 := fill_step (N := n) h (by omega) hv
    have hin : vp_in (nI v) 40 := vp_in_nI (by omega) (by decide)
    rw [nI_clamp (by omega)]
    have fin : ∀ {f2 : Nat → Int32} {t : Nat}, (∀ j, j ≠ v → f2 j = f j) → t ≤ v → f2 v = nI t → (t < v → sAlike ki co pr pa f v t = true) → (∀ w, w < t → sAlike ki co pr pa f v w = false) → (∃ v1, v1 ≤ n ∧ nI v + 1 = nI v1 ∧ TwOK ki co pr pa f2 v1) ∧ n - (nI v + 1).toInt.toNat < n - (nI v).toInt.toNat := fun a1 a2 a3 a4 a5 => ⟨⟨v + 1, hv2, nI_1 v, TwOK_next (by omega) hp a1 hf a2 a3 a4 a5⟩, fill_mu hv2 (by omega)⟩
    refine ⟨hin, fun x f2 => ∃ w t, w ≤ v ∧ x = nI w ∧ (∀ j, j ≠ v → f2 j = f j) ∧ f2 v = nI t ∧ t ≤ v ∧ (t < v → sAlike ki co pr pa f v t = true) ∧ (∀ u, u < t → u < w → sAlike ki co pr pa f v u = false) ∧ (t < v → t < w), fun x _ => v - x.toInt.toNat, ⟨0, v, Nat.zero_le _, rfl, fun j hj => upd_ne hj, upd_at, Nat.le_refl _, fun q => absurd q (Nat.lt_irrefl _), fun u _ q => absurd q (Nat.not_lt_zero _), fun q => absurd q (Nat.lt_irrefl _)⟩, ?_⟩
    rintro x f2 ⟨w, t, hw, rfl, g1, g2, g3, g4, g5, g6⟩
    refine ⟨fun h2 => ?_, fun h2 => ⟨hin, fun h3 => ?_, fun h3 => ?_⟩⟩
    · obtain rfl := fill_end (N := v) h2 (by omega) hw
      exact fin g1 g3 g2 g4 (fun u hu => g5 u hu (by omega))
    · rw [g2] at h3
      have htv : t < v := by
        rcases Nat.lt_or_ge t v with q | q
        · exact q
        · exact absurd (by rw [Nat.le_antisymm g3 q]) h3
      exact fin g1 g3 g2 g4 (fun u hu => g5 u hu (by have := g6 htv; omega))
    · have hw2 := fill_step (N := v) h2 (by omega) hw
      rw [g2, nI_eq (by omega) (by omega)] at h3
      subst h3
      rw [nI_clamp (n := w) (by omega), ← sAlike_congr (tw := f) hp (by omega) hw (fun j hj => (g1 j (by omega)).symm)]
      refine ⟨⟨hin, vp_in_nI (by omega) (by decide), hpa⟩, fun h4 => ⟨⟨w + 1, t, hw2, nI_1 w, g1, g2, g3, g4, fun u h5 h6 => ?_, fun q => absurd q (Nat.lt_irrefl _)⟩, fill_mu hw2 (by omega)⟩, fun h4 => ⟨hin, ⟨w + 1, w, hw2, nI_1 w, fun j hj => by rw [upd_ne hj]; exact g1 j hj, upd_at, hw, fun _ => ?_, fun u h5 h6 => g5 u (by omega) h5, fun _ => Nat.lt_succ_self w⟩, fill_mu hw2 (by omega)⟩⟩
      · by_cases e : u = w
        · subst e; exact bI0.mp h4
        · exact g5 u h5 (by omega)
      · cases e : sAlike ki co pr pa f t w
        · rw [e] at h4; exact absurd rfl h4
        · rfl
theorem c_Va_settle (l : Launch) (D : va_G) (a : Nat → Nat) (cI cJ cZ : ClassId) (ki : Nat → Int32) (co : Nat → Int64) (pr : Nat → Int32) (pa : Nat → Int32) (tw : Nat → Int32) (nv : Int32) (sv : Int32) (hpre : (∃ n k : Nat, n ≤ 40 ∧ k ≤ n ∧ nv = nI n ∧ sv = nI k ∧ (∀ j : Nat, j < 480 → vp_in (pa j) 40) ∧ PaOK pr pa ∧ TwOK ki co pr pa tw k)) : Wm (S := (Nat → Int32) × Int32) l y_Va_settle b_Va_settle 3 none 2 45 [.ref (a 0)] D (tyA cI cJ cZ) (wV a cI cJ ki co pr pa tw nv sv) (fun uu => ∀ n : Nat, nv = nI n → n ≤ 40 → TwOK ki co pr pa uu.1 n ∧ uu.2 = nv) (fun uu => none) (fun uu => (wV a cI cJ ki co pr pa uu.1 nv uu.2)) :=
  wm_v (by decide) (Nat.le_of_ble_eq_true rfl) (fun p e s m below meth c ls Q A S hK hP hD hA hS hl hret => g_Va_settle S (Nat.le_refl _) (Nat.le_refl _) ⟨Nat.le_refl _, Nat.le_refl _⟩ D a cI cJ cZ ki co pr pa tw nv sv hK hP hD hA hS hl (v_Va_settle ki co pr pa tw nv sv hpre) (fun ki' co' pr' pa' tw' nv' sv' ls1 pc H1 locs1 hd hv hP1 hD1 hS1 => by obtain ⟨hp, rfl, rfl, rfl, rfl, rfl⟩ := hv; exact hret (tw', sv') ls1 pc H1 locs1 hd hp hP1 hD1 hS1))
theorem hd_Va_settle : y_Va_settle.cls ≠ "java/lang/invoke/MethodHandle" ∧ y_Va_settle.cls ≠ "java/lang/invoke/VarHandle" ∧ (parseMethodDescriptor y_Va_settle.desc).map (fun d => d.parameters.length) = some 0 := ⟨by decide, by decide, by decide +kernel⟩
