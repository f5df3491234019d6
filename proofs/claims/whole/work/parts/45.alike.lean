theorem lg_eq0 {x y : Int64} : lg_cmp x y = 0 ↔ x = y := by
  unfold lg_cmp
  by_cases h : x = y
  · subst h; simp
  · simp only [h, if_false, iff_false]
    split <;> decide
def sAlike (ki : Nat → Int32) (co : Nat → Int64) (pr pa tw : Nat → Int32) (v w : Nat) : Bool :=
  decide (ki v = ki w ∧ co v = co w ∧ pr v = pr w) && (List.range 12).all (fun i => !(sBit (pr v) (nI i)) || decide (tw (pa (v * 12 + i)).toNatClampNeg = tw (pa (w * 12 + i)).toNatClampNeg))
theorem all_lt {p : Nat → Bool} {n : Nat} : (List.range n).all p = true ↔ ∀ i, i < n → p i = true := by simp [List.all_eq_true]
def V_Va_areAlike (ki : Nat → Int32) (co : Nat → Int64) (pr : Nat → Int32) (pa : Nat → Int32) (tw : Nat → Int32) (nv : Int32) (sv : Int32) (x : Int32) (y : Int32) (post : Int32 → Prop) : Prop :=
  (vp_in x 40 ∧ (vp_in y 40 ∧ ((¬ (ki x.toNatClampNeg) = (ki y.toNatClampNeg) → post 0) ∧ ((ki x.toNatClampNeg) = (ki y.toNatClampNeg) → (vp_in x 40 ∧ (vp_in y 40 ∧ ((¬ (lg_cmp (co x.toNatClampNeg) (co y.toNatClampNeg)) = 0 → post 0) ∧ ((lg_cmp (co x.toNatClampNeg) (co y.toNatClampNeg)) = 0 → (vp_in x 40 ∧ (vp_in y 40 ∧ (((pr x.toNatClampNeg) = (pr y.toNatClampNeg) → (∃ (I3 : Int32 → Prop) (mI3 : Int32 → Nat), I3 0 ∧ (∀ (x2 : Int32), I3 x2 → ((12 ≤ x2 → post 1) ∧ (¬ 12 ≤ x2 → (vp_in x 40 ∧ (((bI (sBit (pr x.toNatClampNeg) x2)) = 0 → (I3 (x2 + 1) ∧ mI3 (x2 + 1) < mI3 x2)) ∧ (¬ (bI (sBit (pr x.toNatClampNeg) x2)) = 0 → (vp_in (x * 12 + x2) 480 ∧ (vp_in (y * 12 + x2) 480 ∧ ((vp_in (pa (x * 12 + x2 : Int32).toNatClampNeg) 40 ∧ vp_in (pa (y * 12 + x2 : Int32).toNatClampNeg) 40) ∧ ((¬ (bI (decide (tw (pa (x * 12 + x2 : Int32).toNatClampNeg : Int32).toNatClampNeg = tw (pa (y * 12 + x2 : Int32).toNatClampNeg : Int32).toNatClampNeg))) = 0 → (I3 (x2 + 1) ∧ mI3 (x2 + 1) < mI3 x2)) ∧ ((bI (decide (tw (pa (x * 12 + x2 : Int32).toNatClampNeg : Int32).toNatClampNeg = tw (pa (y * 12 + x2 : Int32).toNatClampNeg : Int32).toNatClampNeg))) = 0 → post 0))))))))))))) ∧ (¬ (pr x.toNatClampNeg) = (pr y.toNatClampNeg) → post 0))))))))))))
set_option maxHeartbeats 4000000 in
set_option maxRecDepth 100000 in
theorem g_Va_areAlike {p : Program} {l : Launch} {e : Env} {R : Room} {s : State} {m : MethodId} {args : Array Value} {below : List Frame} {meth : Method} {c : Code} {H : Heap} {locs : List Loc} {cells slots : Nat} {Q : State → Prop} {ls : Array Slot} (S : CallFix p m c b_Va_areAlike 4 s args W0 R_Va) (hRf : 1 ≤ R.frames) (hRl : 22 ≤ R.locals) (hRc : cells ≤ R.cells ∧ slots ≤ R.slots) (D : va_G) (a : Nat → Nat) (cI cJ cZ : ClassId) (ki : Nat → Int32) (co : Nat → Int64) (pr : Nat → Int32) (pa : Nat → Int32) (tw : Nat → Int32) (nv : Int32) (sv : Int32) (x : Int32) (y : Int32) (hK : va_K D vwCl (tyA cI cJ cZ) s) (hP : va_P D vwCl (wV a cI cJ ki co pr pa tw nv sv) H) (hl : lv_has ls 4 [(0, .ref (a 0)), (1, .int x), (2, .int y)]) {post : Int32 → Prop} (vc : V_Va_areAlike ki co pr pa tw nv sv x y post)
    (hret : ∀ (v : Int32) (ls : Array Slot) (pc : Nat), decode b_Va_areAlike pc = .ok (.ireturn, 1) → post v → W p l e R s m args below meth c H locs cells slots Q (F0 m pc ls [.int v])) : W p l e R s m args below meth c H locs cells slots Q (F0 m 0 ls []) := by
  have hx := S.1
  have hb := S.2.1
  have hown := S.2.2.2.1
  have hts := S.2.2.2.2
  unfold V_Va_areAlike at vc
  refine lv_aload_n hx hb d_Va_areAlike_0 rfl (lv_at hl 0 rfl) ?_
  refine va_get (D := D) (ci := 4) (v := .ref (a 1)) (C := R_Va) (T := F_Va) (N := 7) hx hb hts in_Va hown hK hP 0 rfl rfl 0 (by decide) (hts _ fl_Va_9) (fun _ h => h) rfl d_Va_areAlike_1 ?_
  refine lv_iload_n hx hb d_Va_areAlike_4 rfl (lv_at hl 1 rfl) ?_
  obtain ⟨vcb, vc⟩ := vc
  refine va_iald hx hb hK hP 1 0 rfl rfl vcb d_Va_areAlike_5 ?_
  refine lv_aload_n hx hb d_Va_areAlike_6 rfl (lv_at hl 0 rfl) ?_
  refine va_get (D := D) (ci := 4) (v := .ref (a 1)) (C := R_Va) (T := F_Va) (N := 7) hx hb hts in_Va hown hK hP 0 rfl rfl 0 (by decide) (hts _ fl_Va_9) (fun _ h => h) rfl d_Va_areAlike_7 ?_
  refine lv_iload_n hx hb d_Va_areAlike_10 rfl (lv_at hl 2 rfl) ?_
  obtain ⟨vcb, vc⟩ := vc
  refine va_iald hx hb hK hP 1 0 rfl rfl vcb d_Va_areAlike_11 ?_
  refine lv_icmp_ne (tgt := 46) hx hb d_Va_areAlike_12 (by decide) (fun h => ?_) (fun h => ?_)
  · have vc := vc.1 h
    refine lv_iconst (v := 0) hx hb d_Va_areAlike_46 (by decide) ?_
    exact hret _ ls _ d_Va_areAlike_47 vc
  · have vc := vc.2 h
    refine lv_aload_n hx hb d_Va_areAlike_15 rfl (lv_at hl 0 rfl) ?_
    refine va_get (D := D) (ci := 4) (v := .ref (a 2)) (C := R_Va) (T := F_Va) (N := 7) hx hb hts in_Va hown hK hP 0 rfl rfl 1 (by decide) (hts _ fl_Va_13) (fun _ h => h) rfl d_Va_areAlike_16 ?_
    refine lv_iload_n hx hb d_Va_areAlike_19 rfl (lv_at hl 1 rfl) ?_
    obtain ⟨vcb, vc⟩ := vc
    refine va_lald hx hb hK hP 2 1 rfl rfl vcb d_Va_areAlike_20 ?_
    refine lv_aload_n hx hb d_Va_areAlike_21 rfl (lv_at hl 0 rfl) ?_
    refine va_get (D := D) (ci := 4) (v := .ref (a 2)) (C := R_Va) (T := F_Va) (N := 7) hx hb hts in_Va hown hK hP 0 rfl rfl 1 (by decide) (hts _ fl_Va_13) (fun _ h => h) rfl d_Va_areAlike_22 ?_
    refine lv_iload_n hx hb d_Va_areAlike_25 rfl (lv_at hl 2 rfl) ?_
    obtain ⟨vcb, vc⟩ := vc
    refine va_lald hx hb hK hP 2 1 rfl rfl vcb d_Va_areAlike_26 ?_
    refine W.lcmp hx hb d_Va_areAlike_27 ?_
    refine lv_if_ne (tgt := 46) hx hb d_Va_areAlike_28 (by decide) (fun h => ?_) (fun h => ?_)
    · have vc := vc.1 h
      refine lv_iconst (v := 0) hx hb d_Va_areAlike_46 (by decide) ?_
      exact hret _ ls _ d_Va_areAlike_47 vc
    · have vc := vc.2 h
      refine lv_aload_n hx hb d_Va_areAlike_31 rfl (lv_at hl 0 rfl) ?_
      refine va_get (D := D) (ci := 4) (v := .ref (a 3)) (C := R_Va) (T := F_Va) (N := 7) hx hb hts in_Va hown hK hP 0 rfl rfl 2 (by decide) (hts _ fl_Va_17) (fun _ h => h) rfl d_Va_areAlike_32 ?_
      refine lv_iload_n hx hb d_Va_areAlike_35 rfl (lv_at hl 1 rfl) ?_
      obtain ⟨vcb, vc⟩ := vc
      refine va_iald hx hb hK hP 3 0 rfl rfl vcb d_Va_areAlike_36 ?_
      refine lv_aload_n hx hb d_Va_areAlike_37 rfl (lv_at hl 0 rfl) ?_
      refine va_get (D := D) (ci := 4) (v := .ref (a 3)) (C := R_Va) (T := F_Va) (N := 7) hx hb hts in_Va hown hK hP 0 rfl rfl 2 (by decide) (hts _ fl_Va_17) (fun _ h => h) rfl d_Va_areAlike_38 ?_
      refine lv_iload_n hx hb d_Va_areAlike_41 rfl (lv_at hl 2 rfl) ?_
      obtain ⟨vcb, vc⟩ := vc
      refine va_iald hx hb hK hP 3 0 rfl rfl vcb d_Va_areAlike_42 ?_
      refine lv_icmp_eq (tgt := 48) hx hb d_Va_areAlike_43 (by decide) (fun h => ?_) (fun h => ?_)
      · have vc := vc.1 h
        refine lv_iconst (v := 0) hx hb d_Va_areAlike_48 (by decide) ?_
        refine lv_istore_n hx hb d_Va_areAlike_49 rfl hl (by decide) (lv' := [(3, .int 0), (0, .ref (a 0)), (1, .int x), (2, .int y)]) rfl (fun ls hl => ?_)
        obtain ⟨I3, mI3, vc0, vcs⟩ := vc
        have lI3 : ∀ n : Nat, ∀ (x2 : Int32) (ls : Array Slot), I3 x2 → mI3 x2 < n → lv_has ls 4 [(0, .ref (a 0)), (1, .int x), (2, .int y), (3, .int x2)] → W p l e R s m args below meth c H locs cells slots Q (F0 m 50 ls []) := by
          intro n
          induction n with
          | zero => intro x2 ls _ h; exact absurd h (Nat.not_lt_zero _)
          | succ n ihI3 =>
            intro x2 ls vc hmI3 hl
            have vc := vcs x2 vc
            refine lv_iload_n hx hb d_Va_areAlike_50 rfl (lv_at hl 3 rfl) ?_
            refine lv_bipush (v := 12) hx hb d_Va_areAlike_51 (by decide) ?_
            refine lv_icmp_ge (tgt := 92) hx hb d_Va_areAlike_53 (by decide) (fun h => ?_) (fun h => ?_)
            · have vc := vc.1 h
              refine lv_iconst (v := 1) hx hb d_Va_areAlike_92 (by decide) ?_
              exact hret _ ls _ d_Va_areAlike_93 vc
            · have vc := vc.2 h
              refine lv_aload_n hx hb d_Va_areAlike_56 rfl (lv_at hl 0 rfl) ?_
              refine lv_iload_n hx hb d_Va_areAlike_57 rfl (lv_at hl 1 rfl) ?_
              refine lv_iload_n hx hb d_Va_areAlike_58 rfl (lv_at hl 3 rfl) ?_
              obtain ⟨hpre, vc⟩ := vc
              refine pc_V (As := [.int x, .int x2]) (rest := []) S (c_Va_isPresent l D a cI cJ cZ ki co pr pa tw nv sv x x2 hpre) wB_blind k_Va_isPresent i_Va_isPresent e_Va_isPresent o_Va ml_Va_59 hd_Va_isPresent (Nat.le_trans (by decide) hRf) (Nat.le_trans (by decide) hRl) hRc (va_recv hK hP (q0 := 0) (ci := 4) rfl rfl) (wB_at hP hK) hl.1 rfl (Nat.le_of_ble_eq_true rfl) d_Va_areAlike_59 ?_
              refine lv_if_eq (tgt := 86) hx hb d_Va_areAlike_62 (by decide) (fun h => ?_) (fun h => ?_)
              · have vc := vc.1 h
                refine lv_iinc (k := 3) (v := x2 + 1) hx hb d_Va_areAlike_86 hl rfl rfl (by decide) (lv' := [(3, .int (x2 + 1)), (0, .ref (a 0)), (1, .int x), (2, .int y)]) rfl (fun ls hl => ?_)
                refine lv_goto (tgt := 50) hx hb d_Va_areAlike_89 (by decide) ?_
                exact ihI3 (x2 + 1) ls vc.1 (Nat.lt_of_lt_of_le vc.2 (Nat.le_of_lt_succ hmI3)) (lv_sub hl [1, 2, 3, 0] rfl)
              · have vc := vc.2 h
                refine lv_aload_n hx hb d_Va_areAlike_65 rfl (lv_at hl 0 rfl) ?_
                refine lv_aload_n hx hb d_Va_areAlike_66 rfl (lv_at hl 0 rfl) ?_
                refine lv_iload_n hx hb d_Va_areAlike_67 rfl (lv_at hl 1 rfl) ?_
                refine lv_iload_n hx hb d_Va_areAlike_68 rfl (lv_at hl 3 rfl) ?_
                obtain ⟨hpre, vc⟩ := vc
                refine pc_V (As := [.int x, .int x2]) (rest := [.ref (a 0)]) S (c_Va_partOf l D a cI cJ cZ ki co pr pa tw nv sv x x2 hpre) wB_blind k_Va_partOf i_Va_partOf e_Va_partOf o_Va ml_Va_62 hd_Va_partOf (Nat.le_trans (by decide) hRf) (Nat.le_trans (by decide) hRl) hRc (va_recv hK hP (q0 := 0) (ci := 4) rfl rfl) (wB_at hP hK) hl.1 rfl (Nat.le_of_ble_eq_true rfl) d_Va_areAlike_69 ?_
                refine lv_aload_n hx hb d_Va_areAlike_72 rfl (lv_at hl 0 rfl) ?_
                refine lv_iload_n hx hb d_Va_areAlike_73 rfl (lv_at hl 2 rfl) ?_
                refine lv_iload_n hx hb d_Va_areAlike_74 rfl (lv_at hl 3 rfl) ?_
                obtain ⟨hpre, vc⟩ := vc
                refine pc_V (As := [.int y, .int x2]) (rest := [.int (pa (x * 12 + x2 : Int32).toNatClampNeg), .ref (a 0)]) S (c_Va_partOf l D a cI cJ cZ ki co pr pa tw nv sv y x2 hpre) wB_blind k_Va_partOf i_Va_partOf e_Va_partOf o_Va ml_Va_62 hd_Va_partOf (Nat.le_trans (by decide) hRf) (Nat.le_trans (by decide) hRl) hRc (va_recv hK hP (q0 := 0) (ci := 4) rfl rfl) (wB_at hP hK) hl.1 rfl (Nat.le_of_ble_eq_true rfl) d_Va_areAlike_75 ?_
                obtain ⟨hpre, vc⟩ := vc
                refine pc_V (As := [.int (pa (x * 12 + x2 : Int32).toNatClampNeg), .int (pa (y * 12 + x2 : Int32).toNatClampNeg)]) (rest := []) S (c_Va_areEqual l D a cI cJ cZ ki co pr pa tw nv sv (pa (x * 12 + x2 : Int32).toNatClampNeg) (pa (y * 12 + x2 : Int32).toNatClampNeg) hpre) wB_blind k_Va_areEqual i_Va_areEqual e_Va_areEqual o_Va ml_Va_65 hd_Va_areEqual (Nat.le_trans (by decide) hRf) (Nat.le_trans (by decide) hRl) hRc (va_recv hK hP (q0 := 0) (ci := 4) rfl rfl) (wB_at hP hK) hl.1 rfl (Nat.le_of_ble_eq_true rfl) d_Va_areAlike_78 ?_
                refine lv_if_ne (tgt := 86) hx hb d_Va_areAlike_81 (by decide) (fun h => ?_) (fun h => ?_)
                · have vc := vc.1 h
                  refine lv_iinc (k := 3) (v := x2 + 1) hx hb d_Va_areAlike_86 hl rfl rfl (by decide) (lv' := [(3, .int (x2 + 1)), (0, .ref (a 0)), (1, .int x), (2, .int y)]) rfl (fun ls hl => ?_)
                  refine lv_goto (tgt := 50) hx hb d_Va_areAlike_89 (by decide) ?_
                  exact ihI3 (x2 + 1) ls vc.1 (Nat.lt_of_lt_of_le vc.2 (Nat.le_of_lt_succ hmI3)) (lv_sub hl [1, 2, 3, 0] rfl)
                · have vc := vc.2 h
                  refine lv_iconst (v := 0) hx hb d_Va_areAlike_84 (by decide) ?_
                  exact hret _ ls _ d_Va_areAlike_85 vc
        exact lI3 _ 0 ls vc0 (Nat.lt_succ_self _) (lv_sub hl [1, 2, 3, 0] rfl)
      · have vc := vc.2 h
        refine lv_iconst (v := 0) hx hb d_Va_areAlike_46 (by decide) ?_
        exact hret _ ls _ d_Va_areAlike_47 vc
theorem h_Va_areAlike (l : Launch) (D : va_G) (a : Nat → Nat) (cI cJ cZ : ClassId) (ki : Nat → Int32) (co : Nat → Int64) (pr : Nat → Int32) (pa : Nat → Int32) (tw : Nat → Int32) (nv : Int32) (sv : Int32) (x : Int32) (y : Int32) (r : Int32) (hr : narrow .boolean (.int r) = .int r) (vc : V_Va_areAlike ki co pr pa tw nv sv x y (fun v => v = r)) : Pm l y_Va_areAlike b_Va_areAlike 4 (some .boolean) 1 22 [.ref (a 0), .int x, .int y] (wB D (tyA cI cJ cZ) (wV a cI cJ ki co pr pa tw nv sv)) (.int r) :=
  pm_i (by decide) hr (Nat.le_of_ble_eq_true rfl) (fun p e s m below meth c ls Q S hB hl hret => g_Va_areAlike S (Nat.le_refl _) (Nat.le_refl _) ⟨Nat.le_refl _, Nat.le_refl _⟩ D a cI cJ cZ ki co pr pa tw nv sv x y hB.2 hB.1 hl vc hret)
theorem c_Va_areAlike (l : Launch) (D : va_G) (a : Nat → Nat) (cI cJ cZ : ClassId) (ki : Nat → Int32) (co : Nat → Int64) (pr : Nat → Int32) (pa : Nat → Int32) (tw : Nat → Int32) (nv : Int32) (sv : Int32) (x : Int32) (y : Int32) (hpre : (vp_in x 40 ∧ vp_in y 40 ∧ ∀ j : Nat, j < 480 → vp_in (pa j) 40)) : Pm l y_Va_areAlike b_Va_areAlike 4 (some .boolean) 1 22 [.ref (a 0), .int x, .int y] (wB D (tyA cI cJ cZ) (wV a cI cJ ki co pr pa tw nv sv)) (.int (bI (sAlike ki co pr pa tw x.toNatClampNeg y.toNatClampNeg))) := h_Va_areAlike l D a cI cJ cZ ki co pr pa tw nv sv x y _ (bI_nar _) (by
  unfold V_Va_areAlike
  obtain ⟨hx, hy, hpa⟩ := hpre
  obtain ⟨v, hv, rfl, hcv⟩ := vp_nat hx (by decide)
  obtain ⟨w, hw, rfl, hcw⟩ := vp_nat hy (by decide)
  have ix : ∀ {r k : Nat}, r < 40 → k < 12 → (nI r * 12 + nI k) = nI (r * 12 + k) := fun hr hk => by rw [show (12 : Int32) = nI 12 from rfl, pk_mul, nI_add]
  simp only [hcv, hcw, lg_eq0]
  refine ⟨hx, hy, fun h => by simp [sAlike, bI, h], fun h => ⟨hx, hy, fun h2 => by simp [sAlike, bI, h2], fun h2 => ⟨hx, hy, fun h3 => ?_, fun h3 => by simp [sAlike, bI, h3]⟩⟩⟩
  refine ⟨fun i => ∃ k : Nat, k ≤ 12 ∧ i = nI k ∧ ∀ j, j < k → (!(sBit (pr v) (nI j)) || decide (tw (pa (v * 12 + j)).toNatClampNeg = tw (pa (w * 12 + j)).toNatClampNeg)) = true, fun i => 12 - i.toInt.toNat, ⟨0, by decide, rfl, fun j hj => absurd hj (Nat.not_lt_zero j)⟩, ?_⟩
  rintro i ⟨k, hk, rfl, hall⟩
  refine ⟨fun h4 => ?_, fun h4 => ?_⟩
  · obtain rfl := fill_end (N := 12) h4 (by decide) hk
    have := all_lt.mpr hall
    rw [show sAlike ki co pr pa tw v w = true from by unfold sAlike; rw [this]; simp [h, h2, h3]]; rfl
  · have hk2 := fill_step (N := 12) h4 (by decide) hk
    rw [ix hv hk2, ix hw hk2, nI_clamp (by omega), nI_clamp (by omega)]
    have step : ∀ {b : Bool}, b = true → (b = true → (!(sBit (pr v) (nI k)) || decide (tw (pa (v * 12 + k)).toNatClampNeg = tw (pa (w * 12 + k)).toNatClampNeg)) = true) → (∃ k' : Nat, k' ≤ 12 ∧ nI k + 1 = nI k' ∧ ∀ j, j < k' → (!(sBit (pr v) (nI j)) || decide (tw (pa (v * 12 + j)).toNatClampNeg = tw (pa (w * 12 + j)).toNatClampNeg)) = true) ∧ 12 - (nI k + 1).toInt.toNat < 12 - (nI k).toInt.toNat := fun hb f => ⟨⟨k + 1, hk2, nI_1 k, fun j hj => by
      by_cases e : j = k
      · subst e; exact f hb
      · exact hall j (by omega)⟩, fill_mu hk2 (by decide)⟩
    refine ⟨hx, fun h5 => step (b := true) rfl (fun _ => by simp [Bool.not_eq_true _ ▸ bI_eq.mp h5]), fun h5 => ⟨vp_in_nI (by omega) (by decide), vp_in_nI (by omega) (by decide), ⟨hpa _ (by omega), hpa _ (by omega)⟩, fun h6 => step (b := true) rfl (fun _ => by simp [decide_eq_true_eq.mp (bI_ne.mp h6)]), fun h6 => ?_⟩⟩
    have h7 := bI_eq.mp h6
    have : ¬ (List.range 12).all (fun i => !(sBit (pr v) (nI i)) || decide (tw (pa (v * 12 + i)).toNatClampNeg = tw (pa (w * 12 + i)).toNatClampNeg)) = true := fun q => by
      have := all_lt.mp q k hk2
      simp [bI_ne.mp h5] at this
      exact h7 (by simp [this])
    simp only [Bool.not_eq_true] at this
    simp [sAlike, bI, this])
theorem hd_Va_areAlike : y_Va_areAlike.cls ≠ "java/lang/invoke/MethodHandle" ∧ y_Va_areAlike.cls ≠ "java/lang/invoke/VarHandle" ∧ (parseMethodDescriptor y_Va_areAlike.desc).map (fun d => d.parameters.length) = some 2 := ⟨by decide, by decide, by decide +kernel⟩
