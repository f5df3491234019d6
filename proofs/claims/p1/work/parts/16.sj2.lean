theorem vp_sHas {n x : Int32} {N : Nat} (hn : n.toInt ≤ N) (h : sHas n x = true) : vp_in x N := by
  simp only [sHas, decide_eq_true_eq] at h
  exact vp_lt hn h.1 h.2
theorem and2 {a b : Bool} : (a && b) = true ↔ a = true ∧ b = true := Bool.and_eq_true_iff
theorem item_in {x : Int32} {n b : Nat} (hx : x = nI n) (hn : n < 8) {f : Int32} (hf : f = nI b) (hb : b < 6) : vp_in (x * 6 + f) 48 := by
  rw [hx, hf, show (6 : Int32) = nI 6 from rfl, pk_mul, nI_add]
  exact vp_in_nI (by omega) (by decide)
theorem lt_nI {f : Int32} {b c : Nat} (hf : f = nI b) (hc : c < 2 ^ 31) (hb : b < 2 ^ 31) (h : ¬ nI c ≤ f) : b < c := by
  rw [hf] at h
  have := mt (nI_leI hc hb).mpr h
  omega
theorem sIn_nat {y : Int32} {lo hi : Nat} (hl : lo < 2 ^ 31) (hh : hi < 2 ^ 31) (h : sIn y (nI lo) (nI hi) = true) : ∃ k : Nat, lo ≤ k ∧ k ≤ hi ∧ y = nI k := by
  have h := sIn_iff.mp h
  rw [nI_toInt hl, nI_toInt hh] at h
  obtain ⟨k, hk, rfl⟩ := of_i (x := y) (fun h0 => by have := Int32.lt_iff_toInt_lt.mp h0; simp at this; omega)
  rw [nI_toInt hk] at h
  exact ⟨k, by omega, by omega, rfl⟩
theorem idx_l {x y : Int32} (hx : vp_in x 24) (hy : sIn y 29 32 = true) : ∃ r k : Nat, r < 24 ∧ k < 4 ∧ x = nI r ∧ y = nI (29 + k) ∧ x * 4 + y - 29 = nI (r * 4 + k) := by
  obtain ⟨r, hr, rfl, -⟩ := vp_nat hx (by decide)
  obtain ⟨k, h1, h2, rfl⟩ := sIn_nat (lo := 29) (hi := 32) (by decide) (by decide) hy
  refine ⟨r, k - 29, hr, by omega, rfl, by congr 1; omega, ?_⟩
  rw [show (4 : Int32) = nI 4 from rfl, show (29 : Int32) = nI 29 from rfl, pk_mul, nI_add, pk_sub (by omega)]
  congr 1; omega
theorem idx_n {x y z : Int32} (hx : vp_in x 24) (hy : sIn y 33 35 = true) (hz : sIn z 0 11 = true) : vp_in ((x * 3 + y - 33) * 12 + z) 864 := by
  obtain ⟨r, hr, rfl, -⟩ := vp_nat hx (by decide)
  obtain ⟨k, h1, h2, rfl⟩ := sIn_nat (lo := 33) (hi := 35) (by decide) (by decide) hy
  obtain ⟨j, h3, h4, rfl⟩ := sIn_nat (lo := 0) (hi := 11) (by decide) (by decide) hz
  rw [show (3 : Int32) = nI 3 from rfl, show (33 : Int32) = nI 33 from rfl, show (12 : Int32) = nI 12 from rfl, pk_mul, nI_add, pk_sub (by omega), pk_mul, nI_add]
  exact vp_in_nI (by omega) (by decide)
theorem lg_pos {x : Int64} : lg_cmp x 0 ≤ 0 ↔ ¬ 0 < x := by
  unfold lg_cmp
  split
  · rename_i h; simp [h]
  · split
    · rename_i h h2; simp [h]
    · rename_i h h2; simp [h]
def V_Sj_item (pn : Nat → Int32) (pl : Nat → Int32) (po : Nat → Int32) (pf : Nat → Int32) (pt : Nat → Int32) (x : Int32) (y : Int32) (z : Int32) (post : Int32 → (Nat → Int32) → (Nat → Int32) → (Nat → Int32) → (Nat → Int32) → (Nat → Int32) → Prop) (px : String → (Nat → Int32) → (Nat → Int32) → (Nat → Int32) → (Nat → Int32) → (Nat → Int32) → Prop) : Prop :=
  (∃ J1 : Int32 → Prop, (((bI (sIn y 0 15)) = 0 → J1 0) ∧ (¬ (bI (sIn y 0 15)) = 0 → (((bI (sIn z 0 3)) = 0 → J1 0) ∧ (¬ (bI (sIn z 0 3)) = 0 → J1 1)))) ∧ (∀ (x3 : Int32), J1 x3 → (∃ J4 : Prop, (((bI (sHas 8 x)) = 0 → J4) ∧ (¬ (bI (sHas 8 x)) = 0 → ((¬ x3 = 0 → (vp_in x 8 ∧ (((bI (decide (6 ≤ pn x.toNatClampNeg))) = 0 → ((vp_in x 8 ∧ vp_in (x * 6 + pn x.toNatClampNeg) 48) ∧ post (pn x.toNatClampNeg + 1) (upd pn x.toNatClampNeg (pn x.toNatClampNeg + 1)) (upd pl (x * 6 + pn x.toNatClampNeg : Int32).toNatClampNeg y) (upd po (x * 6 + pn x.toNatClampNeg : Int32).toNatClampNeg z) pf pt)) ∧ (¬ (bI (decide (6 ≤ pn x.toNatClampNeg))) = 0 → px ISE pn pl po pf pt)))) ∧ (x3 = 0 → J4)))) ∧ (J4 → px IAE pn pl po pf pt))))
set_option maxHeartbeats 4000000 in
set_option maxRecDepth 100000 in
theorem g_Sj_item {p : Program} {l : Launch} {e : Env} {R : Room} {s : State} {m : MethodId} {args : Array Value} {below : List Frame} {meth : Method} {c : Code} {H : Heap} {locs : List Loc} {Q : State → Prop} {ls : Array Slot} {A : Nat → Prop} (hls : l.stackTraces = false) (S : CallFix p m c b_Sj_item 5 s args W0 R_Sj) (hRf : 6 ≤ R.frames) (hRl : 90 ≤ R.locals) (hRc : 0 + 1 ≤ R.cells ∧ 0 + 6 ≤ R.slots) (D : va_G) (a : Nat → Nat) (cI cJ cZ : ClassId) (pn : Nat → Int32) (pl : Nat → Int32) (po : Nat → Int32) (pf : Nat → Int32) (pt : Nat → Int32) (x : Int32) (y : Int32) (z : Int32) (hK : va_K D vwCl (tyA cI cJ cZ) s) (hP : va_P D vwCl (wX a ++ wP a cI cZ pn pl po pf pt) H) (hD : va_D A (wX a ++ wP a cI cZ pn pl po pf pt)) (hA : ∀ q, s.heap.size ≤ q → A q) (hS : va_S A s.heap H locs) (hX : eX A s s.heap) (hl : lv_has ls 5 [(0, .ref (a 24)), (1, .int x), (2, .int y), (3, .int z)]) {post : Int32 → (Nat → Int32) → (Nat → Int32) → (Nat → Int32) → (Nat → Int32) → (Nat → Int32) → Prop} {px : String → (Nat → Int32) → (Nat → Int32) → (Nat → Int32) → (Nat → Int32) → (Nat → Int32) → Prop} (vc : V_Sj_item pn pl po pf pt x y z post px)
    (hret : ∀ (v : Int32) (pn : Nat → Int32) (pl : Nat → Int32) (po : Nat → Int32) (pf : Nat → Int32) (pt : Nat → Int32) (ls : Array Slot) (pc : Nat) (H : Heap) (locs : List Loc) (k j : Nat), decode b_Sj_item pc = .ok (.ireturn, 1) → k ≤ 1 → j ≤ 6 → post v pn pl po pf pt → va_P D vwCl (wX a ++ wP a cI cZ pn pl po pf pt) H → va_D A (wX a ++ wP a cI cZ pn pl po pf pt) → va_S A s.heap H locs → W p l e R s m args below meth c H locs k j Q (F0 m pc ls [.int v]))
    (hthr : ∀ (pn : Nat → Int32) (pl : Nat → Int32) (po : Nat → Int32) (pf : Nat → Int32) (pt : Nat → Int32) (E : String) (ik is ic : Nat) (tx : String) (pc : Nat) (ls : Array Slot) (rest : List Value) (H : Heap) (locs : List Loc), ThrOK E ik is ic tx b_Sj_item pc → ls.size = 5 → (rest.map fun v => v.category).sum ≤ 8 → px E pn pl po pf pt → va_P D vwCl (wX a ++ wP a cI cZ pn pl po pf pt) H → va_D A (wX a ++ wP a cI cZ pn pl po pf pt) → va_S A s.heap H locs → W p l e R s m args below meth c H locs 0 0 Q (F0 m pc ls rest))
    (hout : ∀ (pn : Nat → Int32) (pl : Nat → Int32) (po : Nat → Int32) (pf : Nat → Int32) (pt : Nat → Int32) (E : String) (ce : Cell) (q : Addr) (pc : Nat) (ls : Array Slot) (rest : List Value) (H : Heap) (locs : List Loc) (k j : Nat), k ≤ 1 → j ≤ 6 → H[q]? = some ce → ce.vm = .none → s.vm.findClass E = some ce.cls → px E pn pl po pf pt → va_P D vwCl (wX a ++ wP a cI cZ pn pl po pf pt) H → va_D A (wX a ++ wP a cI cZ pn pl po pf pt) → va_S A s.heap H locs → vx_W p l e R s m args below meth c H locs k j Q (F0 m pc ls rest) q) : W p l e R s m args below meth c H locs 0 0 Q (F0 m 0 ls []) := by
  have hx := S.1
  have hb := S.2.1
  have hown := S.2.2.2.1
  have hts := S.2.2.2.2
  unfold V_Sj_item at vc
  refine lv_iload_n hx hb d_Sj_item_0 rfl (lv_at hl 2 rfl) ?_
  refine lv_iconst (v := 0) hx hb d_Sj_item_1 (by decide) ?_
  refine lv_bipush (v := 15) hx hb d_Sj_item_2 (by decide) ?_
  refine pc_S (As := [.int y, .int 0, .int 15]) (rest := []) S (c_Sj_isWithin l y 0 15) wT_blind k_Sj_isWithin s_Sj_isWithin o_Sj ml_Sj_59 hd_Sj_isWithin (Nat.le_trans (by decide) hRf) (Nat.le_trans (by decide) hRl) ⟨Nat.zero_le _, Nat.zero_le _⟩ (fun _ _ _ => trivial) hl.1 rfl (Nat.le_of_ble_eq_true rfl) d_Sj_item_4 ?_
  obtain ⟨J1, vc, vc2⟩ := vc
  have jJ1 : ∀ (x3 : Int32) (ls : Array Slot) (H : Heap) (locs : List Loc), J1 x3 → lv_has ls 5 [(0, .ref (a 24)), (1, .int x), (2, .int y), (3, .int z)] → va_P D vwCl (wX a ++ wP a cI cZ pn pl po pf pt) H → va_D A (wX a ++ wP a cI cZ pn pl po pf pt) → va_S A s.heap H locs → W p l e R s m args below meth c H locs 0 0 Q (F0 m 24 ls [.int x3]) := by
    intro x3 ls H locs vc hl hP hD hS
    have vc := vc2 x3 vc
    refine lv_istore hx hb d_Sj_item_24 hl (by decide) (lv' := [(4, .int x3), (0, .ref (a 24)), (1, .int x), (2, .int y), (3, .int z)]) rfl (fun ls hl => ?_)
    refine lv_aload_n hx hb d_Sj_item_26 rfl (lv_at hl 1 rfl) ?_
    refine va_get (D := D) (ci := 5) (v := .ref (a 6)) (C := R_Sj) (T := F_Sj) (N := 4) hx hb hts in_Sj hown hK hP 0 rfl rfl 1 (by decide) (hts _ fl_Sj_19) (fun _ h => h) rfl d_Sj_item_27 ?_
    refine lv_iload_n hx hb d_Sj_item_30 rfl (lv_at hl 2 rfl) ?_
    refine pc_V (As := [.int x]) (rest := []) S (c_Pa_has l D a cI cJ cZ pn pl po pf pt x) wB_blind k_Pa_has i_Pa_has e_Pa_has o_Pa ml_Sj_101 hd_Pa_has (Nat.le_trans (by decide) hRf) (Nat.le_trans (by decide) hRl) ⟨Nat.zero_le _, Nat.zero_le _⟩ (va_recv hK hP (q0 := 1) (ci := 1) rfl rfl) (wB_at (hP.sub (ws' := (wP a cI cZ pn pl po pf pt)) [1, 2, 3, 4, 5, 6] rfl) hK) hl.1 rfl (Nat.le_of_ble_eq_true rfl) d_Sj_item_31 ?_
    obtain ⟨J4, vc, vc2⟩ := vc
    have jJ4 : ∀ (ls : Array Slot) (H : Heap) (locs : List Loc), J4 → lv_has ls 5 [(0, .ref (a 24)), (1, .int x), (2, .int y), (3, .int z), (4, .int x3)] → va_P D vwCl (wX a ++ wP a cI cZ pn pl po pf pt) H → va_D A (wX a ++ wP a cI cZ pn pl po pf pt) → va_S A s.heap H locs → W p l e R s m args below meth c H locs 0 0 Q (F0 m 42 ls []) := by
      intro  ls H locs vc hl hP hD hS
      have vc := vc2  vc
      exact hthr _ _ _ _ _ _ _ _ _ _ _ ls _ H locs ⟨x_IAE, (show ((104, "there is no such pattern, or letters or often is out of range") : Nat × String) ∈ STRS by decide +kernel), d_Sj_item_42, d_Sj_item_45, d_Sj_item_46, d_Sj_item_48, d_Sj_item_51⟩ hl.1 (Nat.le_of_ble_eq_true rfl) vc hP hD hS
    clear vc2
    refine lv_if_eq (tgt := 42) hx hb d_Sj_item_34 (by decide) (fun h => ?_) (fun h => ?_)
    · have vc := vc.1 h
      exact jJ4 ls H locs vc (lv_sub hl [1, 2, 3, 4, 0] rfl) hP hD hS
    · have vc := vc.2 h
      refine lv_iload hx hb d_Sj_item_37 (lv_at hl 0 rfl) ?_
      refine lv_if_ne (tgt := 52) hx hb d_Sj_item_39 (by decide) (fun h => ?_) (fun h => ?_)
      · have vc := vc.1 h
        refine lv_aload_n hx hb d_Sj_item_52 rfl (lv_at hl 1 rfl) ?_
        refine va_get (D := D) (ci := 5) (v := .ref (a 6)) (C := R_Sj) (T := F_Sj) (N := 4) hx hb hts in_Sj hown hK hP 0 rfl rfl 1 (by decide) (hts _ fl_Sj_19) (fun _ h => h) rfl d_Sj_item_53 ?_
        refine lv_iload_n hx hb d_Sj_item_56 rfl (lv_at hl 2 rfl) ?_
        obtain ⟨hpre, vc⟩ := vc
        refine pc_V (As := [.int x]) (rest := []) S (c_Pa_isFull l D a cI cJ cZ pn pl po pf pt x hpre) wB_blind k_Pa_isFull i_Pa_isFull e_Pa_isFull o_Pa ml_Sj_106 hd_Pa_isFull (Nat.le_trans (by decide) hRf) (Nat.le_trans (by decide) hRl) ⟨Nat.zero_le _, Nat.zero_le _⟩ (va_recv hK hP (q0 := 1) (ci := 1) rfl rfl) (wB_at (hP.sub (ws' := (wP a cI cZ pn pl po pf pt)) [1, 2, 3, 4, 5, 6] rfl) hK) hl.1 rfl (Nat.le_of_ble_eq_true rfl) d_Sj_item_57 ?_
        refine lv_if_eq (tgt := 73) hx hb d_Sj_item_60 (by decide) (fun h => ?_) (fun h => ?_)
        · have vc := vc.1 h
          refine lv_aload_n hx hb d_Sj_item_73 rfl (lv_at hl 1 rfl) ?_
          refine va_get (D := D) (ci := 5) (v := .ref (a 6)) (C := R_Sj) (T := F_Sj) (N := 4) hx hb hts in_Sj hown hK hP 0 rfl rfl 1 (by decide) (hts _ fl_Sj_19) (fun _ h => h) rfl d_Sj_item_74 ?_
          refine lv_iload_n hx hb d_Sj_item_77 rfl (lv_at hl 2 rfl) ?_
          refine lv_iload_n hx hb d_Sj_item_78 rfl (lv_at hl 3 rfl) ?_
          refine lv_iload_n hx hb d_Sj_item_79 rfl (lv_at hl 4 rfl) ?_
          obtain ⟨hpre, vc⟩ := vc
          refine wc_V (As := [.int x, .int y, .int z]) (rest := []) (wr := (wX a)) S (c_Pa_addItem l D a cI cJ cZ pn pl po pf pt x y z hpre) k_Pa_addItem i_Pa_addItem e_Pa_addItem o_Pa ml_Sj_111 hd_Pa_addItem (Nat.le_trans (by decide) hRf) (Nat.le_trans (by decide) hRl) ⟨Nat.zero_le _, Nat.zero_le _⟩ (va_recv hK hP (q0 := 1) (ci := 1) rfl rfl) hK hP hD hS hA [1, 2, 3, 4, 5, 6] [0] rfl rfl rfl (by decide) (by decide) (by decide) hl.1 rfl (Nat.le_of_ble_eq_true rfl) d_Sj_item_80 (fun _ H locs _ hP hD hS => ?_)
          have hP : va_P D vwCl (wX a ++ wP a cI cZ (upd pn x.toNatClampNeg (pn x.toNatClampNeg + 1)) (upd pl (x * 6 + pn x.toNatClampNeg : Int32).toNatClampNeg y) (upd po (x * 6 + pn x.toNatClampNeg : Int32).toNatClampNeg z) pf pt) H := hP.sub [0, 1, 2, 3, 4, 5, 6] rfl
          have hD : va_D A (wX a ++ wP a cI cZ (upd pn x.toNatClampNeg (pn x.toNatClampNeg + 1)) (upd pl (x * 6 + pn x.toNatClampNeg : Int32).toNatClampNeg y) (upd po (x * 6 + pn x.toNatClampNeg : Int32).toNatClampNeg z) pf pt) := hD.sub [0, 1, 2, 3, 4, 5, 6] (by decide) rfl
          exact hret _ _ _ _ _ _ ls _ H locs _ _ d_Sj_item_83 (by decide) (by decide) vc hP hD hS
        · have vc := vc.2 h
          exact hthr _ _ _ _ _ _ _ _ _ _ _ ls _ H locs ⟨x_ISE, (show ((109, "the pattern has 6 items") : Nat × String) ∈ STRS by decide +kernel), d_Sj_item_63, d_Sj_item_66, d_Sj_item_67, d_Sj_item_69, d_Sj_item_72⟩ hl.1 (Nat.le_of_ble_eq_true rfl) vc hP hD hS
      · have vc := vc.2 h
        exact jJ4 ls H locs vc (lv_sub hl [1, 2, 3, 4, 0] rfl) hP hD hS
  clear vc2
  refine lv_if_eq (tgt := 23) hx hb d_Sj_item_7 (by decide) (fun h => ?_) (fun h => ?_)
  · have vc := vc.1 h
    refine lv_iconst (v := 0) hx hb d_Sj_item_23 (by decide) ?_
    exact jJ1 0 ls H locs vc (lv_sub hl [0, 1, 2, 3] rfl) hP hD hS
  · have vc := vc.2 h
    refine lv_iload_n hx hb d_Sj_item_10 rfl (lv_at hl 3 rfl) ?_
    refine lv_iconst (v := 0) hx hb d_Sj_item_11 (by decide) ?_
    refine lv_iconst (v := 3) hx hb d_Sj_item_12 (by decide) ?_
    refine pc_S (As := [.int z, .int 0, .int 3]) (rest := []) S (c_Sj_isWithin l z 0 3) wT_blind k_Sj_isWithin s_Sj_isWithin o_Sj ml_Sj_59 hd_Sj_isWithin (Nat.le_trans (by decide) hRf) (Nat.le_trans (by decide) hRl) ⟨Nat.zero_le _, Nat.zero_le _⟩ (fun _ _ _ => trivial) hl.1 rfl (Nat.le_of_ble_eq_true rfl) d_Sj_item_13 ?_
    refine lv_if_eq (tgt := 23) hx hb d_Sj_item_16 (by decide) (fun h => ?_) (fun h => ?_)
    · have vc := vc.1 h
      refine lv_iconst (v := 0) hx hb d_Sj_item_23 (by decide) ?_
      exact jJ1 0 ls H locs vc (lv_sub hl [0, 1, 2, 3] rfl) hP hD hS
    · have vc := vc.2 h
      refine lv_iconst (v := 1) hx hb d_Sj_item_19 (by decide) ?_
      refine lv_goto (tgt := 24) hx hb d_Sj_item_20 (by decide) ?_
      exact jJ1 1 ls H locs vc (lv_sub hl [0, 1, 2, 3] rfl) hP hD hS
theorem h_Sj_item (l : Launch) (hls : l.stackTraces = false) (D : va_G) (a : Nat → Nat) (cI cJ cZ : ClassId) (pn : Nat → Int32) (pl : Nat → Int32) (po : Nat → Int32) (pf : Nat → Int32) (pt : Nat → Int32) (x : Int32) (y : Int32) (z : Int32) (ok : Prop) (bad : String → Prop) (r : Int32) (pn' : Nat → Int32) (pl' : Nat → Int32) (po' : Nat → Int32) (pf' : Nat → Int32) (pt' : Nat → Int32) (pn'' : Nat → Int32) (pl'' : Nat → Int32) (po'' : Nat → Int32) (pf'' : Nat → Int32) (pt'' : Nat → Int32) (vc : V_Sj_item pn pl po pf pt x y z (fun v pn pl po pf pt => ok ∧ v = r ∧ pn = pn' ∧ pl = pl' ∧ po = po' ∧ pf = pf' ∧ pt = pt') (fun E pn pl po pf pt => bad E ∧ pn = pn'' ∧ pl = pl'' ∧ po = po'' ∧ pf = pf'' ∧ pt = pt'')) : Tm (S := Unit) (SX := Unit) l y_Sj_item b_Sj_item 5 (some .int) 6 90 [.ref (a 24), .int x, .int y, .int z] D (tyA cI cJ cZ) (wX a ++ wP a cI cZ pn pl po pf pt) (fun _ => ok) (fun _ => some (.int r)) (fun _ => (wX a ++ wP a cI cZ pn' pl' po' pf' pt')) (fun E _ => bad E) (fun _ => (wX a ++ wP a cI cZ pn'' pl'' po'' pf'' pt'')) :=
  tm_of hls (by decide) rfl (Or.inr ⟨.int, fun _ => r, rfl, fun _ => rfl, fun _ _ => rfl⟩) (Nat.le_of_ble_eq_true rfl) (by decide) (by decide) (fun p e s m below meth c ls Q A S hK hP hD hA hS hX hl hret hthr hout => g_Sj_item hls S (Nat.le_refl _) (Nat.le_refl _) ⟨Nat.le_refl _, Nat.le_refl _⟩ D a cI cJ cZ pn pl po pf pt x y z hK hP hD hA hS hX hl vc
    (fun v pn pl po pf pt ls pc H locs k j hd hk hj hv hP hD hS => by obtain ⟨hok, rfl, rfl, rfl, rfl, rfl, rfl⟩ := hv; exact hret () ls pc H locs k j _ (Or.inr ⟨_, rfl, rfl, hd⟩) hk hj hok hP hD hS)
    (fun pn pl po pf pt E ik is ic tx pc ls rest H locs T hs hw hv hP hD hS => by obtain ⟨hbd, rfl, rfl, rfl, rfl, rfl⟩ := hv; exact hthr () E ik is ic tx pc ls rest H locs T hs hw hbd hP hD hS)
    (fun pn pl po pf pt E ce q pc ls rest H locs k j hk hj h1 h2 h3 hv hP hD hS => by obtain ⟨hbd, rfl, rfl, rfl, rfl, rfl⟩ := hv; exact hout () E ce q pc ls rest H locs k j hk hj h1 h2 h3 hbd hP hD hS))
theorem c_Sj_item (l : Launch) (hls : l.stackTraces = false) (D : va_G) (a : Nat → Nat) (cI cJ cZ : ClassId) (pn : Nat → Int32) (pl : Nat → Int32) (po : Nat → Int32) (pf : Nat → Int32) (pt : Nat → Int32) (x : Int32) (y : Int32) (z : Int32) (hpre : (∀ j : Nat, j < 8 → ∃ b : Nat, b ≤ 6 ∧ pn j = nI b)) : Tm (S := Unit) (SX := Unit) l y_Sj_item b_Sj_item 5 (some .int) 6 90 [.ref (a 24), .int x, .int y, .int z] D (tyA cI cJ cZ) (wX a ++ wP a cI cZ pn pl po pf pt) (fun _ => (sHas 8 x && (sIn y 0 15 && sIn z 0 3)) = true ∧ ¬ 6 ≤ pn x.toNatClampNeg) (fun _ => some (.int (pn x.toNatClampNeg + 1))) (fun _ => (wX a ++ wP a cI cZ (upd pn x.toNatClampNeg (pn x.toNatClampNeg + 1)) (upd pl (x * 6 + pn x.toNatClampNeg : Int32).toNatClampNeg y) (upd po (x * 6 + pn x.toNatClampNeg : Int32).toNatClampNeg z) pf pt)) (fun E _ => E = IAE ∧ ¬ (sHas 8 x && (sIn y 0 15 && sIn z 0 3)) = true ∨ E = ISE ∧ (sHas 8 x && (sIn y 0 15 && sIn z 0 3)) = true ∧ 6 ≤ pn x.toNatClampNeg) (fun _ => (wX a ++ wP a cI cZ pn pl po pf pt)) := h_Sj_item l hls D a cI cJ cZ pn pl po pf pt x y z ((sHas 8 x && (sIn y 0 15 && sIn z 0 3)) = true ∧ ¬ 6 ≤ pn x.toNatClampNeg) (fun E => E = IAE ∧ ¬ (sHas 8 x && (sIn y 0 15 && sIn z 0 3)) = true ∨ E = ISE ∧ (sHas 8 x && (sIn y 0 15 && sIn z 0 3)) = true ∧ 6 ≤ pn x.toNatClampNeg) (pn x.toNatClampNeg + 1) (upd pn x.toNatClampNeg (pn x.toNatClampNeg + 1)) (upd pl (x * 6 + pn x.toNatClampNeg : Int32).toNatClampNeg y) (upd po (x * 6 + pn x.toNatClampNeg : Int32).toNatClampNeg z) pf pt pn pl po pf pt (by
  unfold V_Sj_item
  refine ⟨fun y3 => y3 = bI (sIn y 0 15 && sIn z 0 3), ⟨fun h => ?_, fun h => ⟨fun h2 => ?_, fun h2 => ?_⟩⟩, fun y3 hy => ⟨¬ (sHas 8 x && (sIn y 0 15 && sIn z 0 3)) = true, ⟨fun h => ?_, fun h => ⟨fun h2 => ?_, fun h2 => ?_⟩⟩, fun h => ⟨Or.inl ⟨rfl, h⟩, by simp⟩⟩⟩
  · cases h1 : sIn y 0 15 <;> cases h3 : sIn z 0 3 <;> simp_all [bI]
  · cases h1 : sIn y 0 15 <;> cases h3 : sIn z 0 3 <;> simp_all [bI]
  · cases h1 : sIn y 0 15 <;> cases h3 : sIn z 0 3 <;> simp_all [bI]
  · intro hb; exact bI_eq.mp h (and2.mp hb).1
  · subst hy
    have hb : (sHas 8 x && (sIn y 0 15 && sIn z 0 3)) = true := and2.mpr ⟨bI_ne.mp h, bI_ne.mp h2⟩
    have hx : vp_in x 8 := vp_sHas (N := 8) (by decide) (bI_ne.mp h)
    obtain ⟨n, hn, hxn, hc⟩ := vp_nat hx (by decide)
    obtain ⟨b, hb6, hpb⟩ := hpre n hn
    refine ⟨hx, fun h3 => ?_, fun h3 => ?_⟩
    · have h6 : ¬ 6 ≤ pn x.toNatClampNeg := by simpa using bI_eq.mp h3
      have hf : pn x.toNatClampNeg = nI b := by rw [hc]; exact hpb
      exact ⟨⟨hx, item_in hxn hn hf (lt_nI (c := 6) hf (by decide) (by omega) h6)⟩, ⟨hb, h6⟩, by simp⟩
    · have h6 : 6 ≤ pn x.toNatClampNeg := by simpa using bI_ne.mp h3
      exact ⟨Or.inr ⟨rfl, hb, h6⟩, by simp⟩
  · subst hy
    intro hb; exact bI_eq.mp h2 (and2.mp hb).2)
theorem hd_Sj_item : y_Sj_item.cls ≠ "java/lang/invoke/MethodHandle" ∧ y_Sj_item.cls ≠ "java/lang/invoke/VarHandle" ∧ (parseMethodDescriptor y_Sj_item.desc).map (fun d => d.parameters.length) = some 3 := ⟨by decide, by decide, by decide +kernel⟩
def V_Sj_bind (pn : Nat → Int32) (pl : Nat → Int32) (po : Nat → Int32) (pf : Nat → Int32) (pt : Nat → Int32) (x : Int32) (u : Int32) (v : Int32) (post : (Nat → Int32) → (Nat → Int32) → (Nat → Int32) → (Nat → Int32) → (Nat → Int32) → Prop) (px : String → (Nat → Int32) → (Nat → Int32) → (Nat → Int32) → (Nat → Int32) → (Nat → Int32) → Prop) : Prop :=
  ((¬ (bI (sHas 8 x)) = 0 → (vp_in x 8 ∧ post pn pl po (upd pf x.toNatClampNeg (vp_nar .boolean u)) (upd pt x.toNatClampNeg (vp_nar .boolean v)))) ∧ ((bI (sHas 8 x)) = 0 → px IAE pn pl po pf pt))
set_option maxHeartbeats 4000000 in
set_option maxRecDepth 100000 in
theorem g_Sj_bind {p : Program} {l : Launch} {e : Env} {R : Room} {s : State} {m : MethodId} {args : Array Value} {below : List Frame} {meth : Method} {c : Code} {H : Heap} {locs : List Loc} {Q : State → Prop} {ls : Array Slot} {A : Nat → Prop} (hls : l.stackTraces = false) (S : CallFix p m c b_Sj_bind 4 s args W0 R_Sj) (hRf : 6 ≤ R.frames) (hRl : 90 ≤ R.locals) (hRc : 0 + 1 ≤ R.cells ∧ 0 + 6 ≤ R.slots) (D : va_G) (a : Nat → Nat) (cI cJ cZ : ClassId) (pn : Nat → Int32) (pl : Nat → Int32) (po : Nat → Int32) (pf : Nat → Int32) (pt : Nat → Int32) (x : Int32) (u : Int32) (v : Int32) (hK : va_K D vwCl (tyA cI cJ cZ) s) (hP : va_P D vwCl (wX a ++ wP a cI cZ pn pl po pf pt) H) (hD : va_D A (wX a ++ wP a cI cZ pn pl po pf pt)) (hA : ∀ q, s.heap.size ≤ q → A q) (hS : va_S A s.heap H locs) (hX : eX A s s.heap) (hl : lv_has ls 4 [(0, .ref (a 24)), (1, .int x), (2, .int u), (3, .int v)]) {post : (Nat → Int32) → (Nat → Int32) → (Nat → Int32) → (Nat → Int32) → (Nat → Int32) → Prop} {px : String → (Nat → Int32) → (Nat → Int32) → (Nat → Int32) → (Nat → Int32) → (Nat → Int32) → Prop} (vc : V_Sj_bind pn pl po pf pt x u v post px)
    (hret : ∀ (pn : Nat → Int32) (pl : Nat → Int32) (po : Nat → Int32) (pf : Nat → Int32) (pt : Nat → Int32) (ls : Array Slot) (pc : Nat) (H : Heap) (locs : List Loc) (k j : Nat), decode b_Sj_bind pc = .ok (.return_, 1) → k ≤ 1 → j ≤ 6 → post pn pl po pf pt → va_P D vwCl (wX a ++ wP a cI cZ pn pl po pf pt) H → va_D A (wX a ++ wP a cI cZ pn pl po pf pt) → va_S A s.heap H locs → W p l e R s m args below meth c H locs k j Q (F0 m pc ls []))
    (hthr : ∀ (pn : Nat → Int32) (pl : Nat → Int32) (po : Nat → Int32) (pf : Nat → Int32) (pt : Nat → Int32) (E : String) (ik is ic : Nat) (tx : String) (pc : Nat) (ls : Array Slot) (rest : List Value) (H : Heap) (locs : List Loc), ThrOK E ik is ic tx b_Sj_bind pc → ls.size = 4 → (rest.map fun v => v.category).sum ≤ 8 → px E pn pl po pf pt → va_P D vwCl (wX a ++ wP a cI cZ pn pl po pf pt) H → va_D A (wX a ++ wP a cI cZ pn pl po pf pt) → va_S A s.heap H locs → W p l e R s m args below meth c H locs 0 0 Q (F0 m pc ls rest))
    (hout : ∀ (pn : Nat → Int32) (pl : Nat → Int32) (po : Nat → Int32) (pf : Nat → Int32) (pt : Nat → Int32) (E : String) (ce : Cell) (q : Addr) (pc : Nat) (ls : Array Slot) (rest : List Value) (H : Heap) (locs : List Loc) (k j : Nat), k ≤ 1 → j ≤ 6 → H[q]? = some ce → ce.vm = .none → s.vm.findClass E = some ce.cls → px E pn pl po pf pt → va_P D vwCl (wX a ++ wP a cI cZ pn pl po pf pt) H → va_D A (wX a ++ wP a cI cZ pn pl po pf pt) → va_S A s.heap H locs → vx_W p l e R s m args below meth c H locs k j Q (F0 m pc ls rest) q) : W p l e R s m args below meth c H locs 0 0 Q (F0 m 0 ls []) := by
  have hx := S.1
  have hb := S.2.1
  have hown := S.2.2.2.1
  have hts := S.2.2.2.2
  unfold V_Sj_bind at vc
  refine lv_aload_n hx hb d_Sj_bind_0 rfl (lv_at hl 0 rfl) ?_
  refine va_get (D := D) (ci := 5) (v := .ref (a 6)) (C := R_Sj) (T := F_Sj) (N := 4) hx hb hts in_Sj hown hK hP 0 rfl rfl 1 (by decide) (hts _ fl_Sj_19) (fun _ h => h) rfl d_Sj_bind_1 ?_
  refine lv_iload_n hx hb d_Sj_bind_4 rfl (lv_at hl 1 rfl) ?_
  refine pc_V (As := [.int x]) (rest := []) S (c_Pa_has l D a cI cJ cZ pn pl po pf pt x) wB_blind k_Pa_has i_Pa_has e_Pa_has o_Pa ml_Sj_101 hd_Pa_has (Nat.le_trans (by decide) hRf) (Nat.le_trans (by decide) hRl) ⟨Nat.zero_le _, Nat.zero_le _⟩ (va_recv hK hP (q0 := 1) (ci := 1) rfl rfl) (wB_at (hP.sub (ws' := (wP a cI cZ pn pl po pf pt)) [1, 2, 3, 4, 5, 6] rfl) hK) hl.1 rfl (Nat.le_of_ble_eq_true rfl) d_Sj_bind_5 ?_
  refine lv_if_ne (tgt := 21) hx hb d_Sj_bind_8 (by decide) (fun h => ?_) (fun h => ?_)
  · have vc := vc.1 h
    refine lv_aload_n hx hb d_Sj_bind_21 rfl (lv_at hl 0 rfl) ?_
    refine va_get (D := D) (ci := 5) (v := .ref (a 6)) (C := R_Sj) (T := F_Sj) (N := 4) hx hb hts in_Sj hown hK hP 0 rfl rfl 1 (by decide) (hts _ fl_Sj_19) (fun _ h => h) rfl d_Sj_bind_22 ?_
    refine lv_iload_n hx hb d_Sj_bind_25 rfl (lv_at hl 1 rfl) ?_
    refine lv_iload_n hx hb d_Sj_bind_26 rfl (lv_at hl 2 rfl) ?_
    refine lv_iload_n hx hb d_Sj_bind_27 rfl (lv_at hl 3 rfl) ?_
    obtain ⟨hpre, vc⟩ := vc
    refine wc_V (As := [.int x, .int u, .int v]) (rest := []) (wr := (wX a)) S (c_Pa_setBounds l D a cI cJ cZ pn pl po pf pt x u v hpre) k_Pa_setBounds i_Pa_setBounds e_Pa_setBounds o_Pa ml_Sj_117 hd_Pa_setBounds (Nat.le_trans (by decide) hRf) (Nat.le_trans (by decide) hRl) ⟨Nat.zero_le _, Nat.zero_le _⟩ (va_recv hK hP (q0 := 1) (ci := 1) rfl rfl) hK hP hD hS hA [1, 2, 3, 4, 5, 6] [0] rfl rfl rfl (by decide) (by decide) (by decide) hl.1 rfl (Nat.le_of_ble_eq_true rfl) d_Sj_bind_28 (fun _ H locs _ hP hD hS => ?_)
    have hP : va_P D vwCl (wX a ++ wP a cI cZ pn pl po (upd pf x.toNatClampNeg (vp_nar .boolean u)) (upd pt x.toNatClampNeg (vp_nar .boolean v))) H := hP.sub [0, 1, 2, 3, 4, 5, 6] rfl
    have hD : va_D A (wX a ++ wP a cI cZ pn pl po (upd pf x.toNatClampNeg (vp_nar .boolean u)) (upd pt x.toNatClampNeg (vp_nar .boolean v))) := hD.sub [0, 1, 2, 3, 4, 5, 6] (by decide) rfl
    exact hret _ _ _ _ _ ls _ H locs _ _ d_Sj_bind_31 (by decide) (by decide) vc hP hD hS
  · have vc := vc.2 h
    exact hthr _ _ _ _ _ _ _ _ _ _ _ ls _ H locs ⟨x_IAE, (show ((115, "there is no such pattern") : Nat × String) ∈ STRS by decide +kernel), d_Sj_bind_11, d_Sj_bind_14, d_Sj_bind_15, d_Sj_bind_17, d_Sj_bind_20⟩ hl.1 (Nat.le_of_ble_eq_true rfl) vc hP hD hS
theorem h_Sj_bind (l : Launch) (hls : l.stackTraces = false) (D : va_G) (a : Nat → Nat) (cI cJ cZ : ClassId) (pn : Nat → Int32) (pl : Nat → Int32) (po : Nat → Int32) (pf : Nat → Int32) (pt : Nat → Int32) (x : Int32) (u : Int32) (v : Int32) (ok : Prop) (bad : String → Prop) (pn' : Nat → Int32) (pl' : Nat → Int32) (po' : Nat → Int32) (pf' : Nat → Int32) (pt' : Nat → Int32) (pn'' : Nat → Int32) (pl'' : Nat → Int32) (po'' : Nat → Int32) (pf'' : Nat → Int32) (pt'' : Nat → Int32) (vc : V_Sj_bind pn pl po pf pt x u v (fun pn pl po pf pt => ok ∧ pn = pn' ∧ pl = pl' ∧ po = po' ∧ pf = pf' ∧ pt = pt') (fun E pn pl po pf pt => bad E ∧ pn = pn'' ∧ pl = pl'' ∧ po = po'' ∧ pf = pf'' ∧ pt = pt'')) : Tm (S := Unit) (SX := Unit) l y_Sj_bind b_Sj_bind 4 none 6 90 [.ref (a 24), .int x, .int u, .int v] D (tyA cI cJ cZ) (wX a ++ wP a cI cZ pn pl po pf pt) (fun _ => ok) (fun _ => none) (fun _ => (wX a ++ wP a cI cZ pn' pl' po' pf' pt')) (fun E _ => bad E) (fun _ => (wX a ++ wP a cI cZ pn'' pl'' po'' pf'' pt'')) :=
  tm_of hls (by decide) rfl (Or.inl ⟨rfl, fun _ => rfl⟩) (Nat.le_of_ble_eq_true rfl) (by decide) (by decide) (fun p e s m below meth c ls Q A S hK hP hD hA hS hX hl hret hthr hout => g_Sj_bind hls S (Nat.le_refl _) (Nat.le_refl _) ⟨Nat.le_refl _, Nat.le_refl _⟩ D a cI cJ cZ pn pl po pf pt x u v hK hP hD hA hS hX hl vc
    (fun  pn pl po pf pt ls pc H locs k j hd hk hj hv hP hD hS => by obtain ⟨hok, rfl, rfl, rfl, rfl, rfl⟩ := hv; exact hret () ls pc H locs k j _ (Or.inl ⟨rfl, rfl, hd⟩) hk hj hok hP hD hS)
    (fun pn pl po pf pt E ik is ic tx pc ls rest H locs T hs hw hv hP hD hS => by obtain ⟨hbd, rfl, rfl, rfl, rfl, rfl⟩ := hv; exact hthr () E ik is ic tx pc ls rest H locs T hs hw hbd hP hD hS)
    (fun pn pl po pf pt E ce q pc ls rest H locs k j hk hj h1 h2 h3 hv hP hD hS => by obtain ⟨hbd, rfl, rfl, rfl, rfl, rfl⟩ := hv; exact hout () E ce q pc ls rest H locs k j hk hj h1 h2 h3 hbd hP hD hS))
theorem c_Sj_bind (l : Launch) (hls : l.stackTraces = false) (D : va_G) (a : Nat → Nat) (cI cJ cZ : ClassId) (pn : Nat → Int32) (pl : Nat → Int32) (po : Nat → Int32) (pf : Nat → Int32) (pt : Nat → Int32) (x : Int32) (u : Int32) (v : Int32) : Tm (S := Unit) (SX := Unit) l y_Sj_bind b_Sj_bind 4 none 6 90 [.ref (a 24), .int x, .int u, .int v] D (tyA cI cJ cZ) (wX a ++ wP a cI cZ pn pl po pf pt) (fun _ => sHas 8 x = true) (fun _ => none) (fun _ => (wX a ++ wP a cI cZ pn pl po (upd pf x.toNatClampNeg (vp_nar .boolean u)) (upd pt x.toNatClampNeg (vp_nar .boolean v)))) (fun E _ => E = IAE ∧ ¬ sHas 8 x = true) (fun _ => (wX a ++ wP a cI cZ pn pl po pf pt)) := h_Sj_bind l hls D a cI cJ cZ pn pl po pf pt x u v (sHas 8 x = true) (fun E => E = IAE ∧ ¬ sHas 8 x = true) pn pl po (upd pf x.toNatClampNeg (vp_nar .boolean u)) (upd pt x.toNatClampNeg (vp_nar .boolean v)) pn pl po pf pt (by
  unfold V_Sj_bind
  refine ⟨fun h => ⟨vp_sHas (N := 8) (by decide) (bI_ne.mp h), bI_ne.mp h, by simp⟩, fun h => ⟨⟨rfl, bI_eq.mp h⟩, by simp⟩⟩)
theorem hd_Sj_bind : y_Sj_bind.cls ≠ "java/lang/invoke/MethodHandle" ∧ y_Sj_bind.cls ≠ "java/lang/invoke/VarHandle" ∧ (parseMethodDescriptor y_Sj_bind.desc).map (fun d => d.parameters.length) = some 3 := ⟨by decide, by decide, by decide +kernel⟩
def V_Sj_schema (ru : Nat → Int32) (le : Nat → Int32) (li : Nat → Int32) (bn : Nat → Int32) (ip : Nat → Int32) (aw : Nat → Int32) (ns : Int32) (post : Int32 → (Nat → Int32) → (Nat → Int32) → (Nat → Int32) → (Nat → Int32) → (Nat → Int32) → (Nat → Int32) → Int32 → Prop) (px : String → (Nat → Int32) → (Nat → Int32) → (Nat → Int32) → (Nat → Int32) → (Nat → Int32) → (Nat → Int32) → Int32 → Prop) : Prop :=
  (((bI (decide (24 ≤ ns))) = 0 → post (ns + 1 - 1) ru le li bn ip aw (ns + 1)) ∧ (¬ (bI (decide (24 ≤ ns))) = 0 → px ISE ru le li bn ip aw ns))
set_option maxHeartbeats 4000000 in
set_option maxRecDepth 100000 in
theorem g_Sj_schema {p : Program} {l : Launch} {e : Env} {R : Room} {s : State} {m : MethodId} {args : Array Value} {below : List Frame} {meth : Method} {c : Code} {H : Heap} {locs : List Loc} {Q : State → Prop} {ls : Array Slot} {A : Nat → Prop} (hls : l.stackTraces = false) (S : CallFix p m c b_Sj_schema 1 s args W0 R_Sj) (hRf : 6 ≤ R.frames) (hRl : 90 ≤ R.locals) (hRc : 0 + 1 ≤ R.cells ∧ 0 + 6 ≤ R.slots) (D : va_G) (a : Nat → Nat) (cI cJ cZ : ClassId) (ru : Nat → Int32) (le : Nat → Int32) (li : Nat → Int32) (bn : Nat → Int32) (ip : Nat → Int32) (aw : Nat → Int32) (ns : Int32) (hK : va_K D vwCl (tyA cI cJ cZ) s) (hP : va_P D vwCl (wX a ++ wS a cI ru le li bn ip aw ns) H) (hD : va_D A (wX a ++ wS a cI ru le li bn ip aw ns)) (hA : ∀ q, s.heap.size ≤ q → A q) (hS : va_S A s.heap H locs) (hX : eX A s s.heap) (hl : lv_has ls 1 [(0, .ref (a 24))]) {post : Int32 → (Nat → Int32) → (Nat → Int32) → (Nat → Int32) → (Nat → Int32) → (Nat → Int32) → (Nat → Int32) → Int32 → Prop} {px : String → (Nat → Int32) → (Nat → Int32) → (Nat → Int32) → (Nat → Int32) → (Nat → Int32) → (Nat → Int32) → Int32 → Prop} (vc : V_Sj_schema ru le li bn ip aw ns post px)
    (hret : ∀ (v : Int32) (ru : Nat → Int32) (le : Nat → Int32) (li : Nat → Int32) (bn : Nat → Int32) (ip : Nat → Int32) (aw : Nat → Int32) (ns : Int32) (ls : Array Slot) (pc : Nat) (H : Heap) (locs : List Loc) (k j : Nat), decode b_Sj_schema pc = .ok (.ireturn, 1) → k ≤ 1 → j ≤ 6 → post v ru le li bn ip aw ns → va_P D vwCl (wX a ++ wS a cI ru le li bn ip aw ns) H → va_D A (wX a ++ wS a cI ru le li bn ip aw ns) → va_S A s.heap H locs → W p l e R s m args below meth c H locs k j Q (F0 m pc ls [.int v]))
    (hthr : ∀ (ru : Nat → Int32) (le : Nat → Int32) (li : Nat → Int32) (bn : Nat → Int32) (ip : Nat → Int32) (aw : Nat → Int32) (ns : Int32) (E : String) (ik is ic : Nat) (tx : String) (pc : Nat) (ls : Array Slot) (rest : List Value) (H : Heap) (locs : List Loc), ThrOK E ik is ic tx b_Sj_schema pc → ls.size = 1 → (rest.map fun v => v.category).sum ≤ 8 → px E ru le li bn ip aw ns → va_P D vwCl (wX a ++ wS a cI ru le li bn ip aw ns) H → va_D A (wX a ++ wS a cI ru le li bn ip aw ns) → va_S A s.heap H locs → W p l e R s m args below meth c H locs 0 0 Q (F0 m pc ls rest))
    (hout : ∀ (ru : Nat → Int32) (le : Nat → Int32) (li : Nat → Int32) (bn : Nat → Int32) (ip : Nat → Int32) (aw : Nat → Int32) (ns : Int32) (E : String) (ce : Cell) (q : Addr) (pc : Nat) (ls : Array Slot) (rest : List Value) (H : Heap) (locs : List Loc) (k j : Nat), k ≤ 1 → j ≤ 6 → H[q]? = some ce → ce.vm = .none → s.vm.findClass E = some ce.cls → px E ru le li bn ip aw ns → va_P D vwCl (wX a ++ wS a cI ru le li bn ip aw ns) H → va_D A (wX a ++ wS a cI ru le li bn ip aw ns) → va_S A s.heap H locs → vx_W p l e R s m args below meth c H locs k j Q (F0 m pc ls rest) q) : W p l e R s m args below meth c H locs 0 0 Q (F0 m 0 ls []) := by
  have hx := S.1
  have hb := S.2.1
  have hown := S.2.2.2.1
  have hts := S.2.2.2.2
  unfold V_Sj_schema at vc
  refine lv_aload_n hx hb d_Sj_schema_0 rfl (lv_at hl 0 rfl) ?_
  refine va_get (D := D) (ci := 5) (v := .ref (a 12)) (C := R_Sj) (T := F_Sj) (N := 4) hx hb hts in_Sj hown hK hP 0 rfl rfl 2 (by decide) (hts _ fl_Sj_26) (fun _ h => h) rfl d_Sj_schema_1 ?_
  refine pc_V (As := []) (rest := []) S (c_Sc_areFull l D a cI cJ cZ ru le li bn ip aw ns) wB_blind k_Sc_areFull i_Sc_areFull e_Sc_areFull o_Sc ml_Sj_121 hd_Sc_areFull (Nat.le_trans (by decide) hRf) (Nat.le_trans (by decide) hRl) ⟨Nat.zero_le _, Nat.zero_le _⟩ (va_recv hK hP (q0 := 1) (ci := 3) rfl rfl) (wB_at (hP.sub (ws' := (wS a cI ru le li bn ip aw ns)) [1, 2, 3, 4, 5, 6, 7] rfl) hK) hl.1 rfl (Nat.le_of_ble_eq_true rfl) d_Sj_schema_4 ?_
  refine lv_if_eq (tgt := 20) hx hb d_Sj_schema_7 (by decide) (fun h => ?_) (fun h => ?_)
  · have vc := vc.1 h
    refine lv_aload_n hx hb d_Sj_schema_20 rfl (lv_at hl 0 rfl) ?_
    refine va_get (D := D) (ci := 5) (v := .ref (a 12)) (C := R_Sj) (T := F_Sj) (N := 4) hx hb hts in_Sj hown hK hP 0 rfl rfl 2 (by decide) (hts _ fl_Sj_26) (fun _ h => h) rfl d_Sj_schema_21 ?_
    refine wc_V (As := []) (rest := []) (wr := (wX a)) S (c_Sc_add l D a cI cJ cZ ru le li bn ip aw ns) k_Sc_add i_Sc_add e_Sc_add o_Sc ml_Sj_127 hd_Sc_add (Nat.le_trans (by decide) hRf) (Nat.le_trans (by decide) hRl) ⟨Nat.zero_le _, Nat.zero_le _⟩ (va_recv hK hP (q0 := 1) (ci := 3) rfl rfl) hK hP hD hS hA [1, 2, 3, 4, 5, 6, 7] [0] rfl rfl rfl (by decide) (by decide) (by decide) hl.1 rfl (Nat.le_of_ble_eq_true rfl) d_Sj_schema_24 (fun _ H locs _ hP hD hS => ?_)
    have hP : va_P D vwCl (wX a ++ wS a cI ru le li bn ip aw (ns + 1)) H := hP.sub [0, 1, 2, 3, 4, 5, 6, 7] rfl
    have hD : va_D A (wX a ++ wS a cI ru le li bn ip aw (ns + 1)) := hD.sub [0, 1, 2, 3, 4, 5, 6, 7] (by decide) rfl
    exact hret _ _ _ _ _ _ _ _ ls _ H locs _ _ d_Sj_schema_27 (by decide) (by decide) vc hP hD hS
  · have vc := vc.2 h
    exact hthr _ _ _ _ _ _ _ _ _ _ _ _ _ ls _ H locs ⟨x_ISE, (show ((125, "there are 24 schemas") : Nat × String) ∈ STRS by decide +kernel), d_Sj_schema_10, d_Sj_schema_13, d_Sj_schema_14, d_Sj_schema_16, d_Sj_schema_19⟩ hl.1 (Nat.le_of_ble_eq_true rfl) vc hP hD hS
theorem h_Sj_schema (l : Launch) (hls : l.stackTraces = false) (D : va_G) (a : Nat → Nat) (cI cJ cZ : ClassId) (ru : Nat → Int32) (le : Nat → Int32) (li : Nat → Int32) (bn : Nat → Int32) (ip : Nat → Int32) (aw : Nat → Int32) (ns : Int32) (ok : Prop) (bad : String → Prop) (r : Int32) (ru' : Nat → Int32) (le' : Nat → Int32) (li' : Nat → Int32) (bn' : Nat → Int32) (ip' : Nat → Int32) (aw' : Nat → Int32) (ns' : Int32) (ru'' : Nat → Int32) (le'' : Nat → Int32) (li'' : Nat → Int32) (bn'' : Nat → Int32) (ip'' : Nat → Int32) (aw'' : Nat → Int32) (ns'' : Int32) (vc : V_Sj_schema ru le li bn ip aw ns (fun v ru le li bn ip aw ns => ok ∧ v = r ∧ ru = ru' ∧ le = le' ∧ li = li' ∧ bn = bn' ∧ ip = ip' ∧ aw = aw' ∧ ns = ns') (fun E ru le li bn ip aw ns => bad E ∧ ru = ru'' ∧ le = le'' ∧ li = li'' ∧ bn = bn'' ∧ ip = ip'' ∧ aw = aw'' ∧ ns = ns'')) : Tm (S := Unit) (SX := Unit) l y_Sj_schema b_Sj_schema 1 (some .int) 6 90 [.ref (a 24)] D (tyA cI cJ cZ) (wX a ++ wS a cI ru le li bn ip aw ns) (fun _ => ok) (fun _ => some (.int r)) (fun _ => (wX a ++ wS a cI ru' le' li' bn' ip' aw' ns')) (fun E _ => bad E) (fun _ => (wX a ++ wS a cI ru'' le'' li'' bn'' ip'' aw'' ns'')) :=
  tm_of hls (by decide) rfl (Or.inr ⟨.int, fun _ => r, rfl, fun _ => rfl, fun _ _ => rfl⟩) (Nat.le_of_ble_eq_true rfl) (by decide) (by decide) (fun p e s m below meth c ls Q A S hK hP hD hA hS hX hl hret hthr hout => g_Sj_schema hls S (Nat.le_refl _) (Nat.le_refl _) ⟨Nat.le_refl _, Nat.le_refl _⟩ D a cI cJ cZ ru le li bn ip aw ns hK hP hD hA hS hX hl vc
    (fun v ru le li bn ip aw ns ls pc H locs k j hd hk hj hv hP hD hS => by obtain ⟨hok, rfl, rfl, rfl, rfl, rfl, rfl, rfl, rfl⟩ := hv; exact hret () ls pc H locs k j _ (Or.inr ⟨_, rfl, rfl, hd⟩) hk hj hok hP hD hS)
    (fun ru le li bn ip aw ns E ik is ic tx pc ls rest H locs T hs hw hv hP hD hS => by obtain ⟨hbd, rfl, rfl, rfl, rfl, rfl, rfl, rfl⟩ := hv; exact hthr () E ik is ic tx pc ls rest H locs T hs hw hbd hP hD hS)
    (fun ru le li bn ip aw ns E ce q pc ls rest H locs k j hk hj h1 h2 h3 hv hP hD hS => by obtain ⟨hbd, rfl, rfl, rfl, rfl, rfl, rfl, rfl⟩ := hv; exact hout () E ce q pc ls rest H locs k j hk hj h1 h2 h3 hbd hP hD hS))
theorem c_Sj_schema (l : Launch) (hls : l.stackTraces = false) (D : va_G) (a : Nat → Nat) (cI cJ cZ : ClassId) (ru : Nat → Int32) (le : Nat → Int32) (li : Nat → Int32) (bn : Nat → Int32) (ip : Nat → Int32) (aw : Nat → Int32) (ns : Int32) : Tm (S := Unit) (SX := Unit) l y_Sj_schema b_Sj_schema 1 (some .int) 6 90 [.ref (a 24)] D (tyA cI cJ cZ) (wX a ++ wS a cI ru le li bn ip aw ns) (fun _ => ¬ 24 ≤ ns) (fun _ => some (.int (ns + 1 - 1))) (fun _ => (wX a ++ wS a cI ru le li bn ip aw (ns + 1))) (fun E _ => E = ISE ∧ 24 ≤ ns) (fun _ => (wX a ++ wS a cI ru le li bn ip aw ns)) := h_Sj_schema l hls D a cI cJ cZ ru le li bn ip aw ns (¬ 24 ≤ ns) (fun E => E = ISE ∧ 24 ≤ ns) (ns + 1 - 1) ru le li bn ip aw (ns + 1) ru le li bn ip aw ns (by
  unfold V_Sj_schema
  refine ⟨fun h => ⟨by simpa using bI_eq.mp h, by simp⟩, fun h => ⟨⟨rfl, by simpa using bI_ne.mp h⟩, by simp⟩⟩)
theorem hd_Sj_schema : y_Sj_schema.cls ≠ "java/lang/invoke/MethodHandle" ∧ y_Sj_schema.cls ≠ "java/lang/invoke/VarHandle" ∧ (parseMethodDescriptor y_Sj_schema.desc).map (fun d => d.parameters.length) = some 0 := ⟨by decide, by decide, by decide +kernel⟩
def V_Sj_list (ru : Nat → Int32) (le : Nat → Int32) (li : Nat → Int32) (bn : Nat → Int32) (ip : Nat → Int32) (aw : Nat → Int32) (ns : Int32) (x : Int32) (y : Int32) (z : Int32) (post : Int32 → (Nat → Int32) → (Nat → Int32) → (Nat → Int32) → (Nat → Int32) → (Nat → Int32) → (Nat → Int32) → Int32 → Prop) (px : String → (Nat → Int32) → (Nat → Int32) → (Nat → Int32) → (Nat → Int32) → (Nat → Int32) → (Nat → Int32) → Int32 → Prop) : Prop :=
  (∃ J1 : Prop, (((bI (sHas ns x)) = 0 → J1) ∧ (¬ (bI (sHas ns x)) = 0 → (((bI (sIn y 29 32)) = 0 → J1) ∧ (¬ (bI (sIn y 29 32)) = 0 → ((¬ (bI (sHas ns z)) = 0 → (vp_in (x * 4 + y - 29) 96 ∧ (((le (x * 4 + y - 29 : Int32).toNatClampNeg) < 3 → ((vp_in (x * 4 + y - 29) 96 ∧ vp_in ((x * 4 + y - 29) * 3 + le (x * 4 + y - 29 : Int32).toNatClampNeg) 288) ∧ post (le (x * 4 + y - 29 : Int32).toNatClampNeg + 1) ru (upd le (x * 4 + y - 29 : Int32).toNatClampNeg (le (x * 4 + y - 29 : Int32).toNatClampNeg + 1)) (upd li ((x * 4 + y - 29) * 3 + le (x * 4 + y - 29 : Int32).toNatClampNeg : Int32).toNatClampNeg z) bn ip aw ns)) ∧ (¬ (le (x * 4 + y - 29 : Int32).toNatClampNeg) < 3 → px ISE ru le li bn ip aw ns)))) ∧ ((bI (sHas ns z)) = 0 → J1)))))) ∧ (J1 → px IAE ru le li bn ip aw ns))
set_option maxHeartbeats 4000000 in
set_option maxRecDepth 100000 in
theorem g_Sj_list {p : Program} {l : Launch} {e : Env} {R : Room} {s : State} {m : MethodId} {args : Array Value} {below : List Frame} {meth : Method} {c : Code} {H : Heap} {locs : List Loc} {Q : State → Prop} {ls : Array Slot} {A : Nat → Prop} (hls : l.stackTraces = false) (S : CallFix p m c b_Sj_list 4 s args W0 R_Sj) (hRf : 6 ≤ R.frames) (hRl : 90 ≤ R.locals) (hRc : 0 + 1 ≤ R.cells ∧ 0 + 6 ≤ R.slots) (D : va_G) (a : Nat → Nat) (cI cJ cZ : ClassId) (ru : Nat → Int32) (le : Nat → Int32) (li : Nat → Int32) (bn : Nat → Int32) (ip : Nat → Int32) (aw : Nat → Int32) (ns : Int32) (x : Int32) (y : Int32) (z : Int32) (hK : va_K D vwCl (tyA cI cJ cZ) s) (hP : va_P D vwCl (wX a ++ wS a cI ru le li bn ip aw ns) H) (hD : va_D A (wX a ++ wS a cI ru le li bn ip aw ns)) (hA : ∀ q, s.heap.size ≤ q → A q) (hS : va_S A s.heap H locs) (hX : eX A s s.heap) (hl : lv_has ls 4 [(0, .ref (a 24)), (1, .int x), (2, .int y), (3, .int z)]) {post : Int32 → (Nat → Int32) → (Nat → Int32) → (Nat → Int32) → (Nat → Int32) → (Nat → Int32) → (Nat → Int32) → Int32 → Prop} {px : String → (Nat → Int32) → (Nat → Int32) → (Nat → Int32) → (Nat → Int32) → (Nat → Int32) → (Nat → Int32) → Int32 → Prop} (vc : V_Sj_list ru le li bn ip aw ns x y z post px)
    (hret : ∀ (v : Int32) (ru : Nat → Int32) (le : Nat → Int32) (li : Nat → Int32) (bn : Nat → Int32) (ip : Nat → Int32) (aw : Nat → Int32) (ns : Int32) (ls : Array Slot) (pc : Nat) (H : Heap) (locs : List Loc) (k j : Nat), decode b_Sj_list pc = .ok (.ireturn, 1) → k ≤ 1 → j ≤ 6 → post v ru le li bn ip aw ns → va_P D vwCl (wX a ++ wS a cI ru le li bn ip aw ns) H → va_D A (wX a ++ wS a cI ru le li bn ip aw ns) → va_S A s.heap H locs → W p l e R s m args below meth c H locs k j Q (F0 m pc ls [.int v]))
    (hthr : ∀ (ru : Nat → Int32) (le : Nat → Int32) (li : Nat → Int32) (bn : Nat → Int32) (ip : Nat → Int32) (aw : Nat → Int32) (ns : Int32) (E : String) (ik is ic : Nat) (tx : String) (pc : Nat) (ls : Array Slot) (rest : List Value) (H : Heap) (locs : List Loc), ThrOK E ik is ic tx b_Sj_list pc → ls.size = 4 → (rest.map fun v => v.category).sum ≤ 8 → px E ru le li bn ip aw ns → va_P D vwCl (wX a ++ wS a cI ru le li bn ip aw ns) H → va_D A (wX a ++ wS a cI ru le li bn ip aw ns) → va_S A s.heap H locs → W p l e R s m args below meth c H locs 0 0 Q (F0 m pc ls rest))
    (hout : ∀ (ru : Nat → Int32) (le : Nat → Int32) (li : Nat → Int32) (bn : Nat → Int32) (ip : Nat → Int32) (aw : Nat → Int32) (ns : Int32) (E : String) (ce : Cell) (q : Addr) (pc : Nat) (ls : Array Slot) (rest : List Value) (H : Heap) (locs : List Loc) (k j : Nat), k ≤ 1 → j ≤ 6 → H[q]? = some ce → ce.vm = .none → s.vm.findClass E = some ce.cls → px E ru le li bn ip aw ns → va_P D vwCl (wX a ++ wS a cI ru le li bn ip aw ns) H → va_D A (wX a ++ wS a cI ru le li bn ip aw ns) → va_S A s.heap H locs → vx_W p l e R s m args below meth c H locs k j Q (F0 m pc ls rest) q) : W p l e R s m args below meth c H locs 0 0 Q (F0 m 0 ls []) := by
  have hx := S.1
  have hb := S.2.1
  have hown := S.2.2.2.1
  have hts := S.2.2.2.2
  unfold V_Sj_list at vc
  refine lv_aload_n hx hb d_Sj_list_0 rfl (lv_at hl 0 rfl) ?_
  refine va_get (D := D) (ci := 5) (v := .ref (a 12)) (C := R_Sj) (T := F_Sj) (N := 4) hx hb hts in_Sj hown hK hP 0 rfl rfl 2 (by decide) (hts _ fl_Sj_26) (fun _ h => h) rfl d_Sj_list_1 ?_
  refine lv_iload_n hx hb d_Sj_list_4 rfl (lv_at hl 1 rfl) ?_
  refine pc_V (As := [.int x]) (rest := []) S (c_Sc_has l D a cI cJ cZ ru le li bn ip aw ns x) wB_blind k_Sc_has i_Sc_has e_Sc_has o_Sc ml_Sj_131 hd_Sc_has (Nat.le_trans (by decide) hRf) (Nat.le_trans (by decide) hRl) ⟨Nat.zero_le _, Nat.zero_le _⟩ (va_recv hK hP (q0 := 1) (ci := 3) rfl rfl) (wB_at (hP.sub (ws' := (wS a cI ru le li bn ip aw ns)) [1, 2, 3, 4, 5, 6, 7] rfl) hK) hl.1 rfl (Nat.le_of_ble_eq_true rfl) d_Sj_list_5 ?_
  obtain ⟨J1, vc, vc2⟩ := vc
  have jJ1 : ∀ (ls : Array Slot) (H : Heap) (locs : List Loc), J1 → lv_has ls 4 [(0, .ref (a 24)), (1, .int x), (2, .int y), (3, .int z)] → va_P D vwCl (wX a ++ wS a cI ru le li bn ip aw ns) H → va_D A (wX a ++ wS a cI ru le li bn ip aw ns) → va_S A s.heap H locs → W p l e R s m args below meth c H locs 0 0 Q (F0 m 33 ls []) := by
    intro  ls H locs vc hl hP hD hS
    have vc := vc2  vc
    exact hthr _ _ _ _ _ _ _ _ _ _ _ _ _ ls _ H locs ⟨x_IAE, (show ((134, "there is no such schema or keyword") : Nat × String) ∈ STRS by decide +kernel), d_Sj_list_33, d_Sj_list_36, d_Sj_list_37, d_Sj_list_39, d_Sj_list_42⟩ hl.1 (Nat.le_of_ble_eq_true rfl) vc hP hD hS
  clear vc2
  refine lv_if_eq (tgt := 33) hx hb d_Sj_list_8 (by decide) (fun h => ?_) (fun h => ?_)
  · have vc := vc.1 h
    exact jJ1 ls H locs vc (lv_sub hl [0, 1, 2, 3] rfl) hP hD hS
  · have vc := vc.2 h
    refine lv_iload_n hx hb d_Sj_list_11 rfl (lv_at hl 2 rfl) ?_
    refine lv_bipush (v := 29) hx hb d_Sj_list_12 (by decide) ?_
    refine lv_bipush (v := 32) hx hb d_Sj_list_14 (by decide) ?_
    refine pc_S (As := [.int y, .int 29, .int 32]) (rest := []) S (c_Sj_isWithin l y 29 32) wT_blind k_Sj_isWithin s_Sj_isWithin o_Sj ml_Sj_59 hd_Sj_isWithin (Nat.le_trans (by decide) hRf) (Nat.le_trans (by decide) hRl) ⟨Nat.zero_le _, Nat.zero_le _⟩ (fun _ _ _ => trivial) hl.1 rfl (Nat.le_of_ble_eq_true rfl) d_Sj_list_16 ?_
    refine lv_if_eq (tgt := 33) hx hb d_Sj_list_19 (by decide) (fun h => ?_) (fun h => ?_)
    · have vc := vc.1 h
      exact jJ1 ls H locs vc (lv_sub hl [0, 1, 2, 3] rfl) hP hD hS
    · have vc := vc.2 h
      refine lv_aload_n hx hb d_Sj_list_22 rfl (lv_at hl 0 rfl) ?_
      refine va_get (D := D) (ci := 5) (v := .ref (a 12)) (C := R_Sj) (T := F_Sj) (N := 4) hx hb hts in_Sj hown hK hP 0 rfl rfl 2 (by decide) (hts _ fl_Sj_26) (fun _ h => h) rfl d_Sj_list_23 ?_
      refine lv_iload_n hx hb d_Sj_list_26 rfl (lv_at hl 3 rfl) ?_
      refine pc_V (As := [.int z]) (rest := []) S (c_Sc_has l D a cI cJ cZ ru le li bn ip aw ns z) wB_blind k_Sc_has i_Sc_has e_Sc_has o_Sc ml_Sj_131 hd_Sc_has (Nat.le_trans (by decide) hRf) (Nat.le_trans (by decide) hRl) ⟨Nat.zero_le _, Nat.zero_le _⟩ (va_recv hK hP (q0 := 1) (ci := 3) rfl rfl) (wB_at (hP.sub (ws' := (wS a cI ru le li bn ip aw ns)) [1, 2, 3, 4, 5, 6, 7] rfl) hK) hl.1 rfl (Nat.le_of_ble_eq_true rfl) d_Sj_list_27 ?_
      refine lv_if_ne (tgt := 43) hx hb d_Sj_list_30 (by decide) (fun h => ?_) (fun h => ?_)
      · have vc := vc.1 h
        refine lv_aload_n hx hb d_Sj_list_43 rfl (lv_at hl 0 rfl) ?_
        refine va_get (D := D) (ci := 5) (v := .ref (a 12)) (C := R_Sj) (T := F_Sj) (N := 4) hx hb hts in_Sj hown hK hP 0 rfl rfl 2 (by decide) (hts _ fl_Sj_26) (fun _ h => h) rfl d_Sj_list_44 ?_
        refine lv_iload_n hx hb d_Sj_list_47 rfl (lv_at hl 1 rfl) ?_
        refine lv_iload_n hx hb d_Sj_list_48 rfl (lv_at hl 2 rfl) ?_
        obtain ⟨hpre, vc⟩ := vc
        refine pc_V (As := [.int x, .int y]) (rest := []) S (c_Sc_lengthOf l D a cI cJ cZ ru le li bn ip aw ns x y hpre) wB_blind k_Sc_lengthOf i_Sc_lengthOf e_Sc_lengthOf o_Sc ml_Sj_144 hd_Sc_lengthOf (Nat.le_trans (by decide) hRf) (Nat.le_trans (by decide) hRl) ⟨Nat.zero_le _, Nat.zero_le _⟩ (va_recv hK hP (q0 := 1) (ci := 3) rfl rfl) (wB_at (hP.sub (ws' := (wS a cI ru le li bn ip aw ns)) [1, 2, 3, 4, 5, 6, 7] rfl) hK) hl.1 rfl (Nat.le_of_ble_eq_true rfl) d_Sj_list_49 ?_
        refine lv_iconst (v := 3) hx hb d_Sj_list_52 (by decide) ?_
        refine lv_icmp_lt (tgt := 66) hx hb d_Sj_list_53 (by decide) (fun h => ?_) (fun h => ?_)
        · have vc := vc.1 h
          refine lv_aload_n hx hb d_Sj_list_66 rfl (lv_at hl 0 rfl) ?_
          refine va_get (D := D) (ci := 5) (v := .ref (a 12)) (C := R_Sj) (T := F_Sj) (N := 4) hx hb hts in_Sj hown hK hP 0 rfl rfl 2 (by decide) (hts _ fl_Sj_26) (fun _ h => h) rfl d_Sj_list_67 ?_
          refine lv_iload_n hx hb d_Sj_list_70 rfl (lv_at hl 1 rfl) ?_
          refine lv_iload_n hx hb d_Sj_list_71 rfl (lv_at hl 2 rfl) ?_
          refine lv_iload_n hx hb d_Sj_list_72 rfl (lv_at hl 3 rfl) ?_
          obtain ⟨hpre, vc⟩ := vc
          refine wc_V (As := [.int x, .int y, .int z]) (rest := []) (wr := (wX a)) S (c_Sc_addListed l D a cI cJ cZ ru le li bn ip aw ns x y z hpre) k_Sc_addListed i_Sc_addListed e_Sc_addListed o_Sc ml_Sj_150 hd_Sc_addListed (Nat.le_trans (by decide) hRf) (Nat.le_trans (by decide) hRl) ⟨Nat.zero_le _, Nat.zero_le _⟩ (va_recv hK hP (q0 := 1) (ci := 3) rfl rfl) hK hP hD hS hA [1, 2, 3, 4, 5, 6, 7] [0] rfl rfl rfl (by decide) (by decide) (by decide) hl.1 rfl (Nat.le_of_ble_eq_true rfl) d_Sj_list_73 (fun _ H locs _ hP hD hS => ?_)
          have hP : va_P D vwCl (wX a ++ wS a cI ru (upd le (x * 4 + y - 29 : Int32).toNatClampNeg (le (x * 4 + y - 29 : Int32).toNatClampNeg + 1)) (upd li ((x * 4 + y - 29) * 3 + le (x * 4 + y - 29 : Int32).toNatClampNeg : Int32).toNatClampNeg z) bn ip aw ns) H := hP.sub [0, 1, 2, 3, 4, 5, 6, 7] rfl
          have hD : va_D A (wX a ++ wS a cI ru (upd le (x * 4 + y - 29 : Int32).toNatClampNeg (le (x * 4 + y - 29 : Int32).toNatClampNeg + 1)) (upd li ((x * 4 + y - 29) * 3 + le (x * 4 + y - 29 : Int32).toNatClampNeg : Int32).toNatClampNeg z) bn ip aw ns) := hD.sub [0, 1, 2, 3, 4, 5, 6, 7] (by decide) rfl
          exact hret _ _ _ _ _ _ _ _ ls _ H locs _ _ d_Sj_list_76 (by decide) (by decide) vc hP hD hS
        · have vc := vc.2 h
          exact hthr _ _ _ _ _ _ _ _ _ _ _ _ _ ls _ H locs ⟨x_ISE, (show ((148, "the keyword has 3 schemas") : Nat × String) ∈ STRS by decide +kernel), d_Sj_list_56, d_Sj_list_59, d_Sj_list_60, d_Sj_list_62, d_Sj_list_65⟩ hl.1 (Nat.le_of_ble_eq_true rfl) vc hP hD hS
      · have vc := vc.2 h
        exact jJ1 ls H locs vc (lv_sub hl [0, 1, 2, 3] rfl) hP hD hS
theorem h_Sj_list (l : Launch) (hls : l.stackTraces = false) (D : va_G) (a : Nat → Nat) (cI cJ cZ : ClassId) (ru : Nat → Int32) (le : Nat → Int32) (li : Nat → Int32) (bn : Nat → Int32) (ip : Nat → Int32) (aw : Nat → Int32) (ns : Int32) (x : Int32) (y : Int32) (z : Int32) (ok : Prop) (bad : String → Prop) (r : Int32) (ru' : Nat → Int32) (le' : Nat → Int32) (li' : Nat → Int32) (bn' : Nat → Int32) (ip' : Nat → Int32) (aw' : Nat → Int32) (ns' : Int32) (ru'' : Nat → Int32) (le'' : Nat → Int32) (li'' : Nat → Int32) (bn'' : Nat → Int32) (ip'' : Nat → Int32) (aw'' : Nat → Int32) (ns'' : Int32) (vc : V_Sj_list ru le li bn ip aw ns x y z (fun v ru le li bn ip aw ns => ok ∧ v = r ∧ ru = ru' ∧ le = le' ∧ li = li' ∧ bn = bn' ∧ ip = ip' ∧ aw = aw' ∧ ns = ns') (fun E ru le li bn ip aw ns => bad E ∧ ru = ru'' ∧ le = le'' ∧ li = li'' ∧ bn = bn'' ∧ ip = ip'' ∧ aw = aw'' ∧ ns = ns'')) : Tm (S := Unit) (SX := Unit) l y_Sj_list b_Sj_list 4 (some .int) 6 90 [.ref (a 24), .int x, .int y, .int z] D (tyA cI cJ cZ) (wX a ++ wS a cI ru le li bn ip aw ns) (fun _ => ok) (fun _ => some (.int r)) (fun _ => (wX a ++ wS a cI ru' le' li' bn' ip' aw' ns')) (fun E _ => bad E) (fun _ => (wX a ++ wS a cI ru'' le'' li'' bn'' ip'' aw'' ns'')) :=
  tm_of hls (by decide) rfl (Or.inr ⟨.int, fun _ => r, rfl, fun _ => rfl, fun _ _ => rfl⟩) (Nat.le_of_ble_eq_true rfl) (by decide) (by decide) (fun p e s m below meth c ls Q A S hK hP hD hA hS hX hl hret hthr hout => g_Sj_list hls S (Nat.le_refl _) (Nat.le_refl _) ⟨Nat.le_refl _, Nat.le_refl _⟩ D a cI cJ cZ ru le li bn ip aw ns x y z hK hP hD hA hS hX hl vc
    (fun v ru le li bn ip aw ns ls pc H locs k j hd hk hj hv hP hD hS => by obtain ⟨hok, rfl, rfl, rfl, rfl, rfl, rfl, rfl, rfl⟩ := hv; exact hret () ls pc H locs k j _ (Or.inr ⟨_, rfl, rfl, hd⟩) hk hj hok hP hD hS)
    (fun ru le li bn ip aw ns E ik is ic tx pc ls rest H locs T hs hw hv hP hD hS => by obtain ⟨hbd, rfl, rfl, rfl, rfl, rfl, rfl, rfl⟩ := hv; exact hthr () E ik is ic tx pc ls rest H locs T hs hw hbd hP hD hS)
    (fun ru le li bn ip aw ns E ce q pc ls rest H locs k j hk hj h1 h2 h3 hv hP hD hS => by obtain ⟨hbd, rfl, rfl, rfl, rfl, rfl, rfl, rfl⟩ := hv; exact hout () E ce q pc ls rest H locs k j hk hj h1 h2 h3 hbd hP hD hS))
theorem c_Sj_list (l : Launch) (hls : l.stackTraces = false) (D : va_G) (a : Nat → Nat) (cI cJ cZ : ClassId) (ru : Nat → Int32) (le : Nat → Int32) (li : Nat → Int32) (bn : Nat → Int32) (ip : Nat → Int32) (aw : Nat → Int32) (ns : Int32) (x : Int32) (y : Int32) (z : Int32) (hpre : (ns ≤ 24 ∧ ∀ j : Nat, j < 96 → ∃ b : Nat, b ≤ 3 ∧ le j = nI b)) : Tm (S := Unit) (SX := Unit) l y_Sj_list b_Sj_list 4 (some .int) 6 90 [.ref (a 24), .int x, .int y, .int z] D (tyA cI cJ cZ) (wX a ++ wS a cI ru le li bn ip aw ns) (fun _ => (sHas ns x && (sIn y 29 32 && sHas ns z)) = true ∧ ¬ 3 ≤ le (x * 4 + y - 29 : Int32).toNatClampNeg) (fun _ => some (.int (le (x * 4 + y - 29 : Int32).toNatClampNeg + 1))) (fun _ => (wX a ++ wS a cI ru (upd le (x * 4 + y - 29 : Int32).toNatClampNeg (le (x * 4 + y - 29 : Int32).toNatClampNeg + 1)) (upd li ((x * 4 + y - 29) * 3 + le (x * 4 + y - 29 : Int32).toNatClampNeg : Int32).toNatClampNeg z) bn ip aw ns)) (fun E _ => E = IAE ∧ ¬ (sHas ns x && (sIn y 29 32 && sHas ns z)) = true ∨ E = ISE ∧ (sHas ns x && (sIn y 29 32 && sHas ns z)) = true ∧ 3 ≤ le (x * 4 + y - 29 : Int32).toNatClampNeg) (fun _ => (wX a ++ wS a cI ru le li bn ip aw ns)) := h_Sj_list l hls D a cI cJ cZ ru le li bn ip aw ns x y z ((sHas ns x && (sIn y 29 32 && sHas ns z)) = true ∧ ¬ 3 ≤ le (x * 4 + y - 29 : Int32).toNatClampNeg) (fun E => E = IAE ∧ ¬ (sHas ns x && (sIn y 29 32 && sHas ns z)) = true ∨ E = ISE ∧ (sHas ns x && (sIn y 29 32 && sHas ns z)) = true ∧ 3 ≤ le (x * 4 + y - 29 : Int32).toNatClampNeg) (le (x * 4 + y - 29 : Int32).toNatClampNeg + 1) ru (upd le (x * 4 + y - 29 : Int32).toNatClampNeg (le (x * 4 + y - 29 : Int32).toNatClampNeg + 1)) (upd li ((x * 4 + y - 29) * 3 + le (x * 4 + y - 29 : Int32).toNatClampNeg : Int32).toNatClampNeg z) bn ip aw ns ru le li bn ip aw ns (by
  unfold V_Sj_list
  refine ⟨¬ (sHas ns x && (sIn y 29 32 && sHas ns z)) = true, ⟨fun h => ?_, fun h => ⟨fun h2 => ?_, fun h2 => ⟨fun h3 => ?_, fun h3 => ?_⟩⟩⟩, fun h => ⟨Or.inl ⟨rfl, h⟩, by simp⟩⟩
  · intro hb; exact bI_eq.mp h (and2.mp hb).1
  · intro hb; exact bI_eq.mp h2 (and2.mp (and2.mp hb).2).1
  · have hb : (sHas ns x && (sIn y 29 32 && sHas ns z)) = true := and2.mpr ⟨bI_ne.mp h, and2.mpr ⟨bI_ne.mp h2, bI_ne.mp h3⟩⟩
    have hx : vp_in x 24 := vp_sHas (N := 24) (Int32.le_iff_toInt_le.mp hpre.1) (bI_ne.mp h)
    obtain ⟨r, k, hr, hk, -, -, e⟩ := idx_l hx (bI_ne.mp h2)
    rw [e]
    have hv : vp_in (nI (r * 4 + k)) 96 := vp_in_nI (by omega) (by decide)
    have hc : (nI (r * 4 + k)).toNatClampNeg = r * 4 + k := nI_clamp (by omega)
    obtain ⟨b, hb3, hpb⟩ := hpre.2 (r * 4 + k) (by omega)
    rw [hc]
    refine ⟨hv, fun h4 => ?_, fun h4 => ?_⟩
    · have h5 : ¬ 3 ≤ le (r * 4 + k) := Int32.not_le.mpr h4
      have hb' := lt_nI (c := 3) hpb (by decide) (by omega) h5
      refine ⟨⟨hv, ?_⟩, ⟨hb, h5⟩, by simp⟩
      rw [hpb, show (3 : Int32) = nI 3 from rfl, pk_mul, nI_add]
      exact vp_in_nI (by omega) (by decide)
    · exact ⟨Or.inr ⟨rfl, hb, Int32.not_lt.mp h4⟩, by simp⟩
  · intro hb; exact bI_eq.mp h3 (and2.mp (and2.mp hb).2).2)
theorem hd_Sj_list : y_Sj_list.cls ≠ "java/lang/invoke/MethodHandle" ∧ y_Sj_list.cls ≠ "java/lang/invoke/VarHandle" ∧ (parseMethodDescriptor y_Sj_list.desc).map (fun d => d.parameters.length) = some 3 := ⟨by decide, by decide, by decide +kernel⟩
def V_Sj_named (ru : Nat → Int32) (le : Nat → Int32) (li : Nat → Int32) (bn : Nat → Int32) (ip : Nat → Int32) (aw : Nat → Int32) (ns : Int32) (x : Int32) (y : Int32) (z : Int32) (u : Int32) (post : (Nat → Int32) → (Nat → Int32) → (Nat → Int32) → (Nat → Int32) → (Nat → Int32) → (Nat → Int32) → Int32 → Prop) (px : String → (Nat → Int32) → (Nat → Int32) → (Nat → Int32) → (Nat → Int32) → (Nat → Int32) → (Nat → Int32) → Int32 → Prop) : Prop :=
  (∃ J1 : Prop, (((bI (sHas ns x)) = 0 → J1) ∧ (¬ (bI (sHas ns x)) = 0 → (((bI (sIn y 33 35)) = 0 → J1) ∧ (¬ (bI (sIn y 33 35)) = 0 → ((¬ (bI (sIn z 0 11)) = 0 → (∃ J3 : Int32 → Prop, ((¬ y = 35 → J3 (bI (sHas ns u))) ∧ (y = 35 → J3 (bI (sIn u 0 4095)))) ∧ (∀ (x4 : Int32), J3 x4 → (∃ J5 : Prop, ((u = (-1) → J5) ∧ (¬ u = (-1) → ((¬ x4 = 0 → J5) ∧ (x4 = 0 → px IAE ru le li bn ip aw ns)))) ∧ (J5 → (vp_in ((x * 3 + y - 33) * 12 + z) 864 ∧ post ru le li (upd bn ((x * 3 + y - 33) * 12 + z : Int32).toNatClampNeg u) ip aw ns)))))) ∧ ((bI (sIn z 0 11)) = 0 → J1)))))) ∧ (J1 → px IAE ru le li bn ip aw ns))
set_option maxHeartbeats 4000000 in
set_option maxRecDepth 100000 in
theorem g_Sj_named {p : Program} {l : Launch} {e : Env} {R : Room} {s : State} {m : MethodId} {args : Array Value} {below : List Frame} {meth : Method} {c : Code} {H : Heap} {locs : List Loc} {Q : State → Prop} {ls : Array Slot} {A : Nat → Prop} (hls : l.stackTraces = false) (S : CallFix p m c b_Sj_named 6 s args W0 R_Sj) (hRf : 6 ≤ R.frames) (hRl : 90 ≤ R.locals) (hRc : 0 + 1 ≤ R.cells ∧ 0 + 6 ≤ R.slots) (D : va_G) (a : Nat → Nat) (cI cJ cZ : ClassId) (ru : Nat → Int32) (le : Nat → Int32) (li : Nat → Int32) (bn : Nat → Int32) (ip : Nat → Int32) (aw : Nat → Int32) (ns : Int32) (x : Int32) (y : Int32) (z : Int32) (u : Int32) (hK : va_K D vwCl (tyA cI cJ cZ) s) (hP : va_P D vwCl (wX a ++ wS a cI ru le li bn ip aw ns) H) (hD : va_D A (wX a ++ wS a cI ru le li bn ip aw ns)) (hA : ∀ q, s.heap.size ≤ q → A q) (hS : va_S A s.heap H locs) (hX : eX A s s.heap) (hl : lv_has ls 6 [(0, .ref (a 24)), (1, .int x), (2, .int y), (3, .int z), (4, .int u)]) {post : (Nat → Int32) → (Nat → Int32) → (Nat → Int32) → (Nat → Int32) → (Nat → Int32) → (Nat → Int32) → Int32 → Prop} {px : String → (Nat → Int32) → (Nat → Int32) → (Nat → Int32) → (Nat → Int32) → (Nat → Int32) → (Nat → Int32) → Int32 → Prop} (vc : V_Sj_named ru le li bn ip aw ns x y z u post px)
    (hret : ∀ (ru : Nat → Int32) (le : Nat → Int32) (li : Nat → Int32) (bn : Nat → Int32) (ip : Nat → Int32) (aw : Nat → Int32) (ns : Int32) (ls : Array Slot) (pc : Nat) (H : Heap) (locs : List Loc) (k j : Nat), decode b_Sj_named pc = .ok (.return_, 1) → k ≤ 1 → j ≤ 6 → post ru le li bn ip aw ns → va_P D vwCl (wX a ++ wS a cI ru le li bn ip aw ns) H → va_D A (wX a ++ wS a cI ru le li bn ip aw ns) → va_S A s.heap H locs → W p l e R s m args below meth c H locs k j Q (F0 m pc ls []))
    (hthr : ∀ (ru : Nat → Int32) (le : Nat → Int32) (li : Nat → Int32) (bn : Nat → Int32) (ip : Nat → Int32) (aw : Nat → Int32) (ns : Int32) (E : String) (ik is ic : Nat) (tx : String) (pc : Nat) (ls : Array Slot) (rest : List Value) (H : Heap) (locs : List Loc), ThrOK E ik is ic tx b_Sj_named pc → ls.size = 6 → (rest.map fun v => v.category).sum ≤ 8 → px E ru le li bn ip aw ns → va_P D vwCl (wX a ++ wS a cI ru le li bn ip aw ns) H → va_D A (wX a ++ wS a cI ru le li bn ip aw ns) → va_S A s.heap H locs → W p l e R s m args below meth c H locs 0 0 Q (F0 m pc ls rest))
    (hout : ∀ (ru : Nat → Int32) (le : Nat → Int32) (li : Nat → Int32) (bn : Nat → Int32) (ip : Nat → Int32) (aw : Nat → Int32) (ns : Int32) (E : String) (ce : Cell) (q : Addr) (pc : Nat) (ls : Array Slot) (rest : List Value) (H : Heap) (locs : List Loc) (k j : Nat), k ≤ 1 → j ≤ 6 → H[q]? = some ce → ce.vm = .none → s.vm.findClass E = some ce.cls → px E ru le li bn ip aw ns → va_P D vwCl (wX a ++ wS a cI ru le li bn ip aw ns) H → va_D A (wX a ++ wS a cI ru le li bn ip aw ns) → va_S A s.heap H locs → vx_W p l e R s m args below meth c H locs k j Q (F0 m pc ls rest) q) : W p l e R s m args below meth c H locs 0 0 Q (F0 m 0 ls []) := by
  have hx := S.1
  have hb := S.2.1
  have hown := S.2.2.2.1
  have hts := S.2.2.2.2
  unfold V_Sj_named at vc
  refine lv_aload_n hx hb d_Sj_named_0 rfl (lv_at hl 0 rfl) ?_
  refine va_get (D := D) (ci := 5) (v := .ref (a 12)) (C := R_Sj) (T := F_Sj) (N := 4) hx hb hts in_Sj hown hK hP 0 rfl rfl 2 (by decide) (hts _ fl_Sj_26) (fun _ h => h) rfl d_Sj_named_1 ?_
  refine lv_iload_n hx hb d_Sj_named_4 rfl (lv_at hl 1 rfl) ?_
  refine pc_V (As := [.int x]) (rest := []) S (c_Sc_has l D a cI cJ cZ ru le li bn ip aw ns x) wB_blind k_Sc_has i_Sc_has e_Sc_has o_Sc ml_Sj_131 hd_Sc_has (Nat.le_trans (by decide) hRf) (Nat.le_trans (by decide) hRl) ⟨Nat.zero_le _, Nat.zero_le _⟩ (va_recv hK hP (q0 := 1) (ci := 3) rfl rfl) (wB_at (hP.sub (ws' := (wS a cI ru le li bn ip aw ns)) [1, 2, 3, 4, 5, 6, 7] rfl) hK) hl.1 rfl (Nat.le_of_ble_eq_true rfl) d_Sj_named_5 ?_
  obtain ⟨J1, vc, vc2⟩ := vc
  have jJ1 : ∀ (ls : Array Slot) (H : Heap) (locs : List Loc), J1 → lv_has ls 6 [(0, .ref (a 24)), (1, .int x), (2, .int y), (3, .int z), (4, .int u)] → va_P D vwCl (wX a ++ wS a cI ru le li bn ip aw ns) H → va_D A (wX a ++ wS a cI ru le li bn ip aw ns) → va_S A s.heap H locs → W p l e R s m args below meth c H locs 0 0 Q (F0 m 29 ls []) := by
    intro  ls H locs vc hl hP hD hS
    have vc := vc2  vc
    exact hthr _ _ _ _ _ _ _ _ _ _ _ _ _ ls _ H locs ⟨x_IAE, (show ((153, "there is no such schema, keyword or name") : Nat × String) ∈ STRS by decide +kernel), d_Sj_named_29, d_Sj_named_32, d_Sj_named_33, d_Sj_named_35, d_Sj_named_38⟩ hl.1 (Nat.le_of_ble_eq_true rfl) vc hP hD hS
  clear vc2
  refine lv_if_eq (tgt := 29) hx hb d_Sj_named_8 (by decide) (fun h => ?_) (fun h => ?_)
  · have vc := vc.1 h
    exact jJ1 ls H locs vc (lv_sub hl [0, 1, 2, 3, 4] rfl) hP hD hS
  · have vc := vc.2 h
    refine lv_iload_n hx hb d_Sj_named_11 rfl (lv_at hl 2 rfl) ?_
    refine lv_bipush (v := 33) hx hb d_Sj_named_12 (by decide) ?_
    refine lv_bipush (v := 35) hx hb d_Sj_named_14 (by decide) ?_
    refine pc_S (As := [.int y, .int 33, .int 35]) (rest := []) S (c_Sj_isWithin l y 33 35) wT_blind k_Sj_isWithin s_Sj_isWithin o_Sj ml_Sj_59 hd_Sj_isWithin (Nat.le_trans (by decide) hRf) (Nat.le_trans (by decide) hRl) ⟨Nat.zero_le _, Nat.zero_le _⟩ (fun _ _ _ => trivial) hl.1 rfl (Nat.le_of_ble_eq_true rfl) d_Sj_named_16 ?_
    refine lv_if_eq (tgt := 29) hx hb d_Sj_named_19 (by decide) (fun h => ?_) (fun h => ?_)
    · have vc := vc.1 h
      exact jJ1 ls H locs vc (lv_sub hl [0, 1, 2, 3, 4] rfl) hP hD hS
    · have vc := vc.2 h
      refine lv_iload_n hx hb d_Sj_named_22 rfl (lv_at hl 3 rfl) ?_
      refine pc_S (As := [.int z]) (rest := []) S (c_Sj_isName l z) wT_blind k_Sj_isName s_Sj_isName o_Sj ml_Sj_96 hd_Sj_isName (Nat.le_trans (by decide) hRf) (Nat.le_trans (by decide) hRl) ⟨Nat.zero_le _, Nat.zero_le _⟩ (fun _ _ _ => trivial) hl.1 rfl (Nat.le_of_ble_eq_true rfl) d_Sj_named_23 ?_
      refine lv_if_ne (tgt := 39) hx hb d_Sj_named_26 (by decide) (fun h => ?_) (fun h => ?_)
      · have vc := vc.1 h
        refine lv_iload_n hx hb d_Sj_named_39 rfl (lv_at hl 2 rfl) ?_
        refine lv_bipush (v := 35) hx hb d_Sj_named_40 (by decide) ?_
        obtain ⟨J3, vc, vc2⟩ := vc
        have jJ3 : ∀ (x4 : Int32) (ls : Array Slot) (H : Heap) (locs : List Loc), J3 x4 → lv_has ls 6 [(0, .ref (a 24)), (1, .int x), (2, .int y), (3, .int z), (4, .int u)] → va_P D vwCl (wX a ++ wS a cI ru le li bn ip aw ns) H → va_D A (wX a ++ wS a cI ru le li bn ip aw ns) → va_S A s.heap H locs → W p l e R s m args below meth c H locs 0 0 Q (F0 m 66 ls [.int x4]) := by
          intro x4 ls H locs vc hl hP hD hS
          have vc := vc2 x4 vc
          refine lv_istore hx hb d_Sj_named_66 hl (by decide) (lv' := [(5, .int x4), (0, .ref (a 24)), (1, .int x), (2, .int y), (3, .int z), (4, .int u)]) rfl (fun ls hl => ?_)
          refine lv_iload hx hb d_Sj_named_68 (lv_at hl 5 rfl) ?_
          refine lv_iconst (v := (-1)) hx hb d_Sj_named_70 (by decide) ?_
          obtain ⟨J5, vc, vc2⟩ := vc
          have jJ5 : ∀ (ls : Array Slot) (H : Heap) (locs : List Loc), J5 → lv_has ls 6 [(0, .ref (a 24)), (1, .int x), (2, .int y), (3, .int z), (4, .int u), (5, .int x4)] → va_P D vwCl (wX a ++ wS a cI ru le li bn ip aw ns) H → va_D A (wX a ++ wS a cI ru le li bn ip aw ns) → va_S A s.heap H locs → W p l e R s m args below meth c H locs 0 0 Q (F0 m 89 ls []) := by
            intro  ls H locs vc hl hP hD hS
            have vc := vc2  vc
            refine lv_aload_n hx hb d_Sj_named_89 rfl (lv_at hl 0 rfl) ?_
            refine va_get (D := D) (ci := 5) (v := .ref (a 12)) (C := R_Sj) (T := F_Sj) (N := 4) hx hb hts in_Sj hown hK hP 0 rfl rfl 2 (by decide) (hts _ fl_Sj_26) (fun _ h => h) rfl d_Sj_named_90 ?_
            refine lv_iload_n hx hb d_Sj_named_93 rfl (lv_at hl 1 rfl) ?_
            refine lv_iload_n hx hb d_Sj_named_94 rfl (lv_at hl 2 rfl) ?_
            refine lv_iload_n hx hb d_Sj_named_95 rfl (lv_at hl 3 rfl) ?_
            refine lv_iload hx hb d_Sj_named_96 (lv_at hl 4 rfl) ?_
            obtain ⟨hpre, vc⟩ := vc
            refine wc_V (As := [.int x, .int y, .int z, .int u]) (rest := []) (wr := (wX a)) S (c_Sc_setByName l D a cI cJ cZ ru le li bn ip aw ns x y z u hpre) k_Sc_setByName i_Sc_setByName e_Sc_setByName o_Sc ml_Sj_155 hd_Sc_setByName (Nat.le_trans (by decide) hRf) (Nat.le_trans (by decide) hRl) ⟨Nat.zero_le _, Nat.zero_le _⟩ (va_recv hK hP (q0 := 1) (ci := 3) rfl rfl) hK hP hD hS hA [1, 2, 3, 4, 5, 6, 7] [0] rfl rfl rfl (by decide) (by decide) (by decide) hl.1 rfl (Nat.le_of_ble_eq_true rfl) d_Sj_named_98 (fun _ H locs _ hP hD hS => ?_)
            have hP : va_P D vwCl (wX a ++ wS a cI ru le li (upd bn ((x * 3 + y - 33) * 12 + z : Int32).toNatClampNeg u) ip aw ns) H := hP.sub [0, 1, 2, 3, 4, 5, 6, 7] rfl
            have hD : va_D A (wX a ++ wS a cI ru le li (upd bn ((x * 3 + y - 33) * 12 + z : Int32).toNatClampNeg u) ip aw ns) := hD.sub [0, 1, 2, 3, 4, 5, 6, 7] (by decide) rfl
            exact hret _ _ _ _ _ _ _ ls _ H locs _ _ d_Sj_named_101 (by decide) (by decide) vc hP hD hS
          clear vc2
          refine lv_icmp_eq (tgt := 89) hx hb d_Sj_named_71 (by decide) (fun h => ?_) (fun h => ?_)
          · have vc := vc.1 h
            exact jJ5 ls H locs vc (lv_sub hl [1, 2, 3, 4, 5, 0] rfl) hP hD hS
          · have vc := vc.2 h
            refine lv_iload hx hb d_Sj_named_74 (lv_at hl 0 rfl) ?_
            refine lv_if_ne (tgt := 89) hx hb d_Sj_named_76 (by decide) (fun h => ?_) (fun h => ?_)
            · have vc := vc.1 h
              exact jJ5 ls H locs vc (lv_sub hl [1, 2, 3, 4, 5, 0] rfl) hP hD hS
            · have vc := vc.2 h
              exact hthr _ _ _ _ _ _ _ _ _ _ _ _ _ ls _ H locs ⟨x_IAE, (show ((139, "x is neither -1 nor what the keyword takes") : Nat × String) ∈ STRS by decide +kernel), d_Sj_named_79, d_Sj_named_82, d_Sj_named_83, d_Sj_named_85, d_Sj_named_88⟩ hl.1 (Nat.le_of_ble_eq_true rfl) vc hP hD hS
        clear vc2
        refine lv_icmp_ne (tgt := 57) hx hb d_Sj_named_42 (by decide) (fun h => ?_) (fun h => ?_)
        · have vc := vc.1 h
          refine lv_aload_n hx hb d_Sj_named_57 rfl (lv_at hl 0 rfl) ?_
          refine va_get (D := D) (ci := 5) (v := .ref (a 12)) (C := R_Sj) (T := F_Sj) (N := 4) hx hb hts in_Sj hown hK hP 0 rfl rfl 2 (by decide) (hts _ fl_Sj_26) (fun _ h => h) rfl d_Sj_named_58 ?_
          refine lv_iload hx hb d_Sj_named_61 (lv_at hl 4 rfl) ?_
          refine pc_V (As := [.int u]) (rest := []) S (c_Sc_has l D a cI cJ cZ ru le li bn ip aw ns u) wB_blind k_Sc_has i_Sc_has e_Sc_has o_Sc ml_Sj_131 hd_Sc_has (Nat.le_trans (by decide) hRf) (Nat.le_trans (by decide) hRl) ⟨Nat.zero_le _, Nat.zero_le _⟩ (va_recv hK hP (q0 := 1) (ci := 3) rfl rfl) (wB_at (hP.sub (ws' := (wS a cI ru le li bn ip aw ns)) [1, 2, 3, 4, 5, 6, 7] rfl) hK) hl.1 rfl (Nat.le_of_ble_eq_true rfl) d_Sj_named_63 ?_
          exact jJ3 (bI (sHas ns u)) ls H locs vc (lv_sub hl [0, 1, 2, 3, 4] rfl) hP hD hS
        · have vc := vc.2 h
          refine lv_iload hx hb d_Sj_named_45 (lv_at hl 4 rfl) ?_
          refine lv_iconst (v := 0) hx hb d_Sj_named_47 (by decide) ?_
          refine lv_sipush (v := 4095) hx hb d_Sj_named_48 (by decide) ?_
          refine pc_S (As := [.int u, .int 0, .int 4095]) (rest := []) S (c_Sj_isWithin l u 0 4095) wT_blind k_Sj_isWithin s_Sj_isWithin o_Sj ml_Sj_59 hd_Sj_isWithin (Nat.le_trans (by decide) hRf) (Nat.le_trans (by decide) hRl) ⟨Nat.zero_le _, Nat.zero_le _⟩ (fun _ _ _ => trivial) hl.1 rfl (Nat.le_of_ble_eq_true rfl) d_Sj_named_51 ?_
          refine lv_goto (tgt := 66) hx hb d_Sj_named_54 (by decide) ?_
          exact jJ3 (bI (sIn u 0 4095)) ls H locs vc (lv_sub hl [0, 1, 2, 3, 4] rfl) hP hD hS
      · have vc := vc.2 h
        exact jJ1 ls H locs vc (lv_sub hl [0, 1, 2, 3, 4] rfl) hP hD hS
theorem h_Sj_named (l : Launch) (hls : l.stackTraces = false) (D : va_G) (a : Nat → Nat) (cI cJ cZ : ClassId) (ru : Nat → Int32) (le : Nat → Int32) (li : Nat → Int32) (bn : Nat → Int32) (ip : Nat → Int32) (aw : Nat → Int32) (ns : Int32) (x : Int32) (y : Int32) (z : Int32) (u : Int32) (ok : Prop) (bad : String → Prop) (ru' : Nat → Int32) (le' : Nat → Int32) (li' : Nat → Int32) (bn' : Nat → Int32) (ip' : Nat → Int32) (aw' : Nat → Int32) (ns' : Int32) (ru'' : Nat → Int32) (le'' : Nat → Int32) (li'' : Nat → Int32) (bn'' : Nat → Int32) (ip'' : Nat → Int32) (aw'' : Nat → Int32) (ns'' : Int32) (vc : V_Sj_named ru le li bn ip aw ns x y z u (fun ru le li bn ip aw ns => ok ∧ ru = ru' ∧ le = le' ∧ li = li' ∧ bn = bn' ∧ ip = ip' ∧ aw = aw' ∧ ns = ns') (fun E ru le li bn ip aw ns => bad E ∧ ru = ru'' ∧ le = le'' ∧ li = li'' ∧ bn = bn'' ∧ ip = ip'' ∧ aw = aw'' ∧ ns = ns'')) : Tm (S := Unit) (SX := Unit) l y_Sj_named b_Sj_named 6 none 6 90 [.ref (a 24), .int x, .int y, .int z, .int u] D (tyA cI cJ cZ) (wX a ++ wS a cI ru le li bn ip aw ns) (fun _ => ok) (fun _ => none) (fun _ => (wX a ++ wS a cI ru' le' li' bn' ip' aw' ns')) (fun E _ => bad E) (fun _ => (wX a ++ wS a cI ru'' le'' li'' bn'' ip'' aw'' ns'')) :=
  tm_of hls (by decide) rfl (Or.inl ⟨rfl, fun _ => rfl⟩) (Nat.le_of_ble_eq_true rfl) (by decide) (by decide) (fun p e s m below meth c ls Q A S hK hP hD hA hS hX hl hret hthr hout => g_Sj_named hls S (Nat.le_refl _) (Nat.le_refl _) ⟨Nat.le_refl _, Nat.le_refl _⟩ D a cI cJ cZ ru le li bn ip aw ns x y z u hK hP hD hA hS hX hl vc
    (fun  ru le li bn ip aw ns ls pc H locs k j hd hk hj hv hP hD hS => by obtain ⟨hok, rfl, rfl, rfl, rfl, rfl, rfl, rfl⟩ := hv; exact hret () ls pc H locs k j _ (Or.inl ⟨rfl, rfl, hd⟩) hk hj hok hP hD hS)
    (fun ru le li bn ip aw ns E ik is ic tx pc ls rest H locs T hs hw hv hP hD hS => by obtain ⟨hbd, rfl, rfl, rfl, rfl, rfl, rfl, rfl⟩ := hv; exact hthr () E ik is ic tx pc ls rest H locs T hs hw hbd hP hD hS)
    (fun ru le li bn ip aw ns E ce q pc ls rest H locs k j hk hj h1 h2 h3 hv hP hD hS => by obtain ⟨hbd, rfl, rfl, rfl, rfl, rfl, rfl, rfl⟩ := hv; exact hout () E ce q pc ls rest H locs k j hk hj h1 h2 h3 hbd hP hD hS))
theorem c_Sj_named (l : Launch) (hls : l.stackTraces = false) (D : va_G) (a : Nat → Nat) (cI cJ cZ : ClassId) (ru : Nat → Int32) (le : Nat → Int32) (li : Nat → Int32) (bn : Nat → Int32) (ip : Nat → Int32) (aw : Nat → Int32) (ns : Int32) (x : Int32) (y : Int32) (z : Int32) (u : Int32) (hpre : ns ≤ 24) : Tm (S := Unit) (SX := Unit) l y_Sj_named b_Sj_named 6 none 6 90 [.ref (a 24), .int x, .int y, .int z, .int u] D (tyA cI cJ cZ) (wX a ++ wS a cI ru le li bn ip aw ns) (fun _ => ((sHas ns x && (sIn y 33 35 && sIn z 0 11)) = true ∧ (u = -1 ∨ (if y = 35 then sIn u 0 4095 else sHas ns u) = true))) (fun _ => none) (fun _ => (wX a ++ wS a cI ru le li (upd bn ((x * 3 + y - 33) * 12 + z : Int32).toNatClampNeg u) ip aw ns)) (fun E _ => E = IAE ∧ ¬ ((sHas ns x && (sIn y 33 35 && sIn z 0 11)) = true ∧ (u = -1 ∨ (if y = 35 then sIn u 0 4095 else sHas ns u) = true))) (fun _ => (wX a ++ wS a cI ru le li bn ip aw ns)) := h_Sj_named l hls D a cI cJ cZ ru le li bn ip aw ns x y z u ((sHas ns x && (sIn y 33 35 && sIn z 0 11)) = true ∧ (u = -1 ∨ (if y = 35 then sIn u 0 4095 else sHas ns u) = true)) (fun E => E = IAE ∧ ¬ ((sHas ns x && (sIn y 33 35 && sIn z 0 11)) = true ∧ (u = -1 ∨ (if y = 35 then sIn u 0 4095 else sHas ns u) = true))) ru le li (upd bn ((x * 3 + y - 33) * 12 + z : Int32).toNatClampNeg u) ip aw ns ru le li bn ip aw ns (by
  unfold V_Sj_named
  refine ⟨¬ (sHas ns x && (sIn y 33 35 && sIn z 0 11)) = true, ⟨fun h => ?_, fun h => ⟨fun h2 => ?_, fun h2 => ⟨fun h3 => ?_, fun h3 => ?_⟩⟩⟩, fun h => ⟨⟨rfl, fun hb => h hb.1⟩, by simp⟩⟩
  · intro hb; exact bI_eq.mp h (and2.mp hb).1
  · intro hb; exact bI_eq.mp h2 (and2.mp (and2.mp hb).2).1
  · have hb : (sHas ns x && (sIn y 33 35 && sIn z 0 11)) = true := and2.mpr ⟨bI_ne.mp h, and2.mpr ⟨bI_ne.mp h2, bI_ne.mp h3⟩⟩
    have hx : vp_in x 24 := vp_sHas (N := 24) (Int32.le_iff_toInt_le.mp hpre) (bI_ne.mp h)
    refine ⟨fun w => w = bI (if y = 35 then sIn u 0 4095 else sHas ns u), ⟨fun h4 => by simp [h4], fun h4 => by simp [h4]⟩, fun w hw => ⟨u = -1 ∨ (if y = 35 then sIn u 0 4095 else sHas ns u) = true, ⟨fun h4 => Or.inl h4, fun h4 => ⟨fun h5 => Or.inr ?_, fun h5 => ⟨⟨rfl, ?_⟩, by simp⟩⟩⟩, fun h4 => ⟨idx_n hx (bI_ne.mp h2) (bI_ne.mp h3), ⟨hb, h4⟩, by simp⟩⟩⟩
    · subst hw; exact bI_ne.mp h5
    · subst hw; intro hb2; exact hb2.2.elim h4 (bI_eq.mp h5)
  · intro hb; exact bI_eq.mp h3 (and2.mp (and2.mp hb).2).2)
theorem hd_Sj_named : y_Sj_named.cls ≠ "java/lang/invoke/MethodHandle" ∧ y_Sj_named.cls ≠ "java/lang/invoke/VarHandle" ∧ (parseMethodDescriptor y_Sj_named.desc).map (fun d => d.parameters.length) = some 4 := ⟨by decide, by decide, by decide +kernel⟩
def sTakes (ki : Nat → Int32) (co : Nat → Int64) (nv ns k x : Int32) : Bool :=
  if k = 0 then sIn x 0 127 else if k = 1 then sHas nv x else if k = 2 then sKind ki nv x 4 else if k = 3 ∨ k = 4 ∨ k = 5 ∨ k = 6 then sKind ki nv x 2
  else if k = 7 then sKind ki nv x 2 && decide (0 < co x.toNatClampNeg) else if k = 8 ∨ k = 9 ∨ k = 11 ∨ k = 12 ∨ k = 14 ∨ k = 15 ∨ k = 24 ∨ k = 25 then sIn x 0 12
  else if k = 10 then sHas 8 x else if k = 13 then sIn x 0 1 else if k = 16 then sIn x 0 4095 else sHas ns x
def V_Sj_isTaken (ki : Nat → Int32) (co : Nat → Int64) (pr : Nat → Int32) (pa : Nat → Int32) (tw : Nat → Int32) (nv : Int32) (sv : Int32) (pn : Nat → Int32) (pl : Nat → Int32) (po : Nat → Int32) (pf : Nat → Int32) (pt : Nat → Int32) (ru : Nat → Int32) (le : Nat → Int32) (li : Nat → Int32) (bn : Nat → Int32) (ip : Nat → Int32) (aw : Nat → Int32) (ns : Int32) (k : Int32) (x : Int32) (post : Int32 → Prop) : Prop :=
  (((k = 0) → post (bI (sIn x 0 127))) ∧ ((k = 1) → post (bI (sHas nv x))) ∧ ((k = 2) → (nv ≤ 40 ∧ post (bI (sKind ki nv x 4)))) ∧ ((k = 3 ∨ k = 4 ∨ k = 5 ∨ k = 6) → (nv ≤ 40 ∧ post (bI (sKind ki nv x 2)))) ∧ ((k = 7) → (nv ≤ 40 ∧ (((bI (sKind ki nv x 2)) = 0 → post 0) ∧ (¬ (bI (sKind ki nv x 2)) = 0 → (vp_in x 40 ∧ (((lg_cmp (co x.toNatClampNeg) 0) ≤ 0 → post 0) ∧ (¬ (lg_cmp (co x.toNatClampNeg) 0) ≤ 0 → post 1))))))) ∧ ((k = 8 ∨ k = 9 ∨ k = 11 ∨ k = 12 ∨ k = 14 ∨ k = 15 ∨ k = 24 ∨ k = 25) → post (bI (sIn x 0 12))) ∧ ((k = 10) → post (bI (sHas 8 x))) ∧ ((k = 13) → post (bI (sIn x 0 1))) ∧ ((k = 16) → post (bI (sIn x 0 4095))) ∧ (((k.toInt < 0 ∨ 25 < k.toInt) ∨ k = 17 ∨ k = 18 ∨ k = 19 ∨ k = 20 ∨ k = 21 ∨ k = 22 ∨ k = 23) → post (bI (sHas ns x))))
set_option maxHeartbeats 4000000 in
set_option maxRecDepth 100000 in
theorem g_Sj_isTaken {p : Program} {l : Launch} {e : Env} {R : Room} {s : State} {m : MethodId} {args : Array Value} {below : List Frame} {meth : Method} {c : Code} {H : Heap} {locs : List Loc} {cells slots : Nat} {Q : State → Prop} {ls : Array Slot} (S : CallFix p m c b_Sj_isTaken 3 s args W0 R_Sj) (hRf : 2 ≤ R.frames) (hRl : 43 ≤ R.locals) (hRc : cells ≤ R.cells ∧ slots ≤ R.slots) (D : va_G) (a : Nat → Nat) (cI cJ cZ : ClassId) (ki : Nat → Int32) (co : Nat → Int64) (pr : Nat → Int32) (pa : Nat → Int32) (tw : Nat → Int32) (nv : Int32) (sv : Int32) (pn : Nat → Int32) (pl : Nat → Int32) (po : Nat → Int32) (pf : Nat → Int32) (pt : Nat → Int32) (ru : Nat → Int32) (le : Nat → Int32) (li : Nat → Int32) (bn : Nat → Int32) (ip : Nat → Int32) (aw : Nat → Int32) (ns : Int32) (k : Int32) (x : Int32) (hK : va_K D vwCl (tyA cI cJ cZ) s) (hP : va_P D vwCl (wX a ++ wV a cI cJ ki co pr pa tw nv sv ++ wP a cI cZ pn pl po pf pt ++ wS a cI ru le li bn ip aw ns) H) (hl : lv_has ls 3 [(0, .ref (a 24)), (1, .int k), (2, .int x)]) {post : Int32 → Prop} (vc : V_Sj_isTaken ki co pr pa tw nv sv pn pl po pf pt ru le li bn ip aw ns k x post)
    (hret : ∀ (v : Int32) (ls : Array Slot) (pc : Nat), decode b_Sj_isTaken pc = .ok (.ireturn, 1) → post v → W p l e R s m args below meth c H locs cells slots Q (F0 m pc ls [.int v])) : W p l e R s m args below meth c H locs cells slots Q (F0 m 0 ls []) := by
  have hx := S.1
  have hb := S.2.1
  have hown := S.2.2.2.1
  have hts := S.2.2.2.2
  unfold V_Sj_isTaken at vc
  refine lv_iload_n hx hb d_Sj_isTaken_0 rfl (lv_at hl 1 rfl) ?_
  refine lv_topi (fun xs es => ?_)
  have a120 : (k = 0) → W p l e R s m args below meth c H locs cells slots Q (F0 m 120 ls []) := by
    intro h
    have vc := vc.1 h
    refine lv_iload_n hx hb d_Sj_isTaken_120 rfl (lv_at hl 2 rfl) ?_
    refine lv_iconst (v := 0) hx hb d_Sj_isTaken_121 (by decide) ?_
    refine lv_bipush (v := 127) hx hb d_Sj_isTaken_122 (by decide) ?_
    refine pc_S (As := [.int x, .int 0, .int 127]) (rest := []) S (c_Sj_isWithin l x 0 127) wT_blind k_Sj_isWithin s_Sj_isWithin o_Sj ml_Sj_59 hd_Sj_isWithin (Nat.le_trans (by decide) hRf) (Nat.le_trans (by decide) hRl) hRc (fun _ _ _ => trivial) hl.1 rfl (Nat.le_of_ble_eq_true rfl) d_Sj_isTaken_124 ?_
    exact hret _ ls _ d_Sj_isTaken_127 vc
  have a128 : (k = 1) → W p l e R s m args below meth c H locs cells slots Q (F0 m 128 ls []) := by
    intro h
    have vc := vc.2.1 h
    refine lv_aload_n hx hb d_Sj_isTaken_128 rfl (lv_at hl 0 rfl) ?_
    refine va_get (D := D) (ci := 5) (v := .ref (a 0)) (C := R_Sj) (T := F_Sj) (N := 4) hx hb hts in_Sj hown hK hP 0 rfl rfl 0 (by decide) (hts _ fl_Sj_10) (fun _ h => h) rfl d_Sj_isTaken_129 ?_
    refine lv_iload_n hx hb d_Sj_isTaken_132 rfl (lv_at hl 2 rfl) ?_
    refine pc_V (As := [.int x]) (rest := []) S (c_Va_has l D a cI cJ cZ ki co pr pa tw nv sv x) wB_blind k_Va_has i_Va_has e_Va_has o_Va ml_Sj_159 hd_Va_has (Nat.le_trans (by decide) hRf) (Nat.le_trans (by decide) hRl) hRc (va_recv hK hP (q0 := 1) (ci := 4) rfl rfl) (wB_at (hP.sub (ws' := (wV a cI cJ ki co pr pa tw nv sv)) [1, 2, 3, 4, 5, 6] rfl) hK) hl.1 rfl (Nat.le_of_ble_eq_true rfl) d_Sj_isTaken_133 ?_
    exact hret _ ls _ d_Sj_isTaken_136 vc
  have a137 : (k = 2) → W p l e R s m args below meth c H locs cells slots Q (F0 m 137 ls []) := by
    intro h
    have vc := vc.2.2.1 h
    refine lv_aload_n hx hb d_Sj_isTaken_137 rfl (lv_at hl 0 rfl) ?_
    refine va_get (D := D) (ci := 5) (v := .ref (a 0)) (C := R_Sj) (T := F_Sj) (N := 4) hx hb hts in_Sj hown hK hP 0 rfl rfl 0 (by decide) (hts _ fl_Sj_10) (fun _ h => h) rfl d_Sj_isTaken_138 ?_
    refine lv_iload_n hx hb d_Sj_isTaken_141 rfl (lv_at hl 2 rfl) ?_
    refine lv_iconst (v := 4) hx hb d_Sj_isTaken_142 (by decide) ?_
    obtain ⟨hpre, vc⟩ := vc
    refine pc_V (As := [.int x, .int 4]) (rest := []) S (c_Va_isOfKind l D a cI cJ cZ ki co pr pa tw nv sv x 4 hpre) wB_blind k_Va_isOfKind i_Va_isOfKind e_Va_isOfKind o_Va ml_Sj_77 hd_Va_isOfKind (Nat.le_trans (by decide) hRf) (Nat.le_trans (by decide) hRl) hRc (va_recv hK hP (q0 := 1) (ci := 4) rfl rfl) (wB_at (hP.sub (ws' := (wV a cI cJ ki co pr pa tw nv sv)) [1, 2, 3, 4, 5, 6] rfl) hK) hl.1 rfl (Nat.le_of_ble_eq_true rfl) d_Sj_isTaken_143 ?_
    exact hret _ ls _ d_Sj_isTaken_146 vc
  have a147 : (k = 3 ∨ k = 4 ∨ k = 5 ∨ k = 6) → W p l e R s m args below meth c H locs cells slots Q (F0 m 147 ls []) := by
    intro h
    have vc := vc.2.2.2.1 h
    refine lv_aload_n hx hb d_Sj_isTaken_147 rfl (lv_at hl 0 rfl) ?_
    refine va_get (D := D) (ci := 5) (v := .ref (a 0)) (C := R_Sj) (T := F_Sj) (N := 4) hx hb hts in_Sj hown hK hP 0 rfl rfl 0 (by decide) (hts _ fl_Sj_10) (fun _ h => h) rfl d_Sj_isTaken_148 ?_
    refine lv_iload_n hx hb d_Sj_isTaken_151 rfl (lv_at hl 2 rfl) ?_
    refine lv_iconst (v := 2) hx hb d_Sj_isTaken_152 (by decide) ?_
    obtain ⟨hpre, vc⟩ := vc
    refine pc_V (As := [.int x, .int 2]) (rest := []) S (c_Va_isOfKind l D a cI cJ cZ ki co pr pa tw nv sv x 2 hpre) wB_blind k_Va_isOfKind i_Va_isOfKind e_Va_isOfKind o_Va ml_Sj_77 hd_Va_isOfKind (Nat.le_trans (by decide) hRf) (Nat.le_trans (by decide) hRl) hRc (va_recv hK hP (q0 := 1) (ci := 4) rfl rfl) (wB_at (hP.sub (ws' := (wV a cI cJ ki co pr pa tw nv sv)) [1, 2, 3, 4, 5, 6] rfl) hK) hl.1 rfl (Nat.le_of_ble_eq_true rfl) d_Sj_isTaken_153 ?_
    exact hret _ ls _ d_Sj_isTaken_156 vc
  have a157 : (k = 7) → W p l e R s m args below meth c H locs cells slots Q (F0 m 157 ls []) := by
    intro h
    have vc := vc.2.2.2.2.1 h
    refine lv_aload_n hx hb d_Sj_isTaken_157 rfl (lv_at hl 0 rfl) ?_
    refine va_get (D := D) (ci := 5) (v := .ref (a 0)) (C := R_Sj) (T := F_Sj) (N := 4) hx hb hts in_Sj hown hK hP 0 rfl rfl 0 (by decide) (hts _ fl_Sj_10) (fun _ h => h) rfl d_Sj_isTaken_158 ?_
    refine lv_iload_n hx hb d_Sj_isTaken_161 rfl (lv_at hl 2 rfl) ?_
    refine lv_iconst (v := 2) hx hb d_Sj_isTaken_162 (by decide) ?_
    obtain ⟨hpre, vc⟩ := vc
    refine pc_V (As := [.int x, .int 2]) (rest := []) S (c_Va_isOfKind l D a cI cJ cZ ki co pr pa tw nv sv x 2 hpre) wB_blind k_Va_isOfKind i_Va_isOfKind e_Va_isOfKind o_Va ml_Sj_77 hd_Va_isOfKind (Nat.le_trans (by decide) hRf) (Nat.le_trans (by decide) hRl) hRc (va_recv hK hP (q0 := 1) (ci := 4) rfl rfl) (wB_at (hP.sub (ws' := (wV a cI cJ ki co pr pa tw nv sv)) [1, 2, 3, 4, 5, 6] rfl) hK) hl.1 rfl (Nat.le_of_ble_eq_true rfl) d_Sj_isTaken_163 ?_
    refine lv_if_eq (tgt := 186) hx hb d_Sj_isTaken_166 (by decide) (fun h => ?_) (fun h => ?_)
    · have vc := vc.1 h
      refine lv_iconst (v := 0) hx hb d_Sj_isTaken_186 (by decide) ?_
      exact hret _ ls _ d_Sj_isTaken_187 vc
    · have vc := vc.2 h
      refine lv_aload_n hx hb d_Sj_isTaken_169 rfl (lv_at hl 0 rfl) ?_
      refine va_get (D := D) (ci := 5) (v := .ref (a 0)) (C := R_Sj) (T := F_Sj) (N := 4) hx hb hts in_Sj hown hK hP 0 rfl rfl 0 (by decide) (hts _ fl_Sj_10) (fun _ h => h) rfl d_Sj_isTaken_170 ?_
      refine lv_iload_n hx hb d_Sj_isTaken_173 rfl (lv_at hl 2 rfl) ?_
      obtain ⟨hpre, vc⟩ := vc
      refine pc_V (As := [.int x]) (rest := []) S (c_Va_coreOf l D a cI cJ cZ ki co pr pa tw nv sv x hpre) wB_blind k_Va_coreOf i_Va_coreOf e_Va_coreOf o_Va ml_Sj_208 hd_Va_coreOf (Nat.le_trans (by decide) hRf) (Nat.le_trans (by decide) hRl) hRc (va_recv hK hP (q0 := 1) (ci := 4) rfl rfl) (wB_at (hP.sub (ws' := (wV a cI cJ ki co pr pa tw nv sv)) [1, 2, 3, 4, 5, 6] rfl) hK) hl.1 rfl (Nat.le_of_ble_eq_true rfl) d_Sj_isTaken_174 ?_
      refine lv_lconst (v := 0) hx hb d_Sj_isTaken_177 (by decide) ?_
      refine W.lcmp hx hb d_Sj_isTaken_178 ?_
      refine lv_if_le (tgt := 186) hx hb d_Sj_isTaken_179 (by decide) (fun h => ?_) (fun h => ?_)
      · have vc := vc.1 h
        refine lv_iconst (v := 0) hx hb d_Sj_isTaken_186 (by decide) ?_
        exact hret _ ls _ d_Sj_isTaken_187 vc
      · have vc := vc.2 h
        refine lv_iconst (v := 1) hx hb d_Sj_isTaken_182 (by decide) ?_
        refine lv_goto (tgt := 187) hx hb d_Sj_isTaken_183 (by decide) ?_
        exact hret _ ls _ d_Sj_isTaken_187 vc
  have a188 : (k = 8 ∨ k = 9 ∨ k = 11 ∨ k = 12 ∨ k = 14 ∨ k = 15 ∨ k = 24 ∨ k = 25) → W p l e R s m args below meth c H locs cells slots Q (F0 m 188 ls []) := by
    intro h
    have vc := vc.2.2.2.2.2.1 h
    refine lv_iload_n hx hb d_Sj_isTaken_188 rfl (lv_at hl 2 rfl) ?_
    refine lv_iconst (v := 0) hx hb d_Sj_isTaken_189 (by decide) ?_
    refine lv_bipush (v := 12) hx hb d_Sj_isTaken_190 (by decide) ?_
    refine pc_S (As := [.int x, .int 0, .int 12]) (rest := []) S (c_Sj_isWithin l x 0 12) wT_blind k_Sj_isWithin s_Sj_isWithin o_Sj ml_Sj_59 hd_Sj_isWithin (Nat.le_trans (by decide) hRf) (Nat.le_trans (by decide) hRl) hRc (fun _ _ _ => trivial) hl.1 rfl (Nat.le_of_ble_eq_true rfl) d_Sj_isTaken_192 ?_
    exact hret _ ls _ d_Sj_isTaken_195 vc
  have a196 : (k = 10) → W p l e R s m args below meth c H locs cells slots Q (F0 m 196 ls []) := by
    intro h
    have vc := vc.2.2.2.2.2.2.1 h
    refine lv_aload_n hx hb d_Sj_isTaken_196 rfl (lv_at hl 0 rfl) ?_
    refine va_get (D := D) (ci := 5) (v := .ref (a 6)) (C := R_Sj) (T := F_Sj) (N := 4) hx hb hts in_Sj hown hK hP 0 rfl rfl 1 (by decide) (hts _ fl_Sj_19) (fun _ h => h) rfl d_Sj_isTaken_197 ?_
    refine lv_iload_n hx hb d_Sj_isTaken_200 rfl (lv_at hl 2 rfl) ?_
    refine pc_V (As := [.int x]) (rest := []) S (c_Pa_has l D a cI cJ cZ pn pl po pf pt x) wB_blind k_Pa_has i_Pa_has e_Pa_has o_Pa ml_Sj_101 hd_Pa_has (Nat.le_trans (by decide) hRf) (Nat.le_trans (by decide) hRl) hRc (va_recv hK hP (q0 := 7) (ci := 1) rfl rfl) (wB_at (hP.sub (ws' := (wP a cI cZ pn pl po pf pt)) [7, 8, 9, 10, 11, 12] rfl) hK) hl.1 rfl (Nat.le_of_ble_eq_true rfl) d_Sj_isTaken_201 ?_
    exact hret _ ls _ d_Sj_isTaken_204 vc
  have a205 : (k = 13) → W p l e R s m args below meth c H locs cells slots Q (F0 m 205 ls []) := by
    intro h
    have vc := vc.2.2.2.2.2.2.2.1 h
    refine lv_iload_n hx hb d_Sj_isTaken_205 rfl (lv_at hl 2 rfl) ?_
    refine lv_iconst (v := 0) hx hb d_Sj_isTaken_206 (by decide) ?_
    refine lv_iconst (v := 1) hx hb d_Sj_isTaken_207 (by decide) ?_
    refine pc_S (As := [.int x, .int 0, .int 1]) (rest := []) S (c_Sj_isWithin l x 0 1) wT_blind k_Sj_isWithin s_Sj_isWithin o_Sj ml_Sj_59 hd_Sj_isWithin (Nat.le_trans (by decide) hRf) (Nat.le_trans (by decide) hRl) hRc (fun _ _ _ => trivial) hl.1 rfl (Nat.le_of_ble_eq_true rfl) d_Sj_isTaken_208 ?_
    exact hret _ ls _ d_Sj_isTaken_211 vc
  have a212 : (k = 16) → W p l e R s m args below meth c H locs cells slots Q (F0 m 212 ls []) := by
    intro h
    have vc := vc.2.2.2.2.2.2.2.2.1 h
    refine lv_iload_n hx hb d_Sj_isTaken_212 rfl (lv_at hl 2 rfl) ?_
    refine lv_iconst (v := 0) hx hb d_Sj_isTaken_213 (by decide) ?_
    refine lv_sipush (v := 4095) hx hb d_Sj_isTaken_214 (by decide) ?_
    refine pc_S (As := [.int x, .int 0, .int 4095]) (rest := []) S (c_Sj_isWithin l x 0 4095) wT_blind k_Sj_isWithin s_Sj_isWithin o_Sj ml_Sj_59 hd_Sj_isWithin (Nat.le_trans (by decide) hRf) (Nat.le_trans (by decide) hRl) hRc (fun _ _ _ => trivial) hl.1 rfl (Nat.le_of_ble_eq_true rfl) d_Sj_isTaken_217 ?_
    exact hret _ ls _ d_Sj_isTaken_220 vc
  have a221 : ((k.toInt < 0 ∨ 25 < k.toInt) ∨ k = 17 ∨ k = 18 ∨ k = 19 ∨ k = 20 ∨ k = 21 ∨ k = 22 ∨ k = 23) → W p l e R s m args below meth c H locs cells slots Q (F0 m 221 ls []) := by
    intro h
    have vc := vc.2.2.2.2.2.2.2.2.2 h
    refine lv_aload_n hx hb d_Sj_isTaken_221 rfl (lv_at hl 0 rfl) ?_
    refine va_get (D := D) (ci := 5) (v := .ref (a 12)) (C := R_Sj) (T := F_Sj) (N := 4) hx hb hts in_Sj hown hK hP 0 rfl rfl 2 (by decide) (hts _ fl_Sj_26) (fun _ h => h) rfl d_Sj_isTaken_222 ?_
    refine lv_iload_n hx hb d_Sj_isTaken_225 rfl (lv_at hl 2 rfl) ?_
    refine pc_V (As := [.int x]) (rest := []) S (c_Sc_has l D a cI cJ cZ ru le li bn ip aw ns x) wB_blind k_Sc_has i_Sc_has e_Sc_has o_Sc ml_Sj_131 hd_Sc_has (Nat.le_trans (by decide) hRf) (Nat.le_trans (by decide) hRl) hRc (va_recv hK hP (q0 := 13) (ci := 3) rfl rfl) (wB_at (hP.sub (ws' := (wS a cI ru le li bn ip aw ns)) [13, 14, 15, 16, 17, 18, 19] rfl) hK) hl.1 rfl (Nat.le_of_ble_eq_true rfl) d_Sj_isTaken_226 ?_
    exact hret _ ls _ d_Sj_isTaken_229 vc
  by_cases h0 : xs.toInt < 0 ∨ 25 < xs.toInt
  · exact lv_tableOut (tgt := 221) hx hb d_Sj_isTaken_1 h0 (by decide) (a221 (Or.inl (by rw [← es]; exact h0)))
  · obtain ⟨k, hk, rfl⟩ := sw_of (lo := 0) (n := 25) (fun h => h0 (Or.inl h)) (fun h => h0 (Or.inr h))
    have hk : k = 0 ∨ k = 1 ∨ k = 2 ∨ k = 3 ∨ k = 4 ∨ k = 5 ∨ k = 6 ∨ k = 7 ∨ k = 8 ∨ k = 9 ∨ k = 10 ∨ k = 11 ∨ k = 12 ∨ k = 13 ∨ k = 14 ∨ k = 15 ∨ k = 16 ∨ k = 17 ∨ k = 18 ∨ k = 19 ∨ k = 20 ∨ k = 21 ∨ k = 22 ∨ k = 23 ∨ k = 24 ∨ k = 25 := by omega
    rcases hk with rfl | rfl | rfl | rfl | rfl | rfl | rfl | rfl | rfl | rfl | rfl | rfl | rfl | rfl | rfl | rfl | rfl | rfl | rfl | rfl | rfl | rfl | rfl | rfl | rfl | rfl
    · exact lv_tableIn (off := 119) (tgt := 120) hx hb d_Sj_isTaken_1 (by decide) (by decide) (by decide) (by decide) (a120 (es.symm))
    · exact lv_tableIn (off := 127) (tgt := 128) hx hb d_Sj_isTaken_1 (by decide) (by decide) (by decide) (by decide) (a128 (es.symm))
    · exact lv_tableIn (off := 136) (tgt := 137) hx hb d_Sj_isTaken_1 (by decide) (by decide) (by decide) (by decide) (a137 (es.symm))
    · exact lv_tableIn (off := 146) (tgt := 147) hx hb d_Sj_isTaken_1 (by decide) (by decide) (by decide) (by decide) (a147 (Or.inl es.symm))
    · exact lv_tableIn (off := 146) (tgt := 147) hx hb d_Sj_isTaken_1 (by decide) (by decide) (by decide) (by decide) (a147 (Or.inr (Or.inl es.symm)))
    · exact lv_tableIn (off := 146) (tgt := 147) hx hb d_Sj_isTaken_1 (by decide) (by decide) (by decide) (by decide) (a147 (Or.inr (Or.inr (Or.inl es.symm))))
    · exact lv_tableIn (off := 146) (tgt := 147) hx hb d_Sj_isTaken_1 (by decide) (by decide) (by decide) (by decide) (a147 (Or.inr (Or.inr (Or.inr (es.symm)))))
    · exact lv_tableIn (off := 156) (tgt := 157) hx hb d_Sj_isTaken_1 (by decide) (by decide) (by decide) (by decide) (a157 (es.symm))
    · exact lv_tableIn (off := 187) (tgt := 188) hx hb d_Sj_isTaken_1 (by decide) (by decide) (by decide) (by decide) (a188 (Or.inl es.symm))
    · exact lv_tableIn (off := 187) (tgt := 188) hx hb d_Sj_isTaken_1 (by decide) (by decide) (by decide) (by decide) (a188 (Or.inr (Or.inl es.symm)))
    · exact lv_tableIn (off := 195) (tgt := 196) hx hb d_Sj_isTaken_1 (by decide) (by decide) (by decide) (by decide) (a196 (es.symm))
    · exact lv_tableIn (off := 187) (tgt := 188) hx hb d_Sj_isTaken_1 (by decide) (by decide) (by decide) (by decide) (a188 (Or.inr (Or.inr (Or.inl es.symm))))
    · exact lv_tableIn (off := 187) (tgt := 188) hx hb d_Sj_isTaken_1 (by decide) (by decide) (by decide) (by decide) (a188 (Or.inr (Or.inr (Or.inr (Or.inl es.symm)))))
    · exact lv_tableIn (off := 204) (tgt := 205) hx hb d_Sj_isTaken_1 (by decide) (by decide) (by decide) (by decide) (a205 (es.symm))
    · exact lv_tableIn (off := 187) (tgt := 188) hx hb d_Sj_isTaken_1 (by decide) (by decide) (by decide) (by decide) (a188 (Or.inr (Or.inr (Or.inr (Or.inr (Or.inl es.symm))))))
    · exact lv_tableIn (off := 187) (tgt := 188) hx hb d_Sj_isTaken_1 (by decide) (by decide) (by decide) (by decide) (a188 (Or.inr (Or.inr (Or.inr (Or.inr (Or.inr (Or.inl es.symm)))))))
    · exact lv_tableIn (off := 211) (tgt := 212) hx hb d_Sj_isTaken_1 (by decide) (by decide) (by decide) (by decide) (a212 (es.symm))
    · exact lv_tableIn (off := 220) (tgt := 221) hx hb d_Sj_isTaken_1 (by decide) (by decide) (by decide) (by decide) (a221 (Or.inr (Or.inl es.symm)))
    · exact lv_tableIn (off := 220) (tgt := 221) hx hb d_Sj_isTaken_1 (by decide) (by decide) (by decide) (by decide) (a221 (Or.inr (Or.inr (Or.inl es.symm))))
    · exact lv_tableIn (off := 220) (tgt := 221) hx hb d_Sj_isTaken_1 (by decide) (by decide) (by decide) (by decide) (a221 (Or.inr (Or.inr (Or.inr (Or.inl es.symm)))))
    · exact lv_tableIn (off := 220) (tgt := 221) hx hb d_Sj_isTaken_1 (by decide) (by decide) (by decide) (by decide) (a221 (Or.inr (Or.inr (Or.inr (Or.inr (Or.inl es.symm))))))
    · exact lv_tableIn (off := 220) (tgt := 221) hx hb d_Sj_isTaken_1 (by decide) (by decide) (by decide) (by decide) (a221 (Or.inr (Or.inr (Or.inr (Or.inr (Or.inr (Or.inl es.symm)))))))
    · exact lv_tableIn (off := 220) (tgt := 221) hx hb d_Sj_isTaken_1 (by decide) (by decide) (by decide) (by decide) (a221 (Or.inr (Or.inr (Or.inr (Or.inr (Or.inr (Or.inr (Or.inl es.symm))))))))
    · exact lv_tableIn (off := 220) (tgt := 221) hx hb d_Sj_isTaken_1 (by decide) (by decide) (by decide) (by decide) (a221 (Or.inr (Or.inr (Or.inr (Or.inr (Or.inr (Or.inr (Or.inr (es.symm)))))))))
    · exact lv_tableIn (off := 187) (tgt := 188) hx hb d_Sj_isTaken_1 (by decide) (by decide) (by decide) (by decide) (a188 (Or.inr (Or.inr (Or.inr (Or.inr (Or.inr (Or.inr (Or.inl es.symm))))))))
    · exact lv_tableIn (off := 187) (tgt := 188) hx hb d_Sj_isTaken_1 (by decide) (by decide) (by decide) (by decide) (a188 (Or.inr (Or.inr (Or.inr (Or.inr (Or.inr (Or.inr (Or.inr (es.symm)))))))))
theorem h_Sj_isTaken (l : Launch) (D : va_G) (a : Nat → Nat) (cI cJ cZ : ClassId) (ki : Nat → Int32) (co : Nat → Int64) (pr : Nat → Int32) (pa : Nat → Int32) (tw : Nat → Int32) (nv : Int32) (sv : Int32) (pn : Nat → Int32) (pl : Nat → Int32) (po : Nat → Int32) (pf : Nat → Int32) (pt : Nat → Int32) (ru : Nat → Int32) (le : Nat → Int32) (li : Nat → Int32) (bn : Nat → Int32) (ip : Nat → Int32) (aw : Nat → Int32) (ns : Int32) (k : Int32) (x : Int32) (r : Int32) (hr : narrow .boolean (.int r) = .int r) (vc : V_Sj_isTaken ki co pr pa tw nv sv pn pl po pf pt ru le li bn ip aw ns k x (fun v => v = r)) : Pm l y_Sj_isTaken b_Sj_isTaken 3 (some .boolean) 2 43 [.ref (a 24), .int k, .int x] (wB D (tyA cI cJ cZ) (wX a ++ wV a cI cJ ki co pr pa tw nv sv ++ wP a cI cZ pn pl po pf pt ++ wS a cI ru le li bn ip aw ns)) (.int r) :=
  pm_i (by decide) hr (Nat.le_of_ble_eq_true rfl) (fun p e s m below meth c ls Q S hB hl hret => g_Sj_isTaken S (Nat.le_refl _) (Nat.le_refl _) ⟨Nat.le_refl _, Nat.le_refl _⟩ D a cI cJ cZ ki co pr pa tw nv sv pn pl po pf pt ru le li bn ip aw ns k x hB.2 hB.1 hl vc hret)
theorem c_Sj_isTaken (l : Launch) (D : va_G) (a : Nat → Nat) (cI cJ cZ : ClassId) (ki : Nat → Int32) (co : Nat → Int64) (pr : Nat → Int32) (pa : Nat → Int32) (tw : Nat → Int32) (nv : Int32) (sv : Int32) (pn : Nat → Int32) (pl : Nat → Int32) (po : Nat → Int32) (pf : Nat → Int32) (pt : Nat → Int32) (ru : Nat → Int32) (le : Nat → Int32) (li : Nat → Int32) (bn : Nat → Int32) (ip : Nat → Int32) (aw : Nat → Int32) (ns : Int32) (k : Int32) (x : Int32) (hpre : nv ≤ 40) : Pm l y_Sj_isTaken b_Sj_isTaken 3 (some .boolean) 2 43 [.ref (a 24), .int k, .int x] (wB D (tyA cI cJ cZ) (wX a ++ wV a cI cJ ki co pr pa tw nv sv ++ wP a cI cZ pn pl po pf pt ++ wS a cI ru le li bn ip aw ns)) (.int (bI (sTakes ki co nv ns k x))) := h_Sj_isTaken l D a cI cJ cZ ki co pr pa tw nv sv pn pl po pf pt ru le li bn ip aw ns k x _ (bI_nar _) (by
  unfold V_Sj_isTaken
  refine ⟨fun h => ?_, fun h => ?_, fun h => ⟨hpre, ?_⟩, fun h => ⟨hpre, ?_⟩, fun h => ⟨hpre, fun h2 => ?_, fun h2 => ⟨vp_has hpre (by have := sKind_iff.mp (bI_ne.mp h2); simp [sHas, this.1]), fun h3 => ?_, fun h3 => ?_⟩⟩, fun h => ?_, fun h => ?_, fun h => ?_, fun h => ?_, fun h => ?_⟩
  · subst h; rfl
  · subst h; rfl
  · subst h; rfl
  · rcases h with rfl | rfl | rfl | rfl <;> rfl
  · subst h; simp [sTakes, bI, bI_eq.mp h2]
  · subst h; simp [sTakes, bI_ne.mp h2, bI, lg_pos.mp h3]
  · subst h; have h3 := mt lg_pos.mpr h3; simp only [Classical.not_not] at h3; simp [sTakes, bI_ne.mp h2, bI, h3]
  · rcases h with rfl | rfl | rfl | rfl | rfl | rfl | rfl | rfl <;> rfl
  · subst h; rfl
  · subst h; rfl
  · subst h; rfl
  · rcases h with h | rfl | rfl | rfl | rfl | rfl | rfl | rfl
    · have hn : ∀ c : Int32, 0 ≤ c.toInt → c.toInt ≤ 25 → ¬ k = c := fun c h1 h2 e => by subst e; omega
      simp [sTakes, hn]
    all_goals rfl)
theorem hd_Sj_isTaken : y_Sj_isTaken.cls ≠ "java/lang/invoke/MethodHandle" ∧ y_Sj_isTaken.cls ≠ "java/lang/invoke/VarHandle" ∧ (parseMethodDescriptor y_Sj_isTaken.desc).map (fun d => d.parameters.length) = some 2 := ⟨by decide, by decide, by decide +kernel⟩
