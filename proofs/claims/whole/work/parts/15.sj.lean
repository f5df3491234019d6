def V_Sj_truth (ki : Nat → Int32) (co : Nat → Int64) (pr : Nat → Int32) (pa : Nat → Int32) (tw : Nat → Int32) (nv : Int32) (sv : Int32) (x : Int32) (post : Int32 → (Nat → Int32) → (Nat → Int64) → (Nat → Int32) → (Nat → Int32) → (Nat → Int32) → Int32 → Int32 → Prop) (px : String → (Nat → Int32) → (Nat → Int64) → (Nat → Int32) → (Nat → Int32) → (Nat → Int32) → Int32 → Int32 → Prop) : Prop :=
  (∃ J1 : Int64 → Prop, ((x = 0 → J1 0) ∧ (¬ x = 0 → J1 1)) ∧ (∀ (y2 : Int64), J1 y2 → (¬ nv < 0 ∧ ((nv < 40 → post (nv + 1 - 1) (upd ki nv.toNatClampNeg 1) (vp_updL co nv.toNatClampNeg y2) pr pa tw (nv + 1) sv) ∧ (∀ E : String, E = ISE ∧ ¬ nv < 40 → px E ki co pr pa tw nv sv)))))
set_option maxHeartbeats 4000000 in
set_option maxRecDepth 100000 in
theorem g_Sj_truth {p : Program} {l : Launch} {e : Env} {R : Room} {s : State} {m : MethodId} {args : Array Value} {below : List Frame} {meth : Method} {c : Code} {H : Heap} {locs : List Loc} {Q : State → Prop} {ls : Array Slot} {A : Nat → Prop} (hls : l.stackTraces = false) (S : CallFix p m c b_Sj_truth 2 s args W0 R_Sj) (hRf : 7 ≤ R.frames) (hRl : 113 ≤ R.locals) (hRc : 0 + 1 ≤ R.cells ∧ 0 + 6 ≤ R.slots) (D : va_G) (a : Nat → Nat) (cI cJ cZ : ClassId) (ki : Nat → Int32) (co : Nat → Int64) (pr : Nat → Int32) (pa : Nat → Int32) (tw : Nat → Int32) (nv : Int32) (sv : Int32) (x : Int32) (hK : va_K D vwCl (tyA cI cJ cZ) s) (hP : va_P D vwCl (wX a ++ wV a cI cJ ki co pr pa tw nv sv) H) (hD : va_D A (wX a ++ wV a cI cJ ki co pr pa tw nv sv)) (hA : ∀ q, s.heap.size ≤ q → A q) (hS : va_S A s.heap H locs) (hX : eX A s s.heap) (hl : lv_has ls 2 [(0, .ref (a 24)), (1, .int x)]) {post : Int32 → (Nat → Int32) → (Nat → Int64) → (Nat → Int32) → (Nat → Int32) → (Nat → Int32) → Int32 → Int32 → Prop} {px : String → (Nat → Int32) → (Nat → Int64) → (Nat → Int32) → (Nat → Int32) → (Nat → Int32) → Int32 → Int32 → Prop} (vc : V_Sj_truth ki co pr pa tw nv sv x post px)
    (hret : ∀ (v : Int32) (ki : Nat → Int32) (co : Nat → Int64) (pr : Nat → Int32) (pa : Nat → Int32) (tw : Nat → Int32) (nv : Int32) (sv : Int32) (ls : Array Slot) (pc : Nat) (H : Heap) (locs : List Loc) (k j : Nat), decode b_Sj_truth pc = .ok (.ireturn, 1) → k ≤ 1 → j ≤ 6 → post v ki co pr pa tw nv sv → va_P D vwCl (wX a ++ wV a cI cJ ki co pr pa tw nv sv) H → va_D A (wX a ++ wV a cI cJ ki co pr pa tw nv sv) → va_S A s.heap H locs → W p l e R s m args below meth c H locs k j Q (F0 m pc ls [.int v]))
    (hthr : ∀ (ki : Nat → Int32) (co : Nat → Int64) (pr : Nat → Int32) (pa : Nat → Int32) (tw : Nat → Int32) (nv : Int32) (sv : Int32) (E : String) (ik is ic : Nat) (tx : String) (pc : Nat) (ls : Array Slot) (rest : List Value) (H : Heap) (locs : List Loc), ThrOK E ik is ic tx b_Sj_truth pc → ls.size = 2 → (rest.map fun v => v.category).sum ≤ 8 → px E ki co pr pa tw nv sv → va_P D vwCl (wX a ++ wV a cI cJ ki co pr pa tw nv sv) H → va_D A (wX a ++ wV a cI cJ ki co pr pa tw nv sv) → va_S A s.heap H locs → W p l e R s m args below meth c H locs 0 0 Q (F0 m pc ls rest))
    (hout : ∀ (ki : Nat → Int32) (co : Nat → Int64) (pr : Nat → Int32) (pa : Nat → Int32) (tw : Nat → Int32) (nv : Int32) (sv : Int32) (E : String) (ce : Cell) (q : Addr) (pc : Nat) (ls : Array Slot) (rest : List Value) (H : Heap) (locs : List Loc) (k j : Nat), k ≤ 1 → j ≤ 6 → H[q]? = some ce → ce.vm = .none → s.vm.findClass E = some ce.cls → px E ki co pr pa tw nv sv → va_P D vwCl (wX a ++ wV a cI cJ ki co pr pa tw nv sv) H → va_D A (wX a ++ wV a cI cJ ki co pr pa tw nv sv) → va_S A s.heap H locs → vx_W p l e R s m args below meth c H locs k j Q (F0 m pc ls rest) q) : W p l e R s m args below meth c H locs 0 0 Q (F0 m 0 ls []) := by
  have hx := S.1
  have hb := S.2.1
  have hown := S.2.2.2.1
  have hts := S.2.2.2.2
  unfold V_Sj_truth at vc
  refine lv_aload_n hx hb d_Sj_truth_0 rfl (lv_at hl 0 rfl) ?_
  refine lv_iconst (v := 1) hx hb d_Sj_truth_1 (by decide) ?_
  refine lv_iload_n hx hb d_Sj_truth_2 rfl (lv_at hl 1 rfl) ?_
  obtain ⟨J1, vc, vc2⟩ := vc
  have jJ1 : ∀ (y2 : Int64) (ls : Array Slot) (H : Heap) (locs : List Loc), J1 y2 → lv_has ls 2 [(0, .ref (a 24)), (1, .int x)] → va_P D vwCl (wX a ++ wV a cI cJ ki co pr pa tw nv sv) H → va_D A (wX a ++ wV a cI cJ ki co pr pa tw nv sv) → va_S A s.heap H locs → W p l e R s m args below meth c H locs 0 0 Q (F0 m 11 ls [.long y2, .int 1, .ref (a 24)]) := by
    intro y2 ls H locs vc hl hP hD hS
    have vc := vc2 y2 vc
    obtain ⟨hpre, vc⟩ := vc
    refine xc_V (As := [.int 1, .long y2]) (rest := []) (wr := ([] : va_W)) S (c_Sj_addedValue l hls D a cI cJ cZ ki co pr pa tw nv sv 1 y2 hpre) k_Sj_addedValue i_Sj_addedValue e_Sj_addedValue o_Sj ml_Sj_53 hd_Sj_addedValue (Nat.le_trans (by decide) hRf) (Nat.le_trans (by decide) hRl) hRc (va_recv hK hP (q0 := 0) (ci := 5) rfl rfl) hK hP hD hS hA hX [0, 1, 2, 3, 4, 5, 6] [] rfl rfl rfl (by decide) (by decide) (by decide) hl.1 rfl (Nat.le_of_ble_eq_true rfl) d_Sj_truth_11 (fun _ E ce q H locs hbad hce hcv hcl hP hD hS => ?_) (fun _ H locs hok hP hD hS => ?_)
    · have vc := vc.2
      have vc := vc E hbad
      have hP : va_P D vwCl (wX a ++ wV a cI cJ ki co pr pa tw nv sv) H := hP
      have hD : va_D A (wX a ++ wV a cI cJ ki co pr pa tw nv sv) := hD
      exact hout _ _ _ _ _ _ _ E ce q _ ls _ H locs _ _ (by decide) (by decide) hce hcv hcl vc hP hD hS
    · have vc := vc.1
      have vc := vc hok
      have hP : va_P D vwCl (wX a ++ wV a cI cJ (upd ki nv.toNatClampNeg 1) (vp_updL co nv.toNatClampNeg y2) pr pa tw (nv + 1) sv) H := hP
      have hD : va_D A (wX a ++ wV a cI cJ (upd ki nv.toNatClampNeg 1) (vp_updL co nv.toNatClampNeg y2) pr pa tw (nv + 1) sv) := hD
      exact hret _ _ _ _ _ _ _ _ ls _ H locs _ _ d_Sj_truth_14 (by decide) (by decide) vc hP hD hS
  clear vc2
  refine lv_if_eq (tgt := 10) hx hb d_Sj_truth_3 (by decide) (fun h => ?_) (fun h => ?_)
  · have vc := vc.1 h
    refine lv_lconst (v := 0) hx hb d_Sj_truth_10 (by decide) ?_
    exact jJ1 0 ls H locs vc (lv_sub hl [0, 1] rfl) hP hD hS
  · have vc := vc.2 h
    refine lv_lconst (v := 1) hx hb d_Sj_truth_6 (by decide) ?_
    refine lv_goto (tgt := 11) hx hb d_Sj_truth_7 (by decide) ?_
    exact jJ1 1 ls H locs vc (lv_sub hl [0, 1] rfl) hP hD hS
theorem h_Sj_truth (l : Launch) (hls : l.stackTraces = false) (D : va_G) (a : Nat → Nat) (cI cJ cZ : ClassId) (ki : Nat → Int32) (co : Nat → Int64) (pr : Nat → Int32) (pa : Nat → Int32) (tw : Nat → Int32) (nv : Int32) (sv : Int32) (x : Int32) (ok : Prop) (bad : String → Prop) (r : Int32) (ki' : Nat → Int32) (co' : Nat → Int64) (pr' : Nat → Int32) (pa' : Nat → Int32) (tw' : Nat → Int32) (nv' : Int32) (sv' : Int32) (ki'' : Nat → Int32) (co'' : Nat → Int64) (pr'' : Nat → Int32) (pa'' : Nat → Int32) (tw'' : Nat → Int32) (nv'' : Int32) (sv'' : Int32) (vc : V_Sj_truth ki co pr pa tw nv sv x (fun v ki co pr pa tw nv sv => ok ∧ v = r ∧ ki = ki' ∧ co = co' ∧ pr = pr' ∧ pa = pa' ∧ tw = tw' ∧ nv = nv' ∧ sv = sv') (fun E ki co pr pa tw nv sv => bad E ∧ ki = ki'' ∧ co = co'' ∧ pr = pr'' ∧ pa = pa'' ∧ tw = tw'' ∧ nv = nv'' ∧ sv = sv'')) : Tm (S := Unit) (SX := Unit) l y_Sj_truth b_Sj_truth 2 (some .int) 7 113 [.ref (a 24), .int x] D (tyA cI cJ cZ) (wX a ++ wV a cI cJ ki co pr pa tw nv sv) (fun _ => ok) (fun _ => some (.int r)) (fun _ => (wX a ++ wV a cI cJ ki' co' pr' pa' tw' nv' sv')) (fun E _ => bad E) (fun _ => (wX a ++ wV a cI cJ ki'' co'' pr'' pa'' tw'' nv'' sv'')) :=
  tm_of hls (by decide) rfl (Or.inr ⟨.int, fun _ => r, rfl, fun _ => rfl, fun _ _ => rfl⟩) (Nat.le_of_ble_eq_true rfl) (by decide) (by decide) (fun p e s m below meth c ls Q A S hK hP hD hA hS hX hl hret hthr hout => g_Sj_truth hls S (Nat.le_refl _) (Nat.le_refl _) ⟨Nat.le_refl _, Nat.le_refl _⟩ D a cI cJ cZ ki co pr pa tw nv sv x hK hP hD hA hS hX hl vc
    (fun v ki co pr pa tw nv sv ls pc H locs k j hd hk hj hv hP hD hS => by obtain ⟨hok, rfl, rfl, rfl, rfl, rfl, rfl, rfl, rfl⟩ := hv; exact hret () ls pc H locs k j _ (Or.inr ⟨_, rfl, rfl, hd⟩) hk hj hok hP hD hS)
    (fun ki co pr pa tw nv sv E ik is ic tx pc ls rest H locs T hs hw hv hP hD hS => by obtain ⟨hbd, rfl, rfl, rfl, rfl, rfl, rfl, rfl⟩ := hv; exact hthr () E ik is ic tx pc ls rest H locs T hs hw hbd hP hD hS)
    (fun ki co pr pa tw nv sv E ce q pc ls rest H locs k j hk hj h1 h2 h3 hv hP hD hS => by obtain ⟨hbd, rfl, rfl, rfl, rfl, rfl, rfl, rfl⟩ := hv; exact hout () E ce q pc ls rest H locs k j hk hj h1 h2 h3 hbd hP hD hS))
theorem c_Sj_truth (l : Launch) (hls : l.stackTraces = false) (D : va_G) (a : Nat → Nat) (cI cJ cZ : ClassId) (ki : Nat → Int32) (co : Nat → Int64) (pr : Nat → Int32) (pa : Nat → Int32) (tw : Nat → Int32) (nv : Int32) (sv : Int32) (x : Int32) (hpre : ¬ nv < 0) : Tm (S := Unit) (SX := Unit) l y_Sj_truth b_Sj_truth 2 (some .int) 7 113 [.ref (a 24), .int x] D (tyA cI cJ cZ) (wX a ++ wV a cI cJ ki co pr pa tw nv sv) (fun _ => nv < 40) (fun _ => some (.int (nv + 1 - 1))) (fun _ => (wX a ++ wV a cI cJ (upd ki nv.toNatClampNeg 1) (vp_updL co nv.toNatClampNeg (if x = 0 then 0 else 1 : Int64)) pr pa tw (nv + 1) sv)) (fun E _ => E = ISE ∧ ¬ nv < 40) (fun _ => (wX a ++ wV a cI cJ ki co pr pa tw nv sv)) := h_Sj_truth l hls D a cI cJ cZ ki co pr pa tw nv sv x (nv < 40) (fun E => E = ISE ∧ ¬ nv < 40) (nv + 1 - 1) (upd ki nv.toNatClampNeg 1) (vp_updL co nv.toNatClampNeg (if x = 0 then 0 else 1 : Int64)) pr pa tw (nv + 1) sv ki co pr pa tw nv sv (by
  unfold V_Sj_truth
  refine ⟨fun y => y = (if x = 0 then 0 else 1 : Int64), ⟨fun h => by simp [h], fun h => by simp [h]⟩, fun y hy => ?_⟩
  subst hy
  exact ⟨hpre, fun h => ⟨h, rfl, rfl, rfl, rfl, rfl, rfl, rfl, rfl⟩, fun E h => ⟨h, rfl, rfl, rfl, rfl, rfl, rfl, rfl⟩⟩)
theorem hd_Sj_truth : y_Sj_truth.cls ≠ "java/lang/invoke/MethodHandle" ∧ y_Sj_truth.cls ≠ "java/lang/invoke/VarHandle" ∧ (parseMethodDescriptor y_Sj_truth.desc).map (fun d => d.parameters.length) = some 1 := ⟨by decide, by decide, by decide +kernel⟩
def V_Sj_text (ki : Nat → Int32) (co : Nat → Int64) (pr : Nat → Int32) (pa : Nat → Int32) (tw : Nat → Int32) (nv : Int32) (sv : Int32) (t : Int32) (post : Int32 → (Nat → Int32) → (Nat → Int64) → (Nat → Int32) → (Nat → Int32) → (Nat → Int32) → Int32 → Int32 → Prop) (px : String → (Nat → Int32) → (Nat → Int64) → (Nat → Int32) → (Nat → Int32) → (Nat → Int32) → Int32 → Int32 → Prop) : Prop :=
  ((¬ (bI (sText t)) = 0 → (¬ nv < 0 ∧ ((nv < 40 → post (nv + 1 - 1) (upd ki nv.toNatClampNeg 3) (vp_updL co nv.toNatClampNeg t.toInt64) pr pa tw (nv + 1) sv) ∧ (∀ E : String, E = ISE ∧ ¬ nv < 40 → px E ki co pr pa tw nv sv)))) ∧ ((bI (sText t)) = 0 → px IAE ki co pr pa tw nv sv))
set_option maxHeartbeats 4000000 in
set_option maxRecDepth 100000 in
theorem g_Sj_text {p : Program} {l : Launch} {e : Env} {R : Room} {s : State} {m : MethodId} {args : Array Value} {below : List Frame} {meth : Method} {c : Code} {H : Heap} {locs : List Loc} {Q : State → Prop} {ls : Array Slot} {A : Nat → Prop} (hls : l.stackTraces = false) (S : CallFix p m c b_Sj_text 2 s args W0 R_Sj) (hRf : 7 ≤ R.frames) (hRl : 113 ≤ R.locals) (hRc : 0 + 1 ≤ R.cells ∧ 0 + 6 ≤ R.slots) (D : va_G) (a : Nat → Nat) (cI cJ cZ : ClassId) (ki : Nat → Int32) (co : Nat → Int64) (pr : Nat → Int32) (pa : Nat → Int32) (tw : Nat → Int32) (nv : Int32) (sv : Int32) (t : Int32) (hK : va_K D vwCl (tyA cI cJ cZ) s) (hP : va_P D vwCl (wX a ++ wV a cI cJ ki co pr pa tw nv sv) H) (hD : va_D A (wX a ++ wV a cI cJ ki co pr pa tw nv sv)) (hA : ∀ q, s.heap.size ≤ q → A q) (hS : va_S A s.heap H locs) (hX : eX A s s.heap) (hl : lv_has ls 2 [(0, .ref (a 24)), (1, .int t)]) {post : Int32 → (Nat → Int32) → (Nat → Int64) → (Nat → Int32) → (Nat → Int32) → (Nat → Int32) → Int32 → Int32 → Prop} {px : String → (Nat → Int32) → (Nat → Int64) → (Nat → Int32) → (Nat → Int32) → (Nat → Int32) → Int32 → Int32 → Prop} (vc : V_Sj_text ki co pr pa tw nv sv t post px)
    (hret : ∀ (v : Int32) (ki : Nat → Int32) (co : Nat → Int64) (pr : Nat → Int32) (pa : Nat → Int32) (tw : Nat → Int32) (nv : Int32) (sv : Int32) (ls : Array Slot) (pc : Nat) (H : Heap) (locs : List Loc) (k j : Nat), decode b_Sj_text pc = .ok (.ireturn, 1) → k ≤ 1 → j ≤ 6 → post v ki co pr pa tw nv sv → va_P D vwCl (wX a ++ wV a cI cJ ki co pr pa tw nv sv) H → va_D A (wX a ++ wV a cI cJ ki co pr pa tw nv sv) → va_S A s.heap H locs → W p l e R s m args below meth c H locs k j Q (F0 m pc ls [.int v]))
    (hthr : ∀ (ki : Nat → Int32) (co : Nat → Int64) (pr : Nat → Int32) (pa : Nat → Int32) (tw : Nat → Int32) (nv : Int32) (sv : Int32) (E : String) (ik is ic : Nat) (tx : String) (pc : Nat) (ls : Array Slot) (rest : List Value) (H : Heap) (locs : List Loc), ThrOK E ik is ic tx b_Sj_text pc → ls.size = 2 → (rest.map fun v => v.category).sum ≤ 8 → px E ki co pr pa tw nv sv → va_P D vwCl (wX a ++ wV a cI cJ ki co pr pa tw nv sv) H → va_D A (wX a ++ wV a cI cJ ki co pr pa tw nv sv) → va_S A s.heap H locs → W p l e R s m args below meth c H locs 0 0 Q (F0 m pc ls rest))
    (hout : ∀ (ki : Nat → Int32) (co : Nat → Int64) (pr : Nat → Int32) (pa : Nat → Int32) (tw : Nat → Int32) (nv : Int32) (sv : Int32) (E : String) (ce : Cell) (q : Addr) (pc : Nat) (ls : Array Slot) (rest : List Value) (H : Heap) (locs : List Loc) (k j : Nat), k ≤ 1 → j ≤ 6 → H[q]? = some ce → ce.vm = .none → s.vm.findClass E = some ce.cls → px E ki co pr pa tw nv sv → va_P D vwCl (wX a ++ wV a cI cJ ki co pr pa tw nv sv) H → va_D A (wX a ++ wV a cI cJ ki co pr pa tw nv sv) → va_S A s.heap H locs → vx_W p l e R s m args below meth c H locs k j Q (F0 m pc ls rest) q) : W p l e R s m args below meth c H locs 0 0 Q (F0 m 0 ls []) := by
  have hx := S.1
  have hb := S.2.1
  have hown := S.2.2.2.1
  have hts := S.2.2.2.2
  unfold V_Sj_text at vc
  refine lv_iload_n hx hb d_Sj_text_0 rfl (lv_at hl 1 rfl) ?_
  refine pc_S (As := [.int t]) (rest := []) S (c_Le_areTold l t) wT_blind k_Le_areTold s_Le_areTold o_Le ml_Sj_69 hd_Le_areTold (Nat.le_trans (by decide) hRf) (Nat.le_trans (by decide) hRl) ⟨Nat.zero_le _, Nat.zero_le _⟩ (fun _ _ _ => trivial) hl.1 rfl (Nat.le_of_ble_eq_true rfl) d_Sj_text_1 ?_
  refine lv_if_ne (tgt := 17) hx hb d_Sj_text_4 (by decide) (fun h => ?_) (fun h => ?_)
  · have vc := vc.1 h
    refine lv_aload_n hx hb d_Sj_text_17 rfl (lv_at hl 0 rfl) ?_
    refine lv_iconst (v := 3) hx hb d_Sj_text_18 (by decide) ?_
    refine lv_iload_n hx hb d_Sj_text_19 rfl (lv_at hl 1 rfl) ?_
    refine lv_i2l hx hb d_Sj_text_20 rfl ?_
    obtain ⟨hpre, vc⟩ := vc
    refine xc_V (As := [.int 3, .long t.toInt64]) (rest := []) (wr := ([] : va_W)) S (c_Sj_addedValue l hls D a cI cJ cZ ki co pr pa tw nv sv 3 t.toInt64 hpre) k_Sj_addedValue i_Sj_addedValue e_Sj_addedValue o_Sj ml_Sj_53 hd_Sj_addedValue (Nat.le_trans (by decide) hRf) (Nat.le_trans (by decide) hRl) hRc (va_recv hK hP (q0 := 0) (ci := 5) rfl rfl) hK hP hD hS hA hX [0, 1, 2, 3, 4, 5, 6] [] rfl rfl rfl (by decide) (by decide) (by decide) hl.1 rfl (Nat.le_of_ble_eq_true rfl) d_Sj_text_21 (fun _ E ce q H locs hbad hce hcv hcl hP hD hS => ?_) (fun _ H locs hok hP hD hS => ?_)
    · have vc := vc.2
      have vc := vc E hbad
      have hP : va_P D vwCl (wX a ++ wV a cI cJ ki co pr pa tw nv sv) H := hP
      have hD : va_D A (wX a ++ wV a cI cJ ki co pr pa tw nv sv) := hD
      exact hout _ _ _ _ _ _ _ E ce q _ ls _ H locs _ _ (by decide) (by decide) hce hcv hcl vc hP hD hS
    · have vc := vc.1
      have vc := vc hok
      have hP : va_P D vwCl (wX a ++ wV a cI cJ (upd ki nv.toNatClampNeg 3) (vp_updL co nv.toNatClampNeg t.toInt64) pr pa tw (nv + 1) sv) H := hP
      have hD : va_D A (wX a ++ wV a cI cJ (upd ki nv.toNatClampNeg 3) (vp_updL co nv.toNatClampNeg t.toInt64) pr pa tw (nv + 1) sv) := hD
      exact hret _ _ _ _ _ _ _ _ ls _ H locs _ _ d_Sj_text_24 (by decide) (by decide) vc hP hD hS
  · have vc := vc.2 h
    exact hthr _ _ _ _ _ _ _ _ _ _ _ _ _ ls _ H locs ⟨x_IAE, (show ((75, "t tells no text") : Nat × String) ∈ STRS by decide +kernel), d_Sj_text_7, d_Sj_text_10, d_Sj_text_11, d_Sj_text_13, d_Sj_text_16⟩ hl.1 (Nat.le_of_ble_eq_true rfl) vc hP hD hS
theorem h_Sj_text (l : Launch) (hls : l.stackTraces = false) (D : va_G) (a : Nat → Nat) (cI cJ cZ : ClassId) (ki : Nat → Int32) (co : Nat → Int64) (pr : Nat → Int32) (pa : Nat → Int32) (tw : Nat → Int32) (nv : Int32) (sv : Int32) (t : Int32) (ok : Prop) (bad : String → Prop) (r : Int32) (ki' : Nat → Int32) (co' : Nat → Int64) (pr' : Nat → Int32) (pa' : Nat → Int32) (tw' : Nat → Int32) (nv' : Int32) (sv' : Int32) (ki'' : Nat → Int32) (co'' : Nat → Int64) (pr'' : Nat → Int32) (pa'' : Nat → Int32) (tw'' : Nat → Int32) (nv'' : Int32) (sv'' : Int32) (vc : V_Sj_text ki co pr pa tw nv sv t (fun v ki co pr pa tw nv sv => ok ∧ v = r ∧ ki = ki' ∧ co = co' ∧ pr = pr' ∧ pa = pa' ∧ tw = tw' ∧ nv = nv' ∧ sv = sv') (fun E ki co pr pa tw nv sv => bad E ∧ ki = ki'' ∧ co = co'' ∧ pr = pr'' ∧ pa = pa'' ∧ tw = tw'' ∧ nv = nv'' ∧ sv = sv'')) : Tm (S := Unit) (SX := Unit) l y_Sj_text b_Sj_text 2 (some .int) 7 113 [.ref (a 24), .int t] D (tyA cI cJ cZ) (wX a ++ wV a cI cJ ki co pr pa tw nv sv) (fun _ => ok) (fun _ => some (.int r)) (fun _ => (wX a ++ wV a cI cJ ki' co' pr' pa' tw' nv' sv')) (fun E _ => bad E) (fun _ => (wX a ++ wV a cI cJ ki'' co'' pr'' pa'' tw'' nv'' sv'')) :=
  tm_of hls (by decide) rfl (Or.inr ⟨.int, fun _ => r, rfl, fun _ => rfl, fun _ _ => rfl⟩) (Nat.le_of_ble_eq_true rfl) (by decide) (by decide) (fun p e s m below meth c ls Q A S hK hP hD hA hS hX hl hret hthr hout => g_Sj_text hls S (Nat.le_refl _) (Nat.le_refl _) ⟨Nat.le_refl _, Nat.le_refl _⟩ D a cI cJ cZ ki co pr pa tw nv sv t hK hP hD hA hS hX hl vc
    (fun v ki co pr pa tw nv sv ls pc H locs k j hd hk hj hv hP hD hS => by obtain ⟨hok, rfl, rfl, rfl, rfl, rfl, rfl, rfl, rfl⟩ := hv; exact hret () ls pc H locs k j _ (Or.inr ⟨_, rfl, rfl, hd⟩) hk hj hok hP hD hS)
    (fun ki co pr pa tw nv sv E ik is ic tx pc ls rest H locs T hs hw hv hP hD hS => by obtain ⟨hbd, rfl, rfl, rfl, rfl, rfl, rfl, rfl⟩ := hv; exact hthr () E ik is ic tx pc ls rest H locs T hs hw hbd hP hD hS)
    (fun ki co pr pa tw nv sv E ce q pc ls rest H locs k j hk hj h1 h2 h3 hv hP hD hS => by obtain ⟨hbd, rfl, rfl, rfl, rfl, rfl, rfl, rfl⟩ := hv; exact hout () E ce q pc ls rest H locs k j hk hj h1 h2 h3 hbd hP hD hS))
theorem c_Sj_text (l : Launch) (hls : l.stackTraces = false) (D : va_G) (a : Nat → Nat) (cI cJ cZ : ClassId) (ki : Nat → Int32) (co : Nat → Int64) (pr : Nat → Int32) (pa : Nat → Int32) (tw : Nat → Int32) (nv : Int32) (sv : Int32) (t : Int32) (hpre : ¬ nv < 0) : Tm (S := Unit) (SX := Unit) l y_Sj_text b_Sj_text 2 (some .int) 7 113 [.ref (a 24), .int t] D (tyA cI cJ cZ) (wX a ++ wV a cI cJ ki co pr pa tw nv sv) (fun _ => sText t = true ∧ nv < 40) (fun _ => some (.int (nv + 1 - 1))) (fun _ => (wX a ++ wV a cI cJ (upd ki nv.toNatClampNeg 3) (vp_updL co nv.toNatClampNeg t.toInt64) pr pa tw (nv + 1) sv)) (fun E _ => E = IAE ∧ ¬ sText t = true ∨ E = ISE ∧ sText t = true ∧ ¬ nv < 40) (fun _ => (wX a ++ wV a cI cJ ki co pr pa tw nv sv)) := h_Sj_text l hls D a cI cJ cZ ki co pr pa tw nv sv t (sText t = true ∧ nv < 40) (fun E => E = IAE ∧ ¬ sText t = true ∨ E = ISE ∧ sText t = true ∧ ¬ nv < 40) (nv + 1 - 1) (upd ki nv.toNatClampNeg 3) (vp_updL co nv.toNatClampNeg t.toInt64) pr pa tw (nv + 1) sv ki co pr pa tw nv sv (by
  unfold V_Sj_text
  refine ⟨fun h => ⟨hpre, fun h2 => ⟨⟨?_, h2⟩, rfl, rfl, rfl, rfl, rfl, rfl, rfl, rfl⟩, fun E h2 => ⟨Or.inr ⟨h2.1, ?_, h2.2⟩, rfl, rfl, rfl, rfl, rfl, rfl, rfl⟩⟩, fun h => ⟨Or.inl ⟨rfl, ?_⟩, rfl, rfl, rfl, rfl, rfl, rfl, rfl⟩⟩ <;> (cases hs : sText t <;> simp_all [bI]))
theorem hd_Sj_text : y_Sj_text.cls ≠ "java/lang/invoke/MethodHandle" ∧ y_Sj_text.cls ≠ "java/lang/invoke/VarHandle" ∧ (parseMethodDescriptor y_Sj_text.desc).map (fun d => d.parameters.length) = some 1 := ⟨by decide, by decide, by decide +kernel⟩
theorem sIn_iff {x y z : Int32} : sIn x y z = true ↔ y.toInt ≤ x.toInt ∧ x.toInt ≤ z.toInt := by
  simp [sIn, Int32.le_iff_toInt_le]
theorem n_in {y : Int32} (h : sIn y (-3) 3 = true) : vp_in (y + 3) 7 := by
  have h := sIn_iff.mp h
  obtain ⟨k, hk, rfl⟩ := sw_of (x := y) (lo := -3) (n := 6) (by have := h.1; simp at this; omega) (by have := h.2; simp at this; omega)
  have hk : k = 0 ∨ k = 1 ∨ k = 2 ∨ k = 3 ∨ k = 4 ∨ k = 5 ∨ k = 6 := by omega
  rcases hk with rfl | rfl | rfl | rfl | rfl | rfl | rfl <;> (rw [vp_in_iff]; decide)
theorem vp_sIn {y z : Int32} {N : Nat} (h : sIn y 0 z = true) (hz : z.toInt < N) : vp_in y N := by
  have h := sIn_iff.mp h
  rw [vp_in_iff]
  have := h.1
  simp at this
  omega
def V_Sj_number (ki : Nat → Int32) (co : Nat → Int64) (pr : Nat → Int32) (pa : Nat → Int32) (tw : Nat → Int32) (nv : Int32) (sv : Int32) (x : Int32) (y : Int32) (post : Int32 → (Nat → Int32) → (Nat → Int64) → (Nat → Int32) → (Nat → Int32) → (Nat → Int32) → Int32 → Int32 → Prop) (px : String → (Nat → Int32) → (Nat → Int64) → (Nat → Int32) → (Nat → Int32) → (Nat → Int32) → Int32 → Int32 → Prop) : Prop :=
  (∃ J1 : Prop, (((bI (sIn x (-99999) 99999)) = 0 → J1) ∧ (¬ (bI (sIn x (-99999) 99999)) = 0 → ((¬ (bI (sIn y (-3) 3)) = 0 → (vp_in (y + 3) 7 ∧ (¬ nv < 0 ∧ ((nv < 40 → post (nv + 1 - 1) (upd ki nv.toNatClampNeg 2) (vp_updL co nv.toNatClampNeg (x.toInt64 * ((thou (y + 3 : Int32).toNatClampNeg : Int32).toInt64))) pr pa tw (nv + 1) sv) ∧ (∀ E : String, E = ISE ∧ ¬ nv < 40 → px E ki co pr pa tw nv sv))))) ∧ ((bI (sIn y (-3) 3)) = 0 → J1)))) ∧ (J1 → px IAE ki co pr pa tw nv sv))
set_option maxHeartbeats 4000000 in
set_option maxRecDepth 100000 in
theorem g_Sj_number {p : Program} {l : Launch} {e : Env} {R : Room} {s : State} {m : MethodId} {args : Array Value} {below : List Frame} {meth : Method} {c : Code} {H : Heap} {locs : List Loc} {Q : State → Prop} {ls : Array Slot} {A : Nat → Prop} (hls : l.stackTraces = false) (S : CallFix p m c b_Sj_number 3 s args W0 R_Sj) (hRf : 7 ≤ R.frames) (hRl : 113 ≤ R.locals) (hRc : 0 + 1 ≤ R.cells ∧ 0 + 6 ≤ R.slots) (D : va_G) (a : Nat → Nat) (cI cJ cZ : ClassId) (ki : Nat → Int32) (co : Nat → Int64) (pr : Nat → Int32) (pa : Nat → Int32) (tw : Nat → Int32) (nv : Int32) (sv : Int32) (x : Int32) (y : Int32) (hK : va_K D vwCl (tyA cI cJ cZ) s) (hP : va_P D vwCl (wX a ++ wV a cI cJ ki co pr pa tw nv sv) H) (hD : va_D A (wX a ++ wV a cI cJ ki co pr pa tw nv sv)) (hA : ∀ q, s.heap.size ≤ q → A q) (hS : va_S A s.heap H locs) (hX : eX A s s.heap) (hl : lv_has ls 3 [(0, .ref (a 24)), (1, .int x), (2, .int y)]) {post : Int32 → (Nat → Int32) → (Nat → Int64) → (Nat → Int32) → (Nat → Int32) → (Nat → Int32) → Int32 → Int32 → Prop} {px : String → (Nat → Int32) → (Nat → Int64) → (Nat → Int32) → (Nat → Int32) → (Nat → Int32) → Int32 → Int32 → Prop} (vc : V_Sj_number ki co pr pa tw nv sv x y post px)
    (hret : ∀ (v : Int32) (ki : Nat → Int32) (co : Nat → Int64) (pr : Nat → Int32) (pa : Nat → Int32) (tw : Nat → Int32) (nv : Int32) (sv : Int32) (ls : Array Slot) (pc : Nat) (H : Heap) (locs : List Loc) (k j : Nat), decode b_Sj_number pc = .ok (.ireturn, 1) → k ≤ 1 → j ≤ 6 → post v ki co pr pa tw nv sv → va_P D vwCl (wX a ++ wV a cI cJ ki co pr pa tw nv sv) H → va_D A (wX a ++ wV a cI cJ ki co pr pa tw nv sv) → va_S A s.heap H locs → W p l e R s m args below meth c H locs k j Q (F0 m pc ls [.int v]))
    (hthr : ∀ (ki : Nat → Int32) (co : Nat → Int64) (pr : Nat → Int32) (pa : Nat → Int32) (tw : Nat → Int32) (nv : Int32) (sv : Int32) (E : String) (ik is ic : Nat) (tx : String) (pc : Nat) (ls : Array Slot) (rest : List Value) (H : Heap) (locs : List Loc), ThrOK E ik is ic tx b_Sj_number pc → ls.size = 3 → (rest.map fun v => v.category).sum ≤ 8 → px E ki co pr pa tw nv sv → va_P D vwCl (wX a ++ wV a cI cJ ki co pr pa tw nv sv) H → va_D A (wX a ++ wV a cI cJ ki co pr pa tw nv sv) → va_S A s.heap H locs → W p l e R s m args below meth c H locs 0 0 Q (F0 m pc ls rest))
    (hout : ∀ (ki : Nat → Int32) (co : Nat → Int64) (pr : Nat → Int32) (pa : Nat → Int32) (tw : Nat → Int32) (nv : Int32) (sv : Int32) (E : String) (ce : Cell) (q : Addr) (pc : Nat) (ls : Array Slot) (rest : List Value) (H : Heap) (locs : List Loc) (k j : Nat), k ≤ 1 → j ≤ 6 → H[q]? = some ce → ce.vm = .none → s.vm.findClass E = some ce.cls → px E ki co pr pa tw nv sv → va_P D vwCl (wX a ++ wV a cI cJ ki co pr pa tw nv sv) H → va_D A (wX a ++ wV a cI cJ ki co pr pa tw nv sv) → va_S A s.heap H locs → vx_W p l e R s m args below meth c H locs k j Q (F0 m pc ls rest) q) : W p l e R s m args below meth c H locs 0 0 Q (F0 m 0 ls []) := by
  have hx := S.1
  have hb := S.2.1
  have hown := S.2.2.2.1
  have hts := S.2.2.2.2
  unfold V_Sj_number at vc
  refine lv_iload_n hx hb d_Sj_number_0 rfl (lv_at hl 1 rfl) ?_
  refine lv_ldc hx hb hown (hts _ co_Sj_57) d_Sj_number_1 ?_
  refine lv_ldc hx hb hown (hts _ co_Sj_58) d_Sj_number_3 ?_
  refine pc_S (As := [.int x, .int (-99999), .int 99999]) (rest := []) S (c_Sj_isWithin l x (-99999) 99999) wT_blind k_Sj_isWithin s_Sj_isWithin o_Sj ml_Sj_59 hd_Sj_isWithin (Nat.le_trans (by decide) hRf) (Nat.le_trans (by decide) hRl) ⟨Nat.zero_le _, Nat.zero_le _⟩ (fun _ _ _ => trivial) hl.1 rfl (Nat.le_of_ble_eq_true rfl) d_Sj_number_5 ?_
  obtain ⟨J1, vc, vc2⟩ := vc
  have jJ1 : ∀ (ls : Array Slot) (H : Heap) (locs : List Loc), J1 → lv_has ls 3 [(0, .ref (a 24)), (1, .int x), (2, .int y)] → va_P D vwCl (wX a ++ wV a cI cJ ki co pr pa tw nv sv) H → va_D A (wX a ++ wV a cI cJ ki co pr pa tw nv sv) → va_S A s.heap H locs → W p l e R s m args below meth c H locs 0 0 Q (F0 m 21 ls []) := by
    intro  ls H locs vc hl hP hD hS
    have vc := vc2  vc
    exact hthr _ _ _ _ _ _ _ _ _ _ _ _ _ ls _ H locs ⟨x_IAE, (show ((63, "m is not -99999 .. 99999, or e not -3 .. 3") : Nat × String) ∈ STRS by decide +kernel), d_Sj_number_21, d_Sj_number_24, d_Sj_number_25, d_Sj_number_27, d_Sj_number_30⟩ hl.1 (Nat.le_of_ble_eq_true rfl) vc hP hD hS
  clear vc2
  refine lv_if_eq (tgt := 21) hx hb d_Sj_number_8 (by decide) (fun h => ?_) (fun h => ?_)
  · have vc := vc.1 h
    exact jJ1 ls H locs vc (lv_sub hl [0, 1, 2] rfl) hP hD hS
  · have vc := vc.2 h
    refine lv_iload_n hx hb d_Sj_number_11 rfl (lv_at hl 2 rfl) ?_
    refine lv_bipush (v := (-3)) hx hb d_Sj_number_12 (by decide) ?_
    refine lv_iconst (v := 3) hx hb d_Sj_number_14 (by decide) ?_
    refine pc_S (As := [.int y, .int (-3), .int 3]) (rest := []) S (c_Sj_isWithin l y (-3) 3) wT_blind k_Sj_isWithin s_Sj_isWithin o_Sj ml_Sj_59 hd_Sj_isWithin (Nat.le_trans (by decide) hRf) (Nat.le_trans (by decide) hRl) ⟨Nat.zero_le _, Nat.zero_le _⟩ (fun _ _ _ => trivial) hl.1 rfl (Nat.le_of_ble_eq_true rfl) d_Sj_number_15 ?_
    refine lv_if_ne (tgt := 31) hx hb d_Sj_number_18 (by decide) (fun h => ?_) (fun h => ?_)
    · have vc := vc.1 h
      refine lv_aload_n hx hb d_Sj_number_31 rfl (lv_at hl 0 rfl) ?_
      refine lv_iconst (v := 2) hx hb d_Sj_number_32 (by decide) ?_
      refine lv_iload_n hx hb d_Sj_number_33 rfl (lv_at hl 1 rfl) ?_
      refine lv_i2l hx hb d_Sj_number_34 rfl ?_
      obtain ⟨tTH, hTZ, hTT⟩ := hX.2.2.2.2.1
      refine va_gets hx hb hTZ hS hown (hts _ fl_Sj_65) (fun _ h => h) d_Sj_number_35 ?_
      refine lv_iload_n hx hb d_Sj_number_38 rfl (lv_at hl 2 rfl) ?_
      refine lv_iconst (v := 3) hx hb d_Sj_number_39 (by decide) ?_
      refine lv_iadd hx hb d_Sj_number_40 ?_
      obtain ⟨vcb, vc⟩ := vc
      refine va_ti hx hb hTT hS vcb rfl d_Sj_number_41 ?_
      refine lv_i2l hx hb d_Sj_number_42 rfl ?_
      refine lv_lmul hx hb d_Sj_number_43 ?_
      obtain ⟨hpre, vc⟩ := vc
      refine xc_V (As := [.int 2, .long (x.toInt64 * ((thou (y + 3 : Int32).toNatClampNeg : Int32).toInt64))]) (rest := []) (wr := ([] : va_W)) S (c_Sj_addedValue l hls D a cI cJ cZ ki co pr pa tw nv sv 2 (x.toInt64 * ((thou (y + 3 : Int32).toNatClampNeg : Int32).toInt64)) hpre) k_Sj_addedValue i_Sj_addedValue e_Sj_addedValue o_Sj ml_Sj_53 hd_Sj_addedValue (Nat.le_trans (by decide) hRf) (Nat.le_trans (by decide) hRl) hRc (va_recv hK hP (q0 := 0) (ci := 5) rfl rfl) hK hP hD hS hA hX [0, 1, 2, 3, 4, 5, 6] [] rfl rfl rfl (by decide) (by decide) (by decide) hl.1 rfl (Nat.le_of_ble_eq_true rfl) d_Sj_number_44 (fun _ E ce q H locs hbad hce hcv hcl hP hD hS => ?_) (fun _ H locs hok hP hD hS => ?_)
      · have vc := vc.2
        have vc := vc E hbad
        have hP : va_P D vwCl (wX a ++ wV a cI cJ ki co pr pa tw nv sv) H := hP
        have hD : va_D A (wX a ++ wV a cI cJ ki co pr pa tw nv sv) := hD
        exact hout _ _ _ _ _ _ _ E ce q _ ls _ H locs _ _ (by decide) (by decide) hce hcv hcl vc hP hD hS
      · have vc := vc.1
        have vc := vc hok
        have hP : va_P D vwCl (wX a ++ wV a cI cJ (upd ki nv.toNatClampNeg 2) (vp_updL co nv.toNatClampNeg (x.toInt64 * ((thou (y + 3 : Int32).toNatClampNeg : Int32).toInt64))) pr pa tw (nv + 1) sv) H := hP
        have hD : va_D A (wX a ++ wV a cI cJ (upd ki nv.toNatClampNeg 2) (vp_updL co nv.toNatClampNeg (x.toInt64 * ((thou (y + 3 : Int32).toNatClampNeg : Int32).toInt64))) pr pa tw (nv + 1) sv) := hD
        exact hret _ _ _ _ _ _ _ _ ls _ H locs _ _ d_Sj_number_47 (by decide) (by decide) vc hP hD hS
    · have vc := vc.2 h
      exact jJ1 ls H locs vc (lv_sub hl [0, 1, 2] rfl) hP hD hS
theorem h_Sj_number (l : Launch) (hls : l.stackTraces = false) (D : va_G) (a : Nat → Nat) (cI cJ cZ : ClassId) (ki : Nat → Int32) (co : Nat → Int64) (pr : Nat → Int32) (pa : Nat → Int32) (tw : Nat → Int32) (nv : Int32) (sv : Int32) (x : Int32) (y : Int32) (ok : Prop) (bad : String → Prop) (r : Int32) (ki' : Nat → Int32) (co' : Nat → Int64) (pr' : Nat → Int32) (pa' : Nat → Int32) (tw' : Nat → Int32) (nv' : Int32) (sv' : Int32) (ki'' : Nat → Int32) (co'' : Nat → Int64) (pr'' : Nat → Int32) (pa'' : Nat → Int32) (tw'' : Nat → Int32) (nv'' : Int32) (sv'' : Int32) (vc : V_Sj_number ki co pr pa tw nv sv x y (fun v ki co pr pa tw nv sv => ok ∧ v = r ∧ ki = ki' ∧ co = co' ∧ pr = pr' ∧ pa = pa' ∧ tw = tw' ∧ nv = nv' ∧ sv = sv') (fun E ki co pr pa tw nv sv => bad E ∧ ki = ki'' ∧ co = co'' ∧ pr = pr'' ∧ pa = pa'' ∧ tw = tw'' ∧ nv = nv'' ∧ sv = sv'')) : Tm (S := Unit) (SX := Unit) l y_Sj_number b_Sj_number 3 (some .int) 7 113 [.ref (a 24), .int x, .int y] D (tyA cI cJ cZ) (wX a ++ wV a cI cJ ki co pr pa tw nv sv) (fun _ => ok) (fun _ => some (.int r)) (fun _ => (wX a ++ wV a cI cJ ki' co' pr' pa' tw' nv' sv')) (fun E _ => bad E) (fun _ => (wX a ++ wV a cI cJ ki'' co'' pr'' pa'' tw'' nv'' sv'')) :=
  tm_of hls (by decide) rfl (Or.inr ⟨.int, fun _ => r, rfl, fun _ => rfl, fun _ _ => rfl⟩) (Nat.le_of_ble_eq_true rfl) (by decide) (by decide) (fun p e s m below meth c ls Q A S hK hP hD hA hS hX hl hret hthr hout => g_Sj_number hls S (Nat.le_refl _) (Nat.le_refl _) ⟨Nat.le_refl _, Nat.le_refl _⟩ D a cI cJ cZ ki co pr pa tw nv sv x y hK hP hD hA hS hX hl vc
    (fun v ki co pr pa tw nv sv ls pc H locs k j hd hk hj hv hP hD hS => by obtain ⟨hok, rfl, rfl, rfl, rfl, rfl, rfl, rfl, rfl⟩ := hv; exact hret () ls pc H locs k j _ (Or.inr ⟨_, rfl, rfl, hd⟩) hk hj hok hP hD hS)
    (fun ki co pr pa tw nv sv E ik is ic tx pc ls rest H locs T hs hw hv hP hD hS => by obtain ⟨hbd, rfl, rfl, rfl, rfl, rfl, rfl, rfl⟩ := hv; exact hthr () E ik is ic tx pc ls rest H locs T hs hw hbd hP hD hS)
    (fun ki co pr pa tw nv sv E ce q pc ls rest H locs k j hk hj h1 h2 h3 hv hP hD hS => by obtain ⟨hbd, rfl, rfl, rfl, rfl, rfl, rfl, rfl⟩ := hv; exact hout () E ce q pc ls rest H locs k j hk hj h1 h2 h3 hbd hP hD hS))
theorem c_Sj_number (l : Launch) (hls : l.stackTraces = false) (D : va_G) (a : Nat → Nat) (cI cJ cZ : ClassId) (ki : Nat → Int32) (co : Nat → Int64) (pr : Nat → Int32) (pa : Nat → Int32) (tw : Nat → Int32) (nv : Int32) (sv : Int32) (x : Int32) (y : Int32) (hpre : ¬ nv < 0) : Tm (S := Unit) (SX := Unit) l y_Sj_number b_Sj_number 3 (some .int) 7 113 [.ref (a 24), .int x, .int y] D (tyA cI cJ cZ) (wX a ++ wV a cI cJ ki co pr pa tw nv sv) (fun _ => (sIn x (-99999) 99999 && sIn y (-3) 3) = true ∧ nv < 40) (fun _ => some (.int (nv + 1 - 1))) (fun _ => (wX a ++ wV a cI cJ (upd ki nv.toNatClampNeg 2) (vp_updL co nv.toNatClampNeg (x.toInt64 * (thou (y + 3 : Int32).toNatClampNeg).toInt64)) pr pa tw (nv + 1) sv)) (fun E _ => E = IAE ∧ ¬ (sIn x (-99999) 99999 && sIn y (-3) 3) = true ∨ E = ISE ∧ (sIn x (-99999) 99999 && sIn y (-3) 3) = true ∧ ¬ nv < 40) (fun _ => (wX a ++ wV a cI cJ ki co pr pa tw nv sv)) := h_Sj_number l hls D a cI cJ cZ ki co pr pa tw nv sv x y ((sIn x (-99999) 99999 && sIn y (-3) 3) = true ∧ nv < 40) (fun E => E = IAE ∧ ¬ (sIn x (-99999) 99999 && sIn y (-3) 3) = true ∨ E = ISE ∧ (sIn x (-99999) 99999 && sIn y (-3) 3) = true ∧ ¬ nv < 40) (nv + 1 - 1) (upd ki nv.toNatClampNeg 2) (vp_updL co nv.toNatClampNeg (x.toInt64 * (thou (y + 3 : Int32).toNatClampNeg).toInt64)) pr pa tw (nv + 1) sv ki co pr pa tw nv sv (by
  unfold V_Sj_number
  refine ⟨¬ (sIn x (-99999) 99999 && sIn y (-3) 3) = true, ⟨fun h => ?_, fun h => ⟨fun h2 => ?_, fun h2 => ?_⟩⟩, fun h => ⟨Or.inl ⟨rfl, h⟩, rfl, rfl, rfl, rfl, rfl, rfl, rfl⟩⟩
  · cases h1 : sIn x (-99999) 99999 <;> simp_all [bI]
  · have hb : (sIn x (-99999) 99999 && sIn y (-3) 3) = true := by
      cases h1 : sIn x (-99999) 99999 <;> cases h3 : sIn y (-3) 3 <;> simp_all [bI]
    exact ⟨n_in (Bool.and_eq_true_iff.mp hb).2, hpre, fun h3 => ⟨⟨hb, h3⟩, rfl, rfl, rfl, rfl, rfl, rfl, rfl, rfl⟩, fun E h3 => ⟨Or.inr ⟨h3.1, hb, h3.2⟩, rfl, rfl, rfl, rfl, rfl, rfl, rfl⟩⟩
  · cases h1 : sIn y (-3) 3 <;> simp_all [bI])
theorem hd_Sj_number : y_Sj_number.cls ≠ "java/lang/invoke/MethodHandle" ∧ y_Sj_number.cls ≠ "java/lang/invoke/VarHandle" ∧ (parseMethodDescriptor y_Sj_number.desc).map (fun d => d.parameters.length) = some 2 := ⟨by decide, by decide, by decide +kernel⟩
theorem sKind_iff {ki : Nat → Int32} {n x k : Int32} : sKind ki n x k = true ↔ (¬ x < 0 ∧ x < n) ∧ ki x.toNatClampNeg = k := by
  simp [sKind, sHas]
theorem bI_ne {b : Bool} : ¬ bI b = 0 ↔ b = true := by cases b <;> simp [bI]
theorem bI_eq {b : Bool} : bI b = 0 ↔ ¬ b = true := by cases b <;> simp [bI]
theorem vp_n {x : Int32} {n N : Nat} (hx : x = nI n) (h : n < N) (hN : N < 2 ^ 31) : vp_in x N := by rw [hx]; exact vp_in_nI h hN
theorem pop_le : ∀ k n, pop k n ≤ k := by
  intro k
  induction k with
  | zero => intro n; simp [pop]
  | succ k ih => intro n; simp only [pop]; have := ih (n / 2); omega
theorem vp_nat {x : Int32} {N : Nat} (h : vp_in x N) (hN : N < 2 ^ 31) : ∃ n : Nat, n < N ∧ x = nI n ∧ x.toNatClampNeg = n := by
  obtain ⟨n, hn, rfl⟩ := vp_in_of h hN
  exact ⟨n, hn, rfl, nI_clamp (by omega)⟩
theorem part_in {r i : Int32} {N : Nat} (hr : vp_in r 40) (hi : vp_in i N) (hN : N ≤ 12) : vp_in (r * 12 + i) 480 := by
  obtain ⟨a, ha, rfl, -⟩ := vp_nat hr (by decide)
  obtain ⟨b, hb, rfl, -⟩ := vp_nat hi (by omega)
  have e : nI a * 12 + nI b = nI (a * 12 + b) := by rw [show (12 : Int32) = nI 12 from rfl, pk_mul, nI_add]
  rw [e]
  exact vp_in_nI (by omega) (by decide)
theorem bits_in {x : Int32} {b : Nat} (hx : x = nI b) (hb : b < 4096) (h : ¬ 8 ≤ iBits x) : vp_in (iBits x) 8 := by
  rw [hx, iBits_pop hb] at h ⊢
  have h1 := pop_le 12 b
  exact vp_in_nI (by have := mt (nI_leI (a := 8) (b := pop 12 b) (by decide) (by omega)).mpr h; omega) (by decide)
def V_Sj_push (ki : Nat → Int32) (co : Nat → Int64) (pr : Nat → Int32) (pa : Nat → Int32) (tw : Nat → Int32) (nv : Int32) (sv : Int32) (x : Int32) (y : Int32) (post : Int32 → (Nat → Int32) → (Nat → Int64) → (Nat → Int32) → (Nat → Int32) → (Nat → Int32) → Int32 → Int32 → Prop) (px : String → (Nat → Int32) → (Nat → Int64) → (Nat → Int32) → (Nat → Int32) → (Nat → Int32) → Int32 → Int32 → Prop) : Prop :=
  (nv ≤ 40 ∧ (∃ J1 : Prop, (((bI (sKind ki nv x 4)) = 0 → J1) ∧ (¬ (bI (sKind ki nv x 4)) = 0 → ((¬ (bI (sIn y 0 (x - 1))) = 0 → (vp_in x 40 ∧ (((if ki x.toNatClampNeg = 3 then sCount (co x.toNatClampNeg).toInt32 else iBits (pr x.toNatClampNeg)) < 8 → (vp_in x 40 ∧ ((vp_in x 40 ∧ vp_in (x * 12 + (if ki x.toNatClampNeg = 3 then sCount (co x.toNatClampNeg).toInt32 else iBits (pr x.toNatClampNeg))) 480) ∧ (vp_in x 40 ∧ post (if ki x.toNatClampNeg = 3 then sCount (co x.toNatClampNeg).toInt32 else iBits ((upd pr x.toNatClampNeg (pr x.toNatClampNeg ||| (1 <<< ((if ki x.toNatClampNeg = 3 then sCount (co x.toNatClampNeg).toInt32 else iBits (pr x.toNatClampNeg)) &&& 31)))) x.toNatClampNeg)) ki co (upd pr x.toNatClampNeg (pr x.toNatClampNeg ||| (1 <<< ((if ki x.toNatClampNeg = 3 then sCount (co x.toNatClampNeg).toInt32 else iBits (pr x.toNatClampNeg)) &&& 31)))) (upd pa (x * 12 + (if ki x.toNatClampNeg = 3 then sCount (co x.toNatClampNeg).toInt32 else iBits (pr x.toNatClampNeg)) : Int32).toNatClampNeg y) tw nv (if x < sv then x else sv))))) ∧ (¬ (if ki x.toNatClampNeg = 3 then sCount (co x.toNatClampNeg).toInt32 else iBits (pr x.toNatClampNeg)) < 8 → px ISE ki co pr pa tw nv sv)))) ∧ ((bI (sIn y 0 (x - 1))) = 0 → J1)))) ∧ (J1 → px IAE ki co pr pa tw nv sv)))
set_option maxHeartbeats 4000000 in
set_option maxRecDepth 100000 in
theorem g_Sj_push {p : Program} {l : Launch} {e : Env} {R : Room} {s : State} {m : MethodId} {args : Array Value} {below : List Frame} {meth : Method} {c : Code} {H : Heap} {locs : List Loc} {Q : State → Prop} {ls : Array Slot} {A : Nat → Prop} (hls : l.stackTraces = false) (S : CallFix p m c b_Sj_push 3 s args W0 R_Sj) (hRf : 6 ≤ R.frames) (hRl : 90 ≤ R.locals) (hRc : 0 + 1 ≤ R.cells ∧ 0 + 6 ≤ R.slots) (D : va_G) (a : Nat → Nat) (cI cJ cZ : ClassId) (ki : Nat → Int32) (co : Nat → Int64) (pr : Nat → Int32) (pa : Nat → Int32) (tw : Nat → Int32) (nv : Int32) (sv : Int32) (x : Int32) (y : Int32) (hK : va_K D vwCl (tyA cI cJ cZ) s) (hP : va_P D vwCl (wX a ++ wV a cI cJ ki co pr pa tw nv sv) H) (hD : va_D A (wX a ++ wV a cI cJ ki co pr pa tw nv sv)) (hA : ∀ q, s.heap.size ≤ q → A q) (hS : va_S A s.heap H locs) (hX : eX A s s.heap) (hl : lv_has ls 3 [(0, .ref (a 24)), (1, .int x), (2, .int y)]) {post : Int32 → (Nat → Int32) → (Nat → Int64) → (Nat → Int32) → (Nat → Int32) → (Nat → Int32) → Int32 → Int32 → Prop} {px : String → (Nat → Int32) → (Nat → Int64) → (Nat → Int32) → (Nat → Int32) → (Nat → Int32) → Int32 → Int32 → Prop} (vc : V_Sj_push ki co pr pa tw nv sv x y post px)
    (hret : ∀ (v : Int32) (ki : Nat → Int32) (co : Nat → Int64) (pr : Nat → Int32) (pa : Nat → Int32) (tw : Nat → Int32) (nv : Int32) (sv : Int32) (ls : Array Slot) (pc : Nat) (H : Heap) (locs : List Loc) (k j : Nat), decode b_Sj_push pc = .ok (.ireturn, 1) → k ≤ 1 → j ≤ 6 → post v ki co pr pa tw nv sv → va_P D vwCl (wX a ++ wV a cI cJ ki co pr pa tw nv sv) H → va_D A (wX a ++ wV a cI cJ ki co pr pa tw nv sv) → va_S A s.heap H locs → W p l e R s m args below meth c H locs k j Q (F0 m pc ls [.int v]))
    (hthr : ∀ (ki : Nat → Int32) (co : Nat → Int64) (pr : Nat → Int32) (pa : Nat → Int32) (tw : Nat → Int32) (nv : Int32) (sv : Int32) (E : String) (ik is ic : Nat) (tx : String) (pc : Nat) (ls : Array Slot) (rest : List Value) (H : Heap) (locs : List Loc), ThrOK E ik is ic tx b_Sj_push pc → ls.size = 3 → (rest.map fun v => v.category).sum ≤ 8 → px E ki co pr pa tw nv sv → va_P D vwCl (wX a ++ wV a cI cJ ki co pr pa tw nv sv) H → va_D A (wX a ++ wV a cI cJ ki co pr pa tw nv sv) → va_S A s.heap H locs → W p l e R s m args below meth c H locs 0 0 Q (F0 m pc ls rest))
    (hout : ∀ (ki : Nat → Int32) (co : Nat → Int64) (pr : Nat → Int32) (pa : Nat → Int32) (tw : Nat → Int32) (nv : Int32) (sv : Int32) (E : String) (ce : Cell) (q : Addr) (pc : Nat) (ls : Array Slot) (rest : List Value) (H : Heap) (locs : List Loc) (k j : Nat), k ≤ 1 → j ≤ 6 → H[q]? = some ce → ce.vm = .none → s.vm.findClass E = some ce.cls → px E ki co pr pa tw nv sv → va_P D vwCl (wX a ++ wV a cI cJ ki co pr pa tw nv sv) H → va_D A (wX a ++ wV a cI cJ ki co pr pa tw nv sv) → va_S A s.heap H locs → vx_W p l e R s m args below meth c H locs k j Q (F0 m pc ls rest) q) : W p l e R s m args below meth c H locs 0 0 Q (F0 m 0 ls []) := by
  have hx := S.1
  have hb := S.2.1
  have hown := S.2.2.2.1
  have hts := S.2.2.2.2
  unfold V_Sj_push at vc
  refine lv_aload_n hx hb d_Sj_push_0 rfl (lv_at hl 0 rfl) ?_
  refine va_get (D := D) (ci := 5) (v := .ref (a 0)) (C := R_Sj) (T := F_Sj) (N := 4) hx hb hts in_Sj hown hK hP 0 rfl rfl 0 (by decide) (hts _ fl_Sj_10) (fun _ h => h) rfl d_Sj_push_1 ?_
  refine lv_iload_n hx hb d_Sj_push_4 rfl (lv_at hl 1 rfl) ?_
  refine lv_iconst (v := 4) hx hb d_Sj_push_5 (by decide) ?_
  obtain ⟨hpre, vc⟩ := vc
  refine pc_V (As := [.int x, .int 4]) (rest := []) S (c_Va_isOfKind l D a cI cJ cZ ki co pr pa tw nv sv x 4 hpre) wB_blind k_Va_isOfKind i_Va_isOfKind e_Va_isOfKind o_Va ml_Sj_77 hd_Va_isOfKind (Nat.le_trans (by decide) hRf) (Nat.le_trans (by decide) hRl) ⟨Nat.zero_le _, Nat.zero_le _⟩ (va_recv hK hP (q0 := 1) (ci := 4) rfl rfl) (wB_at (hP.sub (ws' := (wV a cI cJ ki co pr pa tw nv sv)) [1, 2, 3, 4, 5, 6] rfl) hK) hl.1 rfl (Nat.le_of_ble_eq_true rfl) d_Sj_push_6 ?_
  obtain ⟨J1, vc, vc2⟩ := vc
  have jJ1 : ∀ (ls : Array Slot) (H : Heap) (locs : List Loc), J1 → lv_has ls 3 [(0, .ref (a 24)), (1, .int x), (2, .int y)] → va_P D vwCl (wX a ++ wV a cI cJ ki co pr pa tw nv sv) H → va_D A (wX a ++ wV a cI cJ ki co pr pa tw nv sv) → va_S A s.heap H locs → W p l e R s m args below meth c H locs 0 0 Q (F0 m 23 ls []) := by
    intro  ls H locs vc hl hP hD hS
    have vc := vc2  vc
    exact hthr _ _ _ _ _ _ _ _ _ _ _ _ _ ls _ H locs ⟨x_IAE, (show ((81, "r is no row, or v not 0 .. r - 1") : Nat × String) ∈ STRS by decide +kernel), d_Sj_push_23, d_Sj_push_26, d_Sj_push_27, d_Sj_push_29, d_Sj_push_32⟩ hl.1 (Nat.le_of_ble_eq_true rfl) vc hP hD hS
  clear vc2
  refine lv_if_eq (tgt := 23) hx hb d_Sj_push_9 (by decide) (fun h => ?_) (fun h => ?_)
  · have vc := vc.1 h
    exact jJ1 ls H locs vc (lv_sub hl [0, 1, 2] rfl) hP hD hS
  · have vc := vc.2 h
    refine lv_iload_n hx hb d_Sj_push_12 rfl (lv_at hl 2 rfl) ?_
    refine lv_iconst (v := 0) hx hb d_Sj_push_13 (by decide) ?_
    refine lv_iload_n hx hb d_Sj_push_14 rfl (lv_at hl 1 rfl) ?_
    refine lv_iconst (v := 1) hx hb d_Sj_push_15 (by decide) ?_
    refine lv_isub hx hb d_Sj_push_16 ?_
    refine pc_S (As := [.int y, .int 0, .int (x - 1)]) (rest := []) S (c_Sj_isWithin l y 0 (x - 1)) wT_blind k_Sj_isWithin s_Sj_isWithin o_Sj ml_Sj_59 hd_Sj_isWithin (Nat.le_trans (by decide) hRf) (Nat.le_trans (by decide) hRl) ⟨Nat.zero_le _, Nat.zero_le _⟩ (fun _ _ _ => trivial) hl.1 rfl (Nat.le_of_ble_eq_true rfl) d_Sj_push_17 ?_
    refine lv_if_ne (tgt := 33) hx hb d_Sj_push_20 (by decide) (fun h => ?_) (fun h => ?_)
    · have vc := vc.1 h
      refine lv_aload_n hx hb d_Sj_push_33 rfl (lv_at hl 0 rfl) ?_
      refine va_get (D := D) (ci := 5) (v := .ref (a 0)) (C := R_Sj) (T := F_Sj) (N := 4) hx hb hts in_Sj hown hK hP 0 rfl rfl 0 (by decide) (hts _ fl_Sj_10) (fun _ h => h) rfl d_Sj_push_34 ?_
      refine lv_iload_n hx hb d_Sj_push_37 rfl (lv_at hl 1 rfl) ?_
      obtain ⟨hpre, vc⟩ := vc
      refine pc_V (As := [.int x]) (rest := []) S (c_Va_sizeOf l D a cI cJ cZ ki co pr pa tw nv sv x hpre) wB_blind k_Va_sizeOf i_Va_sizeOf e_Va_sizeOf o_Va ml_Sj_83 hd_Va_sizeOf (Nat.le_trans (by decide) hRf) (Nat.le_trans (by decide) hRl) ⟨Nat.zero_le _, Nat.zero_le _⟩ (va_recv hK hP (q0 := 1) (ci := 4) rfl rfl) (wB_at (hP.sub (ws' := (wV a cI cJ ki co pr pa tw nv sv)) [1, 2, 3, 4, 5, 6] rfl) hK) hl.1 rfl (Nat.le_of_ble_eq_true rfl) d_Sj_push_38 ?_
      refine lv_bipush (v := 8) hx hb d_Sj_push_41 (by decide) ?_
      refine lv_icmp_lt (tgt := 56) hx hb d_Sj_push_43 (by decide) (fun h => ?_) (fun h => ?_)
      · have vc := vc.1 h
        refine lv_aload_n hx hb d_Sj_push_56 rfl (lv_at hl 0 rfl) ?_
        refine va_get (D := D) (ci := 5) (v := .ref (a 0)) (C := R_Sj) (T := F_Sj) (N := 4) hx hb hts in_Sj hown hK hP 0 rfl rfl 0 (by decide) (hts _ fl_Sj_10) (fun _ h => h) rfl d_Sj_push_57 ?_
        refine lv_iload_n hx hb d_Sj_push_60 rfl (lv_at hl 1 rfl) ?_
        refine lv_aload_n hx hb d_Sj_push_61 rfl (lv_at hl 0 rfl) ?_
        refine va_get (D := D) (ci := 5) (v := .ref (a 0)) (C := R_Sj) (T := F_Sj) (N := 4) hx hb hts in_Sj hown hK hP 0 rfl rfl 0 (by decide) (hts _ fl_Sj_10) (fun _ h => h) rfl d_Sj_push_62 ?_
        refine lv_iload_n hx hb d_Sj_push_65 rfl (lv_at hl 1 rfl) ?_
        obtain ⟨hpre, vc⟩ := vc
        refine pc_V (As := [.int x]) (rest := [.int x, .ref (a 0)]) S (c_Va_sizeOf l D a cI cJ cZ ki co pr pa tw nv sv x hpre) wB_blind k_Va_sizeOf i_Va_sizeOf e_Va_sizeOf o_Va ml_Sj_83 hd_Va_sizeOf (Nat.le_trans (by decide) hRf) (Nat.le_trans (by decide) hRl) ⟨Nat.zero_le _, Nat.zero_le _⟩ (va_recv hK hP (q0 := 1) (ci := 4) rfl rfl) (wB_at (hP.sub (ws' := (wV a cI cJ ki co pr pa tw nv sv)) [1, 2, 3, 4, 5, 6] rfl) hK) hl.1 rfl (Nat.le_of_ble_eq_true rfl) d_Sj_push_66 ?_
        refine lv_iload_n hx hb d_Sj_push_69 rfl (lv_at hl 2 rfl) ?_
        obtain ⟨hpre, vc⟩ := vc
        refine wc_V (As := [.int x, .int (if ki x.toNatClampNeg = 3 then sCount (co x.toNatClampNeg).toInt32 else iBits (pr x.toNatClampNeg)), .int y]) (rest := []) (wr := (wX a)) S (c_Va_setPart l D a cI cJ cZ ki co pr pa tw nv sv x (if ki x.toNatClampNeg = 3 then sCount (co x.toNatClampNeg).toInt32 else iBits (pr x.toNatClampNeg)) y hpre) k_Va_setPart i_Va_setPart e_Va_setPart o_Va ml_Sj_92 hd_Va_setPart (Nat.le_trans (by decide) hRf) (Nat.le_trans (by decide) hRl) ⟨Nat.zero_le _, Nat.zero_le _⟩ (va_recv hK hP (q0 := 1) (ci := 4) rfl rfl) hK hP hD hS hA [1, 2, 3, 4, 5, 6] [0] rfl rfl rfl (by decide) (by decide) (by decide) hl.1 rfl (Nat.le_of_ble_eq_true rfl) d_Sj_push_70 (fun _ H locs _ hP hD hS => ?_)
        have hP : va_P D vwCl (wX a ++ wV a cI cJ ki co (upd pr x.toNatClampNeg (pr x.toNatClampNeg ||| (1 <<< ((if ki x.toNatClampNeg = 3 then sCount (co x.toNatClampNeg).toInt32 else iBits (pr x.toNatClampNeg)) &&& 31)))) (upd pa (x * 12 + (if ki x.toNatClampNeg = 3 then sCount (co x.toNatClampNeg).toInt32 else iBits (pr x.toNatClampNeg)) : Int32).toNatClampNeg y) tw nv (if x < sv then x else sv)) H := hP.sub [0, 1, 2, 3, 4, 5, 6] rfl
        have hD : va_D A (wX a ++ wV a cI cJ ki co (upd pr x.toNatClampNeg (pr x.toNatClampNeg ||| (1 <<< ((if ki x.toNatClampNeg = 3 then sCount (co x.toNatClampNeg).toInt32 else iBits (pr x.toNatClampNeg)) &&& 31)))) (upd pa (x * 12 + (if ki x.toNatClampNeg = 3 then sCount (co x.toNatClampNeg).toInt32 else iBits (pr x.toNatClampNeg)) : Int32).toNatClampNeg y) tw nv (if x < sv then x else sv)) := hD.sub [0, 1, 2, 3, 4, 5, 6] (by decide) rfl
        refine lv_aload_n hx hb d_Sj_push_73 rfl (lv_at hl 0 rfl) ?_
        refine va_get (D := D) (ci := 5) (v := .ref (a 0)) (C := R_Sj) (T := F_Sj) (N := 4) hx hb hts in_Sj hown hK hP 0 rfl rfl 0 (by decide) (hts _ fl_Sj_10) (fun _ h => h) rfl d_Sj_push_74 ?_
        refine lv_iload_n hx hb d_Sj_push_77 rfl (lv_at hl 1 rfl) ?_
        obtain ⟨hpre, vc⟩ := vc
        refine pc_V (As := [.int x]) (rest := []) S (c_Va_sizeOf l D a cI cJ cZ ki co (upd pr x.toNatClampNeg (pr x.toNatClampNeg ||| (1 <<< ((if ki x.toNatClampNeg = 3 then sCount (co x.toNatClampNeg).toInt32 else iBits (pr x.toNatClampNeg)) &&& 31)))) (upd pa (x * 12 + (if ki x.toNatClampNeg = 3 then sCount (co x.toNatClampNeg).toInt32 else iBits (pr x.toNatClampNeg)) : Int32).toNatClampNeg y) tw nv (if x < sv then x else sv) x hpre) wB_blind k_Va_sizeOf i_Va_sizeOf e_Va_sizeOf o_Va ml_Sj_83 hd_Va_sizeOf (Nat.le_trans (by decide) hRf) (Nat.le_trans (by decide) hRl) ⟨Nat.zero_le _, Nat.zero_le _⟩ (va_recv hK hP (q0 := 1) (ci := 4) rfl rfl) (wB_at (hP.sub (ws' := (wV a cI cJ ki co (upd pr x.toNatClampNeg (pr x.toNatClampNeg ||| (1 <<< ((if ki x.toNatClampNeg = 3 then sCount (co x.toNatClampNeg).toInt32 else iBits (pr x.toNatClampNeg)) &&& 31)))) (upd pa (x * 12 + (if ki x.toNatClampNeg = 3 then sCount (co x.toNatClampNeg).toInt32 else iBits (pr x.toNatClampNeg)) : Int32).toNatClampNeg y) tw nv (if x < sv then x else sv))) [1, 2, 3, 4, 5, 6] rfl) hK) hl.1 rfl (Nat.le_of_ble_eq_true rfl) d_Sj_push_78 ?_
        exact hret _ _ _ _ _ _ _ _ ls _ H locs _ _ d_Sj_push_81 (by decide) (by decide) vc hP hD hS
      · have vc := vc.2 h
        exact hthr _ _ _ _ _ _ _ _ _ _ _ _ _ ls _ H locs ⟨x_ISE, (show ((89, "the row has 8 elements") : Nat × String) ∈ STRS by decide +kernel), d_Sj_push_46, d_Sj_push_49, d_Sj_push_50, d_Sj_push_52, d_Sj_push_55⟩ hl.1 (Nat.le_of_ble_eq_true rfl) vc hP hD hS
    · have vc := vc.2 h
      exact jJ1 ls H locs vc (lv_sub hl [0, 1, 2] rfl) hP hD hS
theorem h_Sj_push (l : Launch) (hls : l.stackTraces = false) (D : va_G) (a : Nat → Nat) (cI cJ cZ : ClassId) (ki : Nat → Int32) (co : Nat → Int64) (pr : Nat → Int32) (pa : Nat → Int32) (tw : Nat → Int32) (nv : Int32) (sv : Int32) (x : Int32) (y : Int32) (ok : Prop) (bad : String → Prop) (r : Int32) (ki' : Nat → Int32) (co' : Nat → Int64) (pr' : Nat → Int32) (pa' : Nat → Int32) (tw' : Nat → Int32) (nv' : Int32) (sv' : Int32) (ki'' : Nat → Int32) (co'' : Nat → Int64) (pr'' : Nat → Int32) (pa'' : Nat → Int32) (tw'' : Nat → Int32) (nv'' : Int32) (sv'' : Int32) (vc : V_Sj_push ki co pr pa tw nv sv x y (fun v ki co pr pa tw nv sv => ok ∧ v = r ∧ ki = ki' ∧ co = co' ∧ pr = pr' ∧ pa = pa' ∧ tw = tw' ∧ nv = nv' ∧ sv = sv') (fun E ki co pr pa tw nv sv => bad E ∧ ki = ki'' ∧ co = co'' ∧ pr = pr'' ∧ pa = pa'' ∧ tw = tw'' ∧ nv = nv'' ∧ sv = sv'')) : Tm (S := Unit) (SX := Unit) l y_Sj_push b_Sj_push 3 (some .int) 6 90 [.ref (a 24), .int x, .int y] D (tyA cI cJ cZ) (wX a ++ wV a cI cJ ki co pr pa tw nv sv) (fun _ => ok) (fun _ => some (.int r)) (fun _ => (wX a ++ wV a cI cJ ki' co' pr' pa' tw' nv' sv')) (fun E _ => bad E) (fun _ => (wX a ++ wV a cI cJ ki'' co'' pr'' pa'' tw'' nv'' sv'')) :=
  tm_of hls (by decide) rfl (Or.inr ⟨.int, fun _ => r, rfl, fun _ => rfl, fun _ _ => rfl⟩) (Nat.le_of_ble_eq_true rfl) (by decide) (by decide) (fun p e s m below meth c ls Q A S hK hP hD hA hS hX hl hret hthr hout => g_Sj_push hls S (Nat.le_refl _) (Nat.le_refl _) ⟨Nat.le_refl _, Nat.le_refl _⟩ D a cI cJ cZ ki co pr pa tw nv sv x y hK hP hD hA hS hX hl vc
    (fun v ki co pr pa tw nv sv ls pc H locs k j hd hk hj hv hP hD hS => by obtain ⟨hok, rfl, rfl, rfl, rfl, rfl, rfl, rfl, rfl⟩ := hv; exact hret () ls pc H locs k j _ (Or.inr ⟨_, rfl, rfl, hd⟩) hk hj hok hP hD hS)
    (fun ki co pr pa tw nv sv E ik is ic tx pc ls rest H locs T hs hw hv hP hD hS => by obtain ⟨hbd, rfl, rfl, rfl, rfl, rfl, rfl, rfl⟩ := hv; exact hthr () E ik is ic tx pc ls rest H locs T hs hw hbd hP hD hS)
    (fun ki co pr pa tw nv sv E ce q pc ls rest H locs k j hk hj h1 h2 h3 hv hP hD hS => by obtain ⟨hbd, rfl, rfl, rfl, rfl, rfl, rfl, rfl⟩ := hv; exact hout () E ce q pc ls rest H locs k j hk hj h1 h2 h3 hbd hP hD hS))
theorem c_Sj_push (l : Launch) (hls : l.stackTraces = false) (D : va_G) (a : Nat → Nat) (cI cJ cZ : ClassId) (ki : Nat → Int32) (co : Nat → Int64) (pr : Nat → Int32) (pa : Nat → Int32) (tw : Nat → Int32) (nv : Int32) (sv : Int32) (x : Int32) (y : Int32) (hpre : (nv ≤ 40 ∧ ∀ j : Nat, j < 40 → ∃ b : Nat, b < 4096 ∧ pr j = nI b)) : Tm (S := Unit) (SX := Unit) l y_Sj_push b_Sj_push 3 (some .int) 6 90 [.ref (a 24), .int x, .int y] D (tyA cI cJ cZ) (wX a ++ wV a cI cJ ki co pr pa tw nv sv) (fun _ => (sKind ki nv x 4 && sIn y 0 (x - 1)) = true ∧ ¬ 8 ≤ iBits (pr x.toNatClampNeg)) (fun _ => some (.int (iBits ((upd pr x.toNatClampNeg (pr x.toNatClampNeg ||| (1 <<< ((iBits (pr x.toNatClampNeg)) &&& 31)))) x.toNatClampNeg)))) (fun _ => (wX a ++ wV a cI cJ ki co (upd pr x.toNatClampNeg (pr x.toNatClampNeg ||| (1 <<< ((iBits (pr x.toNatClampNeg)) &&& 31)))) (upd pa (x * 12 + iBits (pr x.toNatClampNeg) : Int32).toNatClampNeg y) tw nv (if x < sv then x else sv))) (fun E _ => E = IAE ∧ ¬ (sKind ki nv x 4 && sIn y 0 (x - 1)) = true ∨ E = ISE ∧ (sKind ki nv x 4 && sIn y 0 (x - 1)) = true ∧ 8 ≤ iBits (pr x.toNatClampNeg)) (fun _ => (wX a ++ wV a cI cJ ki co pr pa tw nv sv)) := h_Sj_push l hls D a cI cJ cZ ki co pr pa tw nv sv x y ((sKind ki nv x 4 && sIn y 0 (x - 1)) = true ∧ ¬ 8 ≤ iBits (pr x.toNatClampNeg)) (fun E => E = IAE ∧ ¬ (sKind ki nv x 4 && sIn y 0 (x - 1)) = true ∨ E = ISE ∧ (sKind ki nv x 4 && sIn y 0 (x - 1)) = true ∧ 8 ≤ iBits (pr x.toNatClampNeg)) (iBits ((upd pr x.toNatClampNeg (pr x.toNatClampNeg ||| (1 <<< ((iBits (pr x.toNatClampNeg)) &&& 31)))) x.toNatClampNeg)) ki co (upd pr x.toNatClampNeg (pr x.toNatClampNeg ||| (1 <<< ((iBits (pr x.toNatClampNeg)) &&& 31)))) (upd pa (x * 12 + iBits (pr x.toNatClampNeg) : Int32).toNatClampNeg y) tw nv (if x < sv then x else sv) ki co pr pa tw nv sv (by
  unfold V_Sj_push
  refine ⟨hpre.1, ¬ (sKind ki nv x 4 && sIn y 0 (x - 1)) = true, ⟨fun h => ?_, fun h => ⟨fun h2 => ?_, fun h2 => ?_⟩⟩, fun h => ⟨Or.inl ⟨rfl, h⟩, rfl, rfl, rfl, rfl, rfl, rfl, rfl⟩⟩
  · intro hb; exact bI_eq.mp h (Bool.and_eq_true_iff.mp hb).1
  · have hb : (sKind ki nv x 4 && sIn y 0 (x - 1)) = true := Bool.and_eq_true_iff.mpr ⟨bI_ne.mp h, bI_ne.mp h2⟩
    have hk := sKind_iff.mp (bI_ne.mp h)
    have hx : vp_in x 40 := vp_lt (Int32.le_iff_toInt_le.mp hpre.1) hk.1.1 hk.1.2
    obtain ⟨n, hn, hxn, hc⟩ := vp_nat hx (by decide)
    obtain ⟨b, hb4, hpb⟩ := hpre.2 n hn
    have h43 : ¬ ki x.toNatClampNeg = 3 := by rw [hk.2]; decide
    simp only [if_neg h43]
    refine ⟨hx, fun h3 => ?_, fun h3 => ?_⟩
    · have h8 : ¬ 8 ≤ iBits (pr x.toNatClampNeg) := Int32.not_le.mpr h3
      exact ⟨hx, ⟨hx, part_in hx (bits_in (by rw [hc]; exact hpb) hb4 h8) (by decide)⟩, hx, ⟨hb, h8⟩, by simp⟩
    · exact ⟨Or.inr ⟨by simp, hb, Int32.not_lt.mp h3⟩, by simp⟩
  · intro hb; exact bI_eq.mp h2 (Bool.and_eq_true_iff.mp hb).2)
theorem hd_Sj_push : y_Sj_push.cls ≠ "java/lang/invoke/MethodHandle" ∧ y_Sj_push.cls ≠ "java/lang/invoke/VarHandle" ∧ (parseMethodDescriptor y_Sj_push.desc).map (fun d => d.parameters.length) = some 2 := ⟨by decide, by decide, by decide +kernel⟩
def V_Sj_put (ki : Nat → Int32) (co : Nat → Int64) (pr : Nat → Int32) (pa : Nat → Int32) (tw : Nat → Int32) (nv : Int32) (sv : Int32) (x : Int32) (y : Int32) (z : Int32) (post : (Nat → Int32) → (Nat → Int64) → (Nat → Int32) → (Nat → Int32) → (Nat → Int32) → Int32 → Int32 → Prop) (px : String → (Nat → Int32) → (Nat → Int64) → (Nat → Int32) → (Nat → Int32) → (Nat → Int32) → Int32 → Int32 → Prop) : Prop :=
  (nv ≤ 40 ∧ (∃ J1 : Prop, (((bI (sKind ki nv x 5)) = 0 → J1) ∧ (¬ (bI (sKind ki nv x 5)) = 0 → (((bI (sIn y 0 11)) = 0 → J1) ∧ (¬ (bI (sIn y 0 11)) = 0 → ((¬ (bI (sIn z 0 (x - 1))) = 0 → ((vp_in x 40 ∧ vp_in (x * 12 + y) 480) ∧ post ki co (upd pr x.toNatClampNeg (pr x.toNatClampNeg ||| (1 <<< (y &&& 31)))) (upd pa (x * 12 + y : Int32).toNatClampNeg z) tw nv (if x < sv then x else sv))) ∧ ((bI (sIn z 0 (x - 1))) = 0 → J1)))))) ∧ (J1 → px IAE ki co pr pa tw nv sv)))
set_option maxHeartbeats 4000000 in
set_option maxRecDepth 100000 in
theorem g_Sj_put {p : Program} {l : Launch} {e : Env} {R : Room} {s : State} {m : MethodId} {args : Array Value} {below : List Frame} {meth : Method} {c : Code} {H : Heap} {locs : List Loc} {Q : State → Prop} {ls : Array Slot} {A : Nat → Prop} (hls : l.stackTraces = false) (S : CallFix p m c b_Sj_put 4 s args W0 R_Sj) (hRf : 6 ≤ R.frames) (hRl : 90 ≤ R.locals) (hRc : 0 + 1 ≤ R.cells ∧ 0 + 6 ≤ R.slots) (D : va_G) (a : Nat → Nat) (cI cJ cZ : ClassId) (ki : Nat → Int32) (co : Nat → Int64) (pr : Nat → Int32) (pa : Nat → Int32) (tw : Nat → Int32) (nv : Int32) (sv : Int32) (x : Int32) (y : Int32) (z : Int32) (hK : va_K D vwCl (tyA cI cJ cZ) s) (hP : va_P D vwCl (wX a ++ wV a cI cJ ki co pr pa tw nv sv) H) (hD : va_D A (wX a ++ wV a cI cJ ki co pr pa tw nv sv)) (hA : ∀ q, s.heap.size ≤ q → A q) (hS : va_S A s.heap H locs) (hX : eX A s s.heap) (hl : lv_has ls 4 [(0, .ref (a 24)), (1, .int x), (2, .int y), (3, .int z)]) {post : (Nat → Int32) → (Nat → Int64) → (Nat → Int32) → (Nat → Int32) → (Nat → Int32) → Int32 → Int32 → Prop} {px : String → (Nat → Int32) → (Nat → Int64) → (Nat → Int32) → (Nat → Int32) → (Nat → Int32) → Int32 → Int32 → Prop} (vc : V_Sj_put ki co pr pa tw nv sv x y z post px)
    (hret : ∀ (ki : Nat → Int32) (co : Nat → Int64) (pr : Nat → Int32) (pa : Nat → Int32) (tw : Nat → Int32) (nv : Int32) (sv : Int32) (ls : Array Slot) (pc : Nat) (H : Heap) (locs : List Loc) (k j : Nat), decode b_Sj_put pc = .ok (.return_, 1) → k ≤ 1 → j ≤ 6 → post ki co pr pa tw nv sv → va_P D vwCl (wX a ++ wV a cI cJ ki co pr pa tw nv sv) H → va_D A (wX a ++ wV a cI cJ ki co pr pa tw nv sv) → va_S A s.heap H locs → W p l e R s m args below meth c H locs k j Q (F0 m pc ls []))
    (hthr : ∀ (ki : Nat → Int32) (co : Nat → Int64) (pr : Nat → Int32) (pa : Nat → Int32) (tw : Nat → Int32) (nv : Int32) (sv : Int32) (E : String) (ik is ic : Nat) (tx : String) (pc : Nat) (ls : Array Slot) (rest : List Value) (H : Heap) (locs : List Loc), ThrOK E ik is ic tx b_Sj_put pc → ls.size = 4 → (rest.map fun v => v.category).sum ≤ 8 → px E ki co pr pa tw nv sv → va_P D vwCl (wX a ++ wV a cI cJ ki co pr pa tw nv sv) H → va_D A (wX a ++ wV a cI cJ ki co pr pa tw nv sv) → va_S A s.heap H locs → W p l e R s m args below meth c H locs 0 0 Q (F0 m pc ls rest))
    (hout : ∀ (ki : Nat → Int32) (co : Nat → Int64) (pr : Nat → Int32) (pa : Nat → Int32) (tw : Nat → Int32) (nv : Int32) (sv : Int32) (E : String) (ce : Cell) (q : Addr) (pc : Nat) (ls : Array Slot) (rest : List Value) (H : Heap) (locs : List Loc) (k j : Nat), k ≤ 1 → j ≤ 6 → H[q]? = some ce → ce.vm = .none → s.vm.findClass E = some ce.cls → px E ki co pr pa tw nv sv → va_P D vwCl (wX a ++ wV a cI cJ ki co pr pa tw nv sv) H → va_D A (wX a ++ wV a cI cJ ki co pr pa tw nv sv) → va_S A s.heap H locs → vx_W p l e R s m args below meth c H locs k j Q (F0 m pc ls rest) q) : W p l e R s m args below meth c H locs 0 0 Q (F0 m 0 ls []) := by
  have hx := S.1
  have hb := S.2.1
  have hown := S.2.2.2.1
  have hts := S.2.2.2.2
  unfold V_Sj_put at vc
  refine lv_aload_n hx hb d_Sj_put_0 rfl (lv_at hl 0 rfl) ?_
  refine va_get (D := D) (ci := 5) (v := .ref (a 0)) (C := R_Sj) (T := F_Sj) (N := 4) hx hb hts in_Sj hown hK hP 0 rfl rfl 0 (by decide) (hts _ fl_Sj_10) (fun _ h => h) rfl d_Sj_put_1 ?_
  refine lv_iload_n hx hb d_Sj_put_4 rfl (lv_at hl 1 rfl) ?_
  refine lv_iconst (v := 5) hx hb d_Sj_put_5 (by decide) ?_
  obtain ⟨hpre, vc⟩ := vc
  refine pc_V (As := [.int x, .int 5]) (rest := []) S (c_Va_isOfKind l D a cI cJ cZ ki co pr pa tw nv sv x 5 hpre) wB_blind k_Va_isOfKind i_Va_isOfKind e_Va_isOfKind o_Va ml_Sj_77 hd_Va_isOfKind (Nat.le_trans (by decide) hRf) (Nat.le_trans (by decide) hRl) ⟨Nat.zero_le _, Nat.zero_le _⟩ (va_recv hK hP (q0 := 1) (ci := 4) rfl rfl) (wB_at (hP.sub (ws' := (wV a cI cJ ki co pr pa tw nv sv)) [1, 2, 3, 4, 5, 6] rfl) hK) hl.1 rfl (Nat.le_of_ble_eq_true rfl) d_Sj_put_6 ?_
  obtain ⟨J1, vc, vc2⟩ := vc
  have jJ1 : ∀ (ls : Array Slot) (H : Heap) (locs : List Loc), J1 → lv_has ls 4 [(0, .ref (a 24)), (1, .int x), (2, .int y), (3, .int z)] → va_P D vwCl (wX a ++ wV a cI cJ ki co pr pa tw nv sv) H → va_D A (wX a ++ wV a cI cJ ki co pr pa tw nv sv) → va_S A s.heap H locs → W p l e R s m args below meth c H locs 0 0 Q (F0 m 30 ls []) := by
    intro  ls H locs vc hl hP hD hS
    have vc := vc2  vc
    exact hthr _ _ _ _ _ _ _ _ _ _ _ _ _ ls _ H locs ⟨x_IAE, (show ((99, "r has no members, the name is not 0 .. 11, or v not 0 .. r - 1") : Nat × String) ∈ STRS by decide +kernel), d_Sj_put_30, d_Sj_put_33, d_Sj_put_34, d_Sj_put_36, d_Sj_put_39⟩ hl.1 (Nat.le_of_ble_eq_true rfl) vc hP hD hS
  clear vc2
  refine lv_if_eq (tgt := 30) hx hb d_Sj_put_9 (by decide) (fun h => ?_) (fun h => ?_)
  · have vc := vc.1 h
    exact jJ1 ls H locs vc (lv_sub hl [0, 1, 2, 3] rfl) hP hD hS
  · have vc := vc.2 h
    refine lv_iload_n hx hb d_Sj_put_12 rfl (lv_at hl 2 rfl) ?_
    refine pc_S (As := [.int y]) (rest := []) S (c_Sj_isName l y) wT_blind k_Sj_isName s_Sj_isName o_Sj ml_Sj_96 hd_Sj_isName (Nat.le_trans (by decide) hRf) (Nat.le_trans (by decide) hRl) ⟨Nat.zero_le _, Nat.zero_le _⟩ (fun _ _ _ => trivial) hl.1 rfl (Nat.le_of_ble_eq_true rfl) d_Sj_put_13 ?_
    refine lv_if_eq (tgt := 30) hx hb d_Sj_put_16 (by decide) (fun h => ?_) (fun h => ?_)
    · have vc := vc.1 h
      exact jJ1 ls H locs vc (lv_sub hl [0, 1, 2, 3] rfl) hP hD hS
    · have vc := vc.2 h
      refine lv_iload_n hx hb d_Sj_put_19 rfl (lv_at hl 3 rfl) ?_
      refine lv_iconst (v := 0) hx hb d_Sj_put_20 (by decide) ?_
      refine lv_iload_n hx hb d_Sj_put_21 rfl (lv_at hl 1 rfl) ?_
      refine lv_iconst (v := 1) hx hb d_Sj_put_22 (by decide) ?_
      refine lv_isub hx hb d_Sj_put_23 ?_
      refine pc_S (As := [.int z, .int 0, .int (x - 1)]) (rest := []) S (c_Sj_isWithin l z 0 (x - 1)) wT_blind k_Sj_isWithin s_Sj_isWithin o_Sj ml_Sj_59 hd_Sj_isWithin (Nat.le_trans (by decide) hRf) (Nat.le_trans (by decide) hRl) ⟨Nat.zero_le _, Nat.zero_le _⟩ (fun _ _ _ => trivial) hl.1 rfl (Nat.le_of_ble_eq_true rfl) d_Sj_put_24 ?_
      refine lv_if_ne (tgt := 40) hx hb d_Sj_put_27 (by decide) (fun h => ?_) (fun h => ?_)
      · have vc := vc.1 h
        refine lv_aload_n hx hb d_Sj_put_40 rfl (lv_at hl 0 rfl) ?_
        refine va_get (D := D) (ci := 5) (v := .ref (a 0)) (C := R_Sj) (T := F_Sj) (N := 4) hx hb hts in_Sj hown hK hP 0 rfl rfl 0 (by decide) (hts _ fl_Sj_10) (fun _ h => h) rfl d_Sj_put_41 ?_
        refine lv_iload_n hx hb d_Sj_put_44 rfl (lv_at hl 1 rfl) ?_
        refine lv_iload_n hx hb d_Sj_put_45 rfl (lv_at hl 2 rfl) ?_
        refine lv_iload_n hx hb d_Sj_put_46 rfl (lv_at hl 3 rfl) ?_
        obtain ⟨hpre, vc⟩ := vc
        refine wc_V (As := [.int x, .int y, .int z]) (rest := []) (wr := (wX a)) S (c_Va_setPart l D a cI cJ cZ ki co pr pa tw nv sv x y z hpre) k_Va_setPart i_Va_setPart e_Va_setPart o_Va ml_Sj_92 hd_Va_setPart (Nat.le_trans (by decide) hRf) (Nat.le_trans (by decide) hRl) ⟨Nat.zero_le _, Nat.zero_le _⟩ (va_recv hK hP (q0 := 1) (ci := 4) rfl rfl) hK hP hD hS hA [1, 2, 3, 4, 5, 6] [0] rfl rfl rfl (by decide) (by decide) (by decide) hl.1 rfl (Nat.le_of_ble_eq_true rfl) d_Sj_put_47 (fun _ H locs _ hP hD hS => ?_)
        have hP : va_P D vwCl (wX a ++ wV a cI cJ ki co (upd pr x.toNatClampNeg (pr x.toNatClampNeg ||| (1 <<< (y &&& 31)))) (upd pa (x * 12 + y : Int32).toNatClampNeg z) tw nv (if x < sv then x else sv)) H := hP.sub [0, 1, 2, 3, 4, 5, 6] rfl
        have hD : va_D A (wX a ++ wV a cI cJ ki co (upd pr x.toNatClampNeg (pr x.toNatClampNeg ||| (1 <<< (y &&& 31)))) (upd pa (x * 12 + y : Int32).toNatClampNeg z) tw nv (if x < sv then x else sv)) := hD.sub [0, 1, 2, 3, 4, 5, 6] (by decide) rfl
        exact hret _ _ _ _ _ _ _ ls _ H locs _ _ d_Sj_put_50 (by decide) (by decide) vc hP hD hS
      · have vc := vc.2 h
        exact jJ1 ls H locs vc (lv_sub hl [0, 1, 2, 3] rfl) hP hD hS
theorem h_Sj_put (l : Launch) (hls : l.stackTraces = false) (D : va_G) (a : Nat → Nat) (cI cJ cZ : ClassId) (ki : Nat → Int32) (co : Nat → Int64) (pr : Nat → Int32) (pa : Nat → Int32) (tw : Nat → Int32) (nv : Int32) (sv : Int32) (x : Int32) (y : Int32) (z : Int32) (ok : Prop) (bad : String → Prop) (ki' : Nat → Int32) (co' : Nat → Int64) (pr' : Nat → Int32) (pa' : Nat → Int32) (tw' : Nat → Int32) (nv' : Int32) (sv' : Int32) (ki'' : Nat → Int32) (co'' : Nat → Int64) (pr'' : Nat → Int32) (pa'' : Nat → Int32) (tw'' : Nat → Int32) (nv'' : Int32) (sv'' : Int32) (vc : V_Sj_put ki co pr pa tw nv sv x y z (fun ki co pr pa tw nv sv => ok ∧ ki = ki' ∧ co = co' ∧ pr = pr' ∧ pa = pa' ∧ tw = tw' ∧ nv = nv' ∧ sv = sv') (fun E ki co pr pa tw nv sv => bad E ∧ ki = ki'' ∧ co = co'' ∧ pr = pr'' ∧ pa = pa'' ∧ tw = tw'' ∧ nv = nv'' ∧ sv = sv'')) : Tm (S := Unit) (SX := Unit) l y_Sj_put b_Sj_put 4 none 6 90 [.ref (a 24), .int x, .int y, .int z] D (tyA cI cJ cZ) (wX a ++ wV a cI cJ ki co pr pa tw nv sv) (fun _ => ok) (fun _ => none) (fun _ => (wX a ++ wV a cI cJ ki' co' pr' pa' tw' nv' sv')) (fun E _ => bad E) (fun _ => (wX a ++ wV a cI cJ ki'' co'' pr'' pa'' tw'' nv'' sv'')) :=
  tm_of hls (by decide) rfl (Or.inl ⟨rfl, fun _ => rfl⟩) (Nat.le_of_ble_eq_true rfl) (by decide) (by decide) (fun p e s m below meth c ls Q A S hK hP hD hA hS hX hl hret hthr hout => g_Sj_put hls S (Nat.le_refl _) (Nat.le_refl _) ⟨Nat.le_refl _, Nat.le_refl _⟩ D a cI cJ cZ ki co pr pa tw nv sv x y z hK hP hD hA hS hX hl vc
    (fun  ki co pr pa tw nv sv ls pc H locs k j hd hk hj hv hP hD hS => by obtain ⟨hok, rfl, rfl, rfl, rfl, rfl, rfl, rfl⟩ := hv; exact hret () ls pc H locs k j _ (Or.inl ⟨rfl, rfl, hd⟩) hk hj hok hP hD hS)
    (fun ki co pr pa tw nv sv E ik is ic tx pc ls rest H locs T hs hw hv hP hD hS => by obtain ⟨hbd, rfl, rfl, rfl, rfl, rfl, rfl, rfl⟩ := hv; exact hthr () E ik is ic tx pc ls rest H locs T hs hw hbd hP hD hS)
    (fun ki co pr pa tw nv sv E ce q pc ls rest H locs k j hk hj h1 h2 h3 hv hP hD hS => by obtain ⟨hbd, rfl, rfl, rfl, rfl, rfl, rfl, rfl⟩ := hv; exact hout () E ce q pc ls rest H locs k j hk hj h1 h2 h3 hbd hP hD hS))
theorem c_Sj_put (l : Launch) (hls : l.stackTraces = false) (D : va_G) (a : Nat → Nat) (cI cJ cZ : ClassId) (ki : Nat → Int32) (co : Nat → Int64) (pr : Nat → Int32) (pa : Nat → Int32) (tw : Nat → Int32) (nv : Int32) (sv : Int32) (x : Int32) (y : Int32) (z : Int32) (hpre : nv ≤ 40) : Tm (S := Unit) (SX := Unit) l y_Sj_put b_Sj_put 4 none 6 90 [.ref (a 24), .int x, .int y, .int z] D (tyA cI cJ cZ) (wX a ++ wV a cI cJ ki co pr pa tw nv sv) (fun _ => (sKind ki nv x 5 && (sIn y 0 11 && sIn z 0 (x - 1))) = true) (fun _ => none) (fun _ => (wX a ++ wV a cI cJ ki co (upd pr x.toNatClampNeg (pr x.toNatClampNeg ||| (1 <<< (y &&& 31)))) (upd pa (x * 12 + y : Int32).toNatClampNeg z) tw nv (if x < sv then x else sv))) (fun E _ => E = IAE ∧ ¬ (sKind ki nv x 5 && (sIn y 0 11 && sIn z 0 (x - 1))) = true) (fun _ => (wX a ++ wV a cI cJ ki co pr pa tw nv sv)) := h_Sj_put l hls D a cI cJ cZ ki co pr pa tw nv sv x y z ((sKind ki nv x 5 && (sIn y 0 11 && sIn z 0 (x - 1))) = true) (fun E => E = IAE ∧ ¬ (sKind ki nv x 5 && (sIn y 0 11 && sIn z 0 (x - 1))) = true) ki co (upd pr x.toNatClampNeg (pr x.toNatClampNeg ||| (1 <<< (y &&& 31)))) (upd pa (x * 12 + y : Int32).toNatClampNeg z) tw nv (if x < sv then x else sv) ki co pr pa tw nv sv (by
  unfold V_Sj_put
  refine ⟨hpre, ¬ (sKind ki nv x 5 && (sIn y 0 11 && sIn z 0 (x - 1))) = true, ⟨fun h => ?_, fun h => ⟨fun h2 => ?_, fun h2 => ⟨fun h3 => ?_, fun h3 => ?_⟩⟩⟩, fun h => ⟨⟨rfl, h⟩, rfl, rfl, rfl, rfl, rfl, rfl, rfl⟩⟩
  · intro hb; exact bI_eq.mp h (Bool.and_eq_true_iff.mp hb).1
  · intro hb; exact bI_eq.mp h2 (Bool.and_eq_true_iff.mp (Bool.and_eq_true_iff.mp hb).2).1
  · have hb : (sKind ki nv x 5 && (sIn y 0 11 && sIn z 0 (x - 1))) = true := Bool.and_eq_true_iff.mpr ⟨bI_ne.mp h, Bool.and_eq_true_iff.mpr ⟨bI_ne.mp h2, bI_ne.mp h3⟩⟩
    have hk := sKind_iff.mp (bI_ne.mp h)
    have hx : vp_in x 40 := vp_lt (Int32.le_iff_toInt_le.mp hpre) hk.1.1 hk.1.2
    exact ⟨⟨hx, part_in hx (vp_sIn (N := 12) (bI_ne.mp h2) (by decide)) (by decide)⟩, hb, rfl, rfl, rfl, rfl, rfl, rfl, rfl⟩
  · intro hb; exact bI_eq.mp h3 (Bool.and_eq_true_iff.mp (Bool.and_eq_true_iff.mp hb).2).2)
theorem hd_Sj_put : y_Sj_put.cls ≠ "java/lang/invoke/MethodHandle" ∧ y_Sj_put.cls ≠ "java/lang/invoke/VarHandle" ∧ (parseMethodDescriptor y_Sj_put.desc).map (fun d => d.parameters.length) = some 3 := ⟨by decide, by decide, by decide +kernel⟩
