/-! ===== order: the model finds the circles that the class finds ===== -/
noncomputable def cN (p : Nat → Prop) : Nat → Nat
  | 0 => 0
  | k + 1 => cN p k + @ite _ (p k) (Classical.propDecidable _) 1 0
theorem cN_le (p : Nat → Prop) : ∀ k, cN p k ≤ k := by
  intro k
  induction k with
  | zero => exact Nat.le_refl _
  | succ k ih => simp only [cN]; split <;> omega
theorem cN_mono {p q : Nat → Prop} : ∀ k, (∀ i, i < k → p i → q i) → cN p k ≤ cN q k := by
  intro k
  induction k with
  | zero => intro _; exact Nat.le_refl _
  | succ k ih =>
    intro h
    have := ih (fun i hi => h i (by omega))
    have h2 := h k (by omega)
    simp only [cN]
    by_cases e : p k
    · rw [if_pos e, if_pos (h2 e)]; omega
    · rw [if_neg e]; split <;> omega
theorem cN_lt {p q : Nat → Prop} : ∀ k, (∀ i, i < k → p i → q i) → (∃ i, i < k ∧ q i ∧ ¬ p i) → cN p k < cN q k := by
  intro k
  induction k with
  | zero => rintro _ ⟨i, hi, _⟩; exact absurd hi (Nat.not_lt_zero _)
  | succ k ih =>
    rintro h ⟨i, hi, h1, h2⟩
    have hm := cN_mono k (fun i hi => h i (by omega))
    simp only [cN]
    by_cases e : i = k
    · subst e
      rw [if_neg h2, if_pos h1]; omega
    · have := ih (fun i hi => h i (by omega)) ⟨i, by omega, h1, h2⟩
      have h3 := h k (by omega)
      by_cases e2 : p k
      · rw [if_pos e2, if_pos (h3 e2)]; omega
      · rw [if_neg e2]; split <;> omega
/-- without circles there is a rank -/
theorem rank_of {E : Nat → Nat → Prop} (hE : ∀ a b, E a b → a < 24) (hc : ∀ t, t < 24 → ¬ Relation.TransGen E t t) : ∀ a b, a < 24 → b < 24 → E a b → cN (fun i => Relation.TransGen E i a) 24 < cN (fun i => Relation.TransGen E i b) 24 :=
  fun a b ha hb e => cN_lt 24 (fun i _ h => h.tail e) ⟨a, ha, .single e, hc a ha⟩
theorem MkI.trans {P P' D D' : Nat → Prop} {f0 f f' : Nat → Int32} {m0 m m' : Int32} (h : MkI P D f0 m0 f m) (h' : MkI P' D' f m f' m') (hP : ∀ t, P' t → P t) (hD : ∀ t, D t → False) : MkI P D f0 m0 f' m' := by
  obtain ⟨a1, a2, a3⟩ := h
  obtain ⟨b1, b2, b3⟩ := h'
  have key : ∀ t, f' t ≠ f0 t → P t ∧ t < 24 ∧ f0 t = 0 ∧ f' t = 1 := fun t ht => by
    by_cases e : f' t = f t
    · rw [e] at ht ⊢; exact a1 t ht
    · obtain ⟨c1, c2, c3, c4⟩ := b1 t e
      by_cases e2 : f t = f0 t
      · exact ⟨hP t c1, c2, by rw [← e2]; exact c3, c4⟩
      · have := (a1 t e2).2.2.2; rw [c3] at this; exact absurd this (by decide)
  refine ⟨key, ?_, fun t _ d => (hD t d).elim⟩
  rcases b2 with ⟨rfl, rfl⟩ | ⟨rfl, t, ht, c1, c2⟩
  · exact a2
  · refine Or.inr ⟨rfl, t, ht, ?_, c2⟩
    by_cases e : f t = f0 t
    · rw [← e]; exact c1
    · have := (a1 t e).2.2.2; rw [c1] at this; exact absurd this (by decide)
theorem LAN_lt {ru le li bn : Nat → Int32} {n s t : Nat} (hn : n ≤ 24) (h : LdOK ru le li bn n) (hs : s < 24) (hb : bt (sLIP ru le li bn s ||| sLEW ru le li bn s) t = true) : t < n := by
  obtain ⟨ht, w⟩ := (LAN_iff hn h hs).mp hb
  have fin : ∀ x : Int32, okx x n → x = nI t → t < n := fun x ho e => by
    obtain ⟨c, hc, e2⟩ := okx_nn ho (by rw [e]; exact nI_pos (by omega))
    rw [e, nI_eq (by omega) (by omega)] at e2
    omega
  rcases w with ⟨j, h1, h2, h3, h4, e⟩ | ⟨k, i, h1, h2, e⟩ | ⟨k, i, h1, h2, e⟩
  · exact fin _ ((h s hs).1 j h1 h2 h3 h4) e
  · exact fin _ ((h s hs).2.1 k i h1 h2) e
  · exact fin _ ((h s hs).2.2 k i h1 h2) e
theorem LIP_LAN {ru le li bn : Nat → Int32} {s t : Nat} (hb : bt (sLIP ru le li bn s) t = true) : bt (sLIP ru le li bn s ||| sLEW ru le li bn s) t = true := by rw [b_or, hb]; rfl
theorem narb (b : Bool) : vp_nar .boolean (bI b) = bI b := by cases b <;> decide
theorem lvl_nI {g : Nat → Int32} {t c : Nat} (h : g t = nI c) (hc : c < 2 ^ 31) : lvl g t = c := by unfold lvl; rw [h, nI_clamp hc]
def V_Mo_order (mki : Nat → Int32) (msz : Nat → Int64) (mle : Nat → Int32) (mel : Nat → Int32) (mme : Nat → Int32) (mal : Nat → Int32) (mic : Nat → Int32) (mil : Nat → Int32) (mio : Nat → Int32) (mab : Nat → Int32) (mae : Nat → Int32) (msa : Nat → Int32) (mlc : Nat → Int32) (mli : Nat → Int32) (mna : Nat → Int32) (mva : Nat → Int32) (mma : Nat → Int32) (mch : Nat → Int32) (mre : Nat → Int32) (mlv : Nat → Int32) (mwr : Nat → Int64) (msh : Nat → Int32) (mth : Int32) (mnv : Int32) (mns : Int32) (mfa : Int32) (mmo : Int32) (x : Int32) (post : Int32 → (Nat → Int32) → (Nat → Int64) → (Nat → Int32) → (Nat → Int32) → (Nat → Int32) → (Nat → Int32) → (Nat → Int32) → (Nat → Int32) → (Nat → Int32) → (Nat → Int32) → (Nat → Int32) → (Nat → Int32) → (Nat → Int32) → (Nat → Int32) → (Nat → Int32) → (Nat → Int32) → (Nat → Int32) → (Nat → Int32) → (Nat → Int32) → (Nat → Int32) → (Nat → Int64) → (Nat → Int32) → Int32 → Int32 → Int32 → Int32 → Int32 → Prop) : Prop :=
  (∃ (I7 : Int32 → (Nat → Int32) → (Nat → Int32) → Prop) (mI7 : Int32 → (Nat → Int32) → (Nat → Int32) → Nat), I7 0 mre mlv ∧ (∀ (x4 : Int32) (f5 : Nat → Int32) (f6 : Nat → Int32), I7 x4 f5 f6 → ((24 ≤ x4 → (∃ (I21 : Int32 → (Nat → Int32) → Int32 → Prop) (mI21 : Int32 → (Nat → Int32) → Int32 → Nat), I21 x4 f5 1 ∧ (∀ (x18 : Int32) (f19 : Nat → Int32) (u20 : Int32), I21 x18 f19 u20 → ((u20 = 0 → (∃ (I35 : Int32 → (Nat → Int32) → Int32 → Prop) (mI35 : Int32 → (Nat → Int32) → Int32 → Nat), I35 0 f6 1 ∧ (∀ (x32 : Int32) (f33 : Nat → Int32) (u34 : Int32), I35 x32 f33 u34 → (∃ J36 : Prop, ((26 ≤ x32 → J36) ∧ (¬ 26 ≤ x32 → ((u34 = 0 → J36) ∧ (¬ u34 = 0 → (∃ (I43 : Int32 → (Nat → Int32) → Int32 → Prop) (mI43 : Int32 → (Nat → Int32) → Int32 → Nat), I43 0 f33 0 ∧ (∀ (x40 : Int32) (f41 : Nat → Int32) (u42 : Int32), I43 x40 f41 u42 → ((mns ≤ x40 → (I35 (x32 + 1) f41 u42 ∧ mI35 (x32 + 1) f41 u42 < mI35 x32 f33 u34)) ∧ (¬ mns ≤ x40 → (vp_in x40 24 ∧ (((f19 x40.toNatClampNeg) = 0 → (I43 (x40 + 1) f41 u42 ∧ mI43 (x40 + 1) f41 u42 < mI43 x40 f41 u42)) ∧ (¬ (f19 x40.toNatClampNeg) = 0 → ((∃ s n : Nat, s < 24 ∧ n ≤ 24 ∧ x40 = nI s ∧ LdOK msa mlc mli mna n ∧ LeOK mlc) ∧ (∀ (f44 : Nat → Int32) (u45 : Int32), (LwF (fun t => bt (sLIP msa mlc mli mna x40.toNatClampNeg) t = true) x40.toNatClampNeg 26 (fun t => bt (sLIP msa mlc mli mna x40.toNatClampNeg) t = true) f41 u42 f44 u45) → (I43 (x40 + 1) f44 u45 ∧ mI43 (x40 + 1) f44 u45 < mI43 x40 f41 u42)))))))))))))) ∧ (J36 → ((¬ u34 = 0 → post 0 mki msz mle mel mme mal mic mil mio mab mae msa mlc mli mna mva mma mch f19 f33 mwr msh mth mnv mns mfa u34) ∧ (u34 = 0 → post 1 mki msz mle mel mme mal mic mil mio mab mae msa mlc mli mna mva mma mch f19 f33 mwr msh mth mnv mns mfa u34))))))) ∧ (¬ u20 = 0 → (∃ (I52 : Int32 → (Nat → Int32) → Int32 → Prop) (mI52 : Int32 → (Nat → Int32) → Int32 → Nat), I52 0 f19 0 ∧ (∀ (x49 : Int32) (f50 : Nat → Int32) (u51 : Int32), I52 x49 f50 u51 → ((mns ≤ x49 → (I21 x49 f50 u51 ∧ mI21 x49 f50 u51 < mI21 x18 f19 u20)) ∧ (¬ mns ≤ x49 → (vp_in x49 24 ∧ (((f50 x49.toNatClampNeg) = 0 → (I52 (x49 + 1) f50 u51 ∧ mI52 (x49 + 1) f50 u51 < mI52 x49 f50 u51)) ∧ (¬ (f50 x49.toNatClampNeg) = 0 → ((∃ s n : Nat, s < 24 ∧ n ≤ 24 ∧ x49 = nI s ∧ LdOK msa mlc mli mna n ∧ LeOK mlc) ∧ (∀ (f53 : Nat → Int32) (u54 : Int32), (MkI (fun t => bt (sLIP msa mlc mli mna x49.toNatClampNeg ||| sLEW msa mlc mli mna x49.toNatClampNeg) t = true) (fun t => bt (sLIP msa mlc mli mna x49.toNatClampNeg ||| sLEW msa mlc mli mna x49.toNatClampNeg) t = true) f50 u51 f53 u54) → (I52 (x49 + 1) f53 u54 ∧ mI52 (x49 + 1) f53 u54 < mI52 x49 f50 u51))))))))))))))) ∧ (¬ 24 ≤ x4 → (∃ J55 : Int32 → Prop, ((¬ x4 = x → J55 0) ∧ (x4 = x → J55 1)) ∧ (∀ (x56 : Int32), J55 x56 → (vp_in x4 24 ∧ (vp_in x4 24 ∧ (I7 (x4 + 1) (upd f5 x4.toNatClampNeg (vp_nar .boolean x56)) (upd f6 x4.toNatClampNeg 0) ∧ mI7 (x4 + 1) (upd f5 x4.toNatClampNeg (vp_nar .boolean x56)) (upd f6 x4.toNatClampNeg 0) < mI7 x4 f5 f6)))))))))
set_option maxHeartbeats 4000000 in
set_option maxRecDepth 100000 in
theorem g_Mo_order {p : Program} {l : Launch} {e : Env} {R : Room} {s : State} {m : MethodId} {args : Array Value} {below : List Frame} {meth : Method} {c : Code} {H : Heap} {locs : List Loc} {cells slots : Nat} {Q : State → Prop} {ls : Array Slot} {A : Nat → Prop} (S : CallFix p m c b_Mo_order 4 s args W0 R_Mo) (hRf : 2 ≤ R.frames) (hRl : 46 ≤ R.locals) (hRc : cells ≤ R.cells ∧ slots ≤ R.slots) (D : va_G) (b : Nat → Nat) (cI cJ cZ : ClassId) (mki : Nat → Int32) (msz : Nat → Int64) (mle : Nat → Int32) (mel : Nat → Int32) (mme : Nat → Int32) (mal : Nat → Int32) (mic : Nat → Int32) (mil : Nat → Int32) (mio : Nat → Int32) (mab : Nat → Int32) (mae : Nat → Int32) (msa : Nat → Int32) (mlc : Nat → Int32) (mli : Nat → Int32) (mna : Nat → Int32) (mva : Nat → Int32) (mma : Nat → Int32) (mch : Nat → Int32) (mre : Nat → Int32) (mlv : Nat → Int32) (mwr : Nat → Int64) (msh : Nat → Int32) (mth : Int32) (mnv : Int32) (mns : Int32) (mfa : Int32) (mmo : Int32) (x : Int32) (hK : va_K D vwCl (tyA cI cJ cZ) s) (hP : va_P D vwCl (wM b cI cJ cZ mki msz mle mel mme mal mic mil mio mab mae msa mlc mli mna mva mma mch mre mlv mwr msh mth mnv mns mfa mmo) H) (hD : va_D A (wM b cI cJ cZ mki msz mle mel mme mal mic mil mio mab mae msa mlc mli mna mva mma mch mre mlv mwr msh mth mnv mns mfa mmo)) (hA : ∀ q, s.heap.size ≤ q → A q) (hS : va_S A s.heap H locs) (hl : lv_has ls 4 [(0, .ref (b 0)), (1, .int x)]) {post : Int32 → (Nat → Int32) → (Nat → Int64) → (Nat → Int32) → (Nat → Int32) → (Nat → Int32) → (Nat → Int32) → (Nat → Int32) → (Nat → Int32) → (Nat → Int32) → (Nat → Int32) → (Nat → Int32) → (Nat → Int32) → (Nat → Int32) → (Nat → Int32) → (Nat → Int32) → (Nat → Int32) → (Nat → Int32) → (Nat → Int32) → (Nat → Int32) → (Nat → Int32) → (Nat → Int64) → (Nat → Int32) → Int32 → Int32 → Int32 → Int32 → Int32 → Prop} (vc : V_Mo_order mki msz mle mel mme mal mic mil mio mab mae msa mlc mli mna mva mma mch mre mlv mwr msh mth mnv mns mfa mmo x post)
    (hret : ∀ (v : Int32) (mki : Nat → Int32) (msz : Nat → Int64) (mle : Nat → Int32) (mel : Nat → Int32) (mme : Nat → Int32) (mal : Nat → Int32) (mic : Nat → Int32) (mil : Nat → Int32) (mio : Nat → Int32) (mab : Nat → Int32) (mae : Nat → Int32) (msa : Nat → Int32) (mlc : Nat → Int32) (mli : Nat → Int32) (mna : Nat → Int32) (mva : Nat → Int32) (mma : Nat → Int32) (mch : Nat → Int32) (mre : Nat → Int32) (mlv : Nat → Int32) (mwr : Nat → Int64) (msh : Nat → Int32) (mth : Int32) (mnv : Int32) (mns : Int32) (mfa : Int32) (mmo : Int32) (ls : Array Slot) (pc : Nat) (H : Heap) (locs : List Loc), decode b_Mo_order pc = .ok (.ireturn, 1) → post v mki msz mle mel mme mal mic mil mio mab mae msa mlc mli mna mva mma mch mre mlv mwr msh mth mnv mns mfa mmo → va_P D vwCl (wM b cI cJ cZ mki msz mle mel mme mal mic mil mio mab mae msa mlc mli mna mva mma mch mre mlv mwr msh mth mnv mns mfa mmo) H → va_D A (wM b cI cJ cZ mki msz mle mel mme mal mic mil mio mab mae msa mlc mli mna mva mma mch mre mlv mwr msh mth mnv mns mfa mmo) → va_S A s.heap H locs → W p l e R s m args below meth c H locs cells slots Q (F0 m pc ls [.int v])) : W p l e R s m args below meth c H locs cells slots Q (F0 m 0 ls []) := by
  have hx := S.1
  have hb := S.2.1
  have hown := S.2.2.2.1
  have hts := S.2.2.2.2
  unfold V_Mo_order at vc
  refine lv_iconst (v := 0) hx hb d_Mo_order_0 (by decide) ?_
  refine lv_istore_n hx hb d_Mo_order_1 rfl hl (by decide) (lv' := [(2, .int 0), (0, .ref (b 0)), (1, .int x)]) rfl (fun ls hl => ?_)
  obtain ⟨I7, mI7, vc0, vcs⟩ := vc
  have lI7 : ∀ n : Nat, ∀ (x4 : Int32) (f5 : Nat → Int32) (f6 : Nat → Int32) (ls : Array Slot) (H : Heap) (locs : List Loc), I7 x4 f5 f6 → mI7 x4 f5 f6 < n → lv_has ls 4 [(0, .ref (b 0)), (1, .int x), (2, .int x4)] → va_P D vwCl (wM b cI cJ cZ mki msz mle mel mme mal mic mil mio mab mae msa mlc mli mna mva mma mch f5 f6 mwr msh mth mnv mns mfa mmo) H → va_D A (wM b cI cJ cZ mki msz mle mel mme mal mic mil mio mab mae msa mlc mli mna mva mma mch f5 f6 mwr msh mth mnv mns mfa mmo) → va_S A s.heap H locs → W p l e R s m args below meth c H locs cells slots Q (F0 m 2 ls []) := by
    intro n
    induction n with
    | zero => intro x4 f5 f6 ls H locs _ h; exact absurd h (Nat.not_lt_zero _)
    | succ n ihI7 =>
      intro x4 f5 f6 ls H locs vc hmI7 hl hP hD hS
      have vc := vcs x4 f5 f6 vc
      refine lv_iload_n hx hb d_Mo_order_2 rfl (lv_at hl 2 rfl) ?_
      refine lv_bipush (v := 24) hx hb d_Mo_order_3 (by decide) ?_
      refine lv_icmp_ge (tgt := 37) hx hb d_Mo_order_5 (by decide) (fun h => ?_) (fun h => ?_)
      · have vc := vc.1 h
        refine lv_aload_n hx hb d_Mo_order_37 rfl (lv_at hl 0 rfl) ?_
        refine lv_iconst (v := 1) hx hb d_Mo_order_38 (by decide) ?_
        refine va_put (D := D) (ci := 6) (v := .int 1) (ty := .boolean) (C := R_Mo) (T := F_Mo) (N := 27) hx hb hts in_Mo t_Mo t_Mo_ok n_Mo hown hK hP hD hS 0 rfl rfl 26 (by decide) (hts _ fl_Mo_137) (fun _ h => h) rfl (by decide +kernel) (by decide) (by decide) (Nat.le_of_ble_eq_true rfl) d_Mo_order_39 (fun H locs hP hD hS => ?_)
        have hP : va_P D vwCl (wM b cI cJ cZ mki msz mle mel mme mal mic mil mio mab mae msa mlc mli mna mva mma mch f5 f6 mwr msh mth mnv mns mfa 1) H := hP
        have hD : va_D A (wM b cI cJ cZ mki msz mle mel mme mal mic mil mio mab mae msa mlc mli mna mva mma mch f5 f6 mwr msh mth mnv mns mfa 1) := hD
        obtain ⟨I21, mI21, vc0, vcs⟩ := vc
        have lI21 : ∀ n : Nat, ∀ (x18 : Int32) (f19 : Nat → Int32) (u20 : Int32) (ls : Array Slot) (H : Heap) (locs : List Loc), I21 x18 f19 u20 → mI21 x18 f19 u20 < n → lv_has ls 4 [(0, .ref (b 0)), (1, .int x), (2, .int x18)] → va_P D vwCl (wM b cI cJ cZ mki msz mle mel mme mal mic mil mio mab mae msa mlc mli mna mva mma mch f19 f6 mwr msh mth mnv mns mfa u20) H → va_D A (wM b cI cJ cZ mki msz mle mel mme mal mic mil mio mab mae msa mlc mli mna mva mma mch f19 f6 mwr msh mth mnv mns mfa u20) → va_S A s.heap H locs → W p l e R s m args below meth c H locs cells slots Q (F0 m 42 ls []) := by
          intro n
          induction n with
          | zero => intro x18 f19 u20 ls H locs _ h; exact absurd h (Nat.not_lt_zero _)
          | succ n ihI21 =>
            intro x18 f19 u20 ls H locs vc hmI21 hl hP hD hS
            have vc := vcs x18 f19 u20 vc
            refine lv_aload_n hx hb d_Mo_order_42 rfl (lv_at hl 0 rfl) ?_
            refine va_get (D := D) (ci := 6) (v := .int u20) (C := R_Mo) (T := F_Mo) (N := 27) hx hb hts in_Mo hown hK hP 0 rfl rfl 26 (by decide) (hts _ fl_Mo_137) (fun _ h => h) rfl d_Mo_order_43 ?_
            refine lv_if_eq (tgt := 87) hx hb d_Mo_order_46 (by decide) (fun h => ?_) (fun h => ?_)
            · have vc := vc.1 h
              refine lv_aload_n hx hb d_Mo_order_87 rfl (lv_at hl 0 rfl) ?_
              refine lv_iconst (v := 1) hx hb d_Mo_order_88 (by decide) ?_
              refine va_put (D := D) (ci := 6) (v := .int 1) (ty := .boolean) (C := R_Mo) (T := F_Mo) (N := 27) hx hb hts in_Mo t_Mo t_Mo_ok n_Mo hown hK hP hD hS 0 rfl rfl 26 (by decide) (hts _ fl_Mo_137) (fun _ h => h) rfl (by decide +kernel) (by decide) (by decide) (Nat.le_of_ble_eq_true rfl) d_Mo_order_89 (fun H locs hP hD hS => ?_)
              have hP : va_P D vwCl (wM b cI cJ cZ mki msz mle mel mme mal mic mil mio mab mae msa mlc mli mna mva mma mch f19 f6 mwr msh mth mnv mns mfa 1) H := hP
              have hD : va_D A (wM b cI cJ cZ mki msz mle mel mme mal mic mil mio mab mae msa mlc mli mna mva mma mch f19 f6 mwr msh mth mnv mns mfa 1) := hD
              refine lv_iconst (v := 0) hx hb d_Mo_order_92 (by decide) ?_
              refine lv_istore_n hx hb d_Mo_order_93 rfl hl (by decide) (lv' := [(2, .int 0), (0, .ref (b 0)), (1, .int x)]) rfl (fun ls hl => ?_)
              obtain ⟨I35, mI35, vc0, vcs⟩ := vc
              have lI35 : ∀ n : Nat, ∀ (x32 : Int32) (f33 : Nat → Int32) (u34 : Int32) (ls : Array Slot) (H : Heap) (locs : List Loc), I35 x32 f33 u34 → mI35 x32 f33 u34 < n → lv_has ls 4 [(0, .ref (b 0)), (1, .int x), (2, .int x32)] → va_P D vwCl (wM b cI cJ cZ mki msz mle mel mme mal mic mil mio mab mae msa mlc mli mna mva mma mch f19 f33 mwr msh mth mnv mns mfa u34) H → va_D A (wM b cI cJ cZ mki msz mle mel mme mal mic mil mio mab mae msa mlc mli mna mva mma mch f19 f33 mwr msh mth mnv mns mfa u34) → va_S A s.heap H locs → W p l e R s m args below meth c H locs cells slots Q (F0 m 94 ls []) := by
                intro n
                induction n with
                | zero => intro x32 f33 u34 ls H locs _ h; exact absurd h (Nat.not_lt_zero _)
                | succ n ihI35 =>
                  intro x32 f33 u34 ls H locs vc hmI35 hl hP hD hS
                  have vc := vcs x32 f33 u34 vc
                  refine lv_iload_n hx hb d_Mo_order_94 rfl (lv_at hl 2 rfl) ?_
                  refine lv_bipush (v := 26) hx hb d_Mo_order_95 (by decide) ?_
                  obtain ⟨J36, vc, vc2⟩ := vc
                  have jJ36 : ∀ (ls : Array Slot) (H : Heap) (locs : List Loc), J36 → lv_has ls 4 [(0, .ref (b 0)), (1, .int x), (2, .int x32)] → va_P D vwCl (wM b cI cJ cZ mki msz mle mel mme mal mic mil mio mab mae msa mlc mli mna mva mma mch f19 f33 mwr msh mth mnv mns mfa u34) H → va_D A (wM b cI cJ cZ mki msz mle mel mme mal mic mil mio mab mae msa mlc mli mna mva mma mch f19 f33 mwr msh mth mnv mns mfa u34) → va_S A s.heap H locs → W p l e R s m args below meth c H locs cells slots Q (F0 m 148 ls []) := by
                    intro  ls H locs vc hl hP hD hS
                    have vc := vc2  vc
                    refine lv_aload_n hx hb d_Mo_order_148 rfl (lv_at hl 0 rfl) ?_
                    refine va_get (D := D) (ci := 6) (v := .int u34) (C := R_Mo) (T := F_Mo) (N := 27) hx hb hts in_Mo hown hK hP 0 rfl rfl 26 (by decide) (hts _ fl_Mo_137) (fun _ h => h) rfl d_Mo_order_149 ?_
                    refine lv_if_ne (tgt := 159) hx hb d_Mo_order_152 (by decide) (fun h => ?_) (fun h => ?_)
                    · have vc := vc.1 h
                      refine lv_iconst (v := 0) hx hb d_Mo_order_159 (by decide) ?_
                      exact hret _ _ _ _ _ _ _ _ _ _ _ _ _ _ _ _ _ _ _ _ _ _ _ _ _ _ _ _ ls _ H locs d_Mo_order_160 vc hP hD hS
                    · have vc := vc.2 h
                      refine lv_iconst (v := 1) hx hb d_Mo_order_155 (by decide) ?_
                      refine lv_goto (tgt := 160) hx hb d_Mo_order_156 (by decide) ?_
                      exact hret _ _ _ _ _ _ _ _ _ _ _ _ _ _ _ _ _ _ _ _ _ _ _ _ _ _ _ _ ls _ H locs d_Mo_order_160 vc hP hD hS
                  clear vc2
                  refine lv_icmp_ge (tgt := 148) hx hb d_Mo_order_97 (by decide) (fun h => ?_) (fun h => ?_)
                  · have vc := vc.1 h
                    exact jJ36 ls H locs vc (lv_sub hl [0, 1, 2] rfl) hP hD hS
                  · have vc := vc.2 h
                    refine lv_aload_n hx hb d_Mo_order_100 rfl (lv_at hl 0 rfl) ?_
                    refine va_get (D := D) (ci := 6) (v := .int u34) (C := R_Mo) (T := F_Mo) (N := 27) hx hb hts in_Mo hown hK hP 0 rfl rfl 26 (by decide) (hts _ fl_Mo_137) (fun _ h => h) rfl d_Mo_order_101 ?_
                    refine lv_if_eq (tgt := 148) hx hb d_Mo_order_104 (by decide) (fun h => ?_) (fun h => ?_)
                    · have vc := vc.1 h
                      exact jJ36 ls H locs vc (lv_sub hl [0, 1, 2] rfl) hP hD hS
                    · have vc := vc.2 h
                      refine lv_aload_n hx hb d_Mo_order_107 rfl (lv_at hl 0 rfl) ?_
                      refine lv_iconst (v := 0) hx hb d_Mo_order_108 (by decide) ?_
                      refine va_put (D := D) (ci := 6) (v := .int 0) (ty := .boolean) (C := R_Mo) (T := F_Mo) (N := 27) hx hb hts in_Mo t_Mo t_Mo_ok n_Mo hown hK hP hD hS 0 rfl rfl 26 (by decide) (hts _ fl_Mo_137) (fun _ h => h) rfl (by decide +kernel) (by decide) (by decide) (Nat.le_of_ble_eq_true rfl) d_Mo_order_109 (fun H locs hP hD hS => ?_)
                      have hP : va_P D vwCl (wM b cI cJ cZ mki msz mle mel mme mal mic mil mio mab mae msa mlc mli mna mva mma mch f19 f33 mwr msh mth mnv mns mfa 0) H := hP
                      have hD : va_D A (wM b cI cJ cZ mki msz mle mel mme mal mic mil mio mab mae msa mlc mli mna mva mma mch f19 f33 mwr msh mth mnv mns mfa 0) := hD
                      refine lv_iconst (v := 0) hx hb d_Mo_order_112 (by decide) ?_
                      refine lv_istore_n hx hb d_Mo_order_113 rfl hl (by decide) (lv' := [(3, .int 0), (0, .ref (b 0)), (1, .int x), (2, .int x32)]) rfl (fun ls hl => ?_)
                      obtain ⟨I43, mI43, vc0, vcs⟩ := vc
                      have lI43 : ∀ n : Nat, ∀ (x40 : Int32) (f41 : Nat → Int32) (u42 : Int32) (ls : Array Slot) (H : Heap) (locs : List Loc), I43 x40 f41 u42 → mI43 x40 f41 u42 < n → lv_has ls 4 [(0, .ref (b 0)), (1, .int x), (2, .int x32), (3, .int x40)] → va_P D vwCl (wM b cI cJ cZ mki msz mle mel mme mal mic mil mio mab mae msa mlc mli mna mva mma mch f19 f41 mwr msh mth mnv mns mfa u42) H → va_D A (wM b cI cJ cZ mki msz mle mel mme mal mic mil mio mab mae msa mlc mli mna mva mma mch f19 f41 mwr msh mth mnv mns mfa u42) → va_S A s.heap H locs → W p l e R s m args below meth c H locs cells slots Q (F0 m 114 ls []) := by
                        intro n
                        induction n with
                        | zero => intro x40 f41 u42 ls H locs _ h; exact absurd h (Nat.not_lt_zero _)
                        | succ n ihI43 =>
                          intro x40 f41 u42 ls H locs vc hmI43 hl hP hD hS
                          have vc := vcs x40 f41 u42 vc
                          refine lv_iload_n hx hb d_Mo_order_114 rfl (lv_at hl 3 rfl) ?_
                          refine lv_aload_n hx hb d_Mo_order_115 rfl (lv_at hl 0 rfl) ?_
                          refine va_get (D := D) (ci := 6) (v := .int mns) (C := R_Mo) (T := F_Mo) (N := 27) hx hb hts in_Mo hown hK hP 0 rfl rfl 13 (by decide) (hts _ fl_Mo_128) (fun _ h => h) rfl d_Mo_order_116 ?_
                          refine lv_icmp_ge (tgt := 142) hx hb d_Mo_order_119 (by decide) (fun h => ?_) (fun h => ?_)
                          · have vc := vc.1 h
                            refine lv_iinc (k := 2) (v := x32 + 1) hx hb d_Mo_order_142 hl rfl rfl (by decide) (lv' := [(2, .int (x32 + 1)), (0, .ref (b 0)), (1, .int x), (3, .int x40)]) rfl (fun ls hl => ?_)
                            refine lv_goto (tgt := 94) hx hb d_Mo_order_145 (by decide) ?_
                            exact ihI35 (x32 + 1) f41 u42 ls H locs vc.1 (Nat.lt_of_lt_of_le vc.2 (Nat.le_of_lt_succ hmI35)) (lv_sub hl [1, 2, 0] rfl) hP hD hS
                          · have vc := vc.2 h
                            refine lv_aload_n hx hb d_Mo_order_122 rfl (lv_at hl 0 rfl) ?_
                            refine va_get (D := D) (ci := 6) (v := .ref (b 19)) (C := R_Mo) (T := F_Mo) (N := 27) hx hb hts in_Mo hown hK hP 0 rfl rfl 21 (by decide) (hts _ fl_Mo_66) (fun _ h => h) rfl d_Mo_order_123 ?_
                            refine lv_iload_n hx hb d_Mo_order_126 rfl (lv_at hl 3 rfl) ?_
                            obtain ⟨vcb, vc⟩ := vc
                            refine va_zald hx hb hK hP 19 2 rfl rfl vcb d_Mo_order_127 ?_
                            refine lv_if_eq (tgt := 136) hx hb d_Mo_order_128 (by decide) (fun h => ?_) (fun h => ?_)
                            · have vc := vc.1 h
                              refine lv_iinc (k := 3) (v := x40 + 1) hx hb d_Mo_order_136 hl rfl rfl (by decide) (lv' := [(3, .int (x40 + 1)), (0, .ref (b 0)), (1, .int x), (2, .int x32)]) rfl (fun ls hl => ?_)
                              refine lv_goto (tgt := 114) hx hb d_Mo_order_139 (by decide) ?_
                              exact ihI43 (x40 + 1) f41 u42 ls H locs vc.1 (Nat.lt_of_lt_of_le vc.2 (Nat.le_of_lt_succ hmI43)) (lv_sub hl [1, 2, 3, 0] rfl) hP hD hS
                            · have vc := vc.2 h
                              refine lv_aload_n hx hb d_Mo_order_131 rfl (lv_at hl 0 rfl) ?_
                              refine lv_iload_n hx hb d_Mo_order_132 rfl (lv_at hl 3 rfl) ?_
                              obtain ⟨hpre, vc⟩ := vc
                              refine wc_V (As := [.int x40]) (rest := []) (wr := ([] : va_W)) S (c_Mo_lowerFrom l D b cI cJ cZ mki msz mle mel mme mal mic mil mio mab mae msa mlc mli mna mva mma mch f19 f41 mwr msh mth mnv mns mfa u42 x40 hpre) k_Mo_lowerFrom i_Mo_lowerFrom e_Mo_lowerFrom o_Mo ml_Mo_164 hd_Mo_lowerFrom (Nat.le_trans (by decide) hRf) (Nat.le_trans (by decide) hRl) hRc (va_recv hK hP (q0 := 0) (ci := 6) rfl rfl) hK hP hD hS hA [0, 1, 2, 3, 4, 5, 6, 7, 8, 9, 10, 11, 12, 13, 14, 15, 16, 17, 18, 19, 20, 21, 22] [] rfl rfl rfl (by decide) (by decide) (by decide) hl.1 rfl (Nat.le_of_ble_eq_true rfl) d_Mo_order_133 (fun u H locs hu hP hD hS => ?_)
                              obtain ⟨f44, u45⟩ := u
                              have vc := vc f44 u45 hu
                              clear hu
                              have hP : va_P D vwCl (wM b cI cJ cZ mki msz mle mel mme mal mic mil mio mab mae msa mlc mli mna mva mma mch f19 f44 mwr msh mth mnv mns mfa u45) H := hP
                              have hD : va_D A (wM b cI cJ cZ mki msz mle mel mme mal mic mil mio mab mae msa mlc mli mna mva mma mch f19 f44 mwr msh mth mnv mns mfa u45) := hD
                              refine lv_iinc (k := 3) (v := x40 + 1) hx hb d_Mo_order_136 hl rfl rfl (by decide) (lv' := [(3, .int (x40 + 1)), (0, .ref (b 0)), (1, .int x), (2, .int x32)]) rfl (fun ls hl => ?_)
                              refine lv_goto (tgt := 114) hx hb d_Mo_order_139 (by decide) ?_
                              exact ihI43 (x40 + 1) f44 u45 ls H locs vc.1 (Nat.lt_of_lt_of_le vc.2 (Nat.le_of_lt_succ hmI43)) (lv_sub hl [1, 2, 3, 0] rfl) hP hD hS
                      exact lI43 _ 0 f33 0 ls H locs vc0 (Nat.lt_succ_self _) (lv_sub hl [1, 2, 3, 0] rfl) hP hD hS
              exact lI35 _ 0 f6 1 ls H locs vc0 (Nat.lt_succ_self _) (lv_sub hl [1, 2, 0] rfl) hP hD hS
            · have vc := vc.2 h
              refine lv_aload_n hx hb d_Mo_order_49 rfl (lv_at hl 0 rfl) ?_
              refine lv_iconst (v := 0) hx hb d_Mo_order_50 (by decide) ?_
              refine va_put (D := D) (ci := 6) (v := .int 0) (ty := .boolean) (C := R_Mo) (T := F_Mo) (N := 27) hx hb hts in_Mo t_Mo t_Mo_ok n_Mo hown hK hP hD hS 0 rfl rfl 26 (by decide) (hts _ fl_Mo_137) (fun _ h => h) rfl (by decide +kernel) (by decide) (by decide) (Nat.le_of_ble_eq_true rfl) d_Mo_order_51 (fun H locs hP hD hS => ?_)
              have hP : va_P D vwCl (wM b cI cJ cZ mki msz mle mel mme mal mic mil mio mab mae msa mlc mli mna mva mma mch f19 f6 mwr msh mth mnv mns mfa 0) H := hP
              have hD : va_D A (wM b cI cJ cZ mki msz mle mel mme mal mic mil mio mab mae msa mlc mli mna mva mma mch f19 f6 mwr msh mth mnv mns mfa 0) := hD
              refine lv_iconst (v := 0) hx hb d_Mo_order_54 (by decide) ?_
              refine lv_istore_n hx hb d_Mo_order_55 rfl hl (by decide) (lv' := [(2, .int 0), (0, .ref (b 0)), (1, .int x)]) rfl (fun ls hl => ?_)
              obtain ⟨I52, mI52, vc0, vcs⟩ := vc
              have lI52 : ∀ n : Nat, ∀ (x49 : Int32) (f50 : Nat → Int32) (u51 : Int32) (ls : Array Slot) (H : Heap) (locs : List Loc), I52 x49 f50 u51 → mI52 x49 f50 u51 < n → lv_has ls 4 [(0, .ref (b 0)), (1, .int x), (2, .int x49)] → va_P D vwCl (wM b cI cJ cZ mki msz mle mel mme mal mic mil mio mab mae msa mlc mli mna mva mma mch f50 f6 mwr msh mth mnv mns mfa u51) H → va_D A (wM b cI cJ cZ mki msz mle mel mme mal mic mil mio mab mae msa mlc mli mna mva mma mch f50 f6 mwr msh mth mnv mns mfa u51) → va_S A s.heap H locs → W p l e R s m args below meth c H locs cells slots Q (F0 m 56 ls []) := by
                intro n
                induction n with
                | zero => intro x49 f50 u51 ls H locs _ h; exact absurd h (Nat.not_lt_zero _)
                | succ n ihI52 =>
                  intro x49 f50 u51 ls H locs vc hmI52 hl hP hD hS
                  have vc := vcs x49 f50 u51 vc
                  refine lv_iload_n hx hb d_Mo_order_56 rfl (lv_at hl 2 rfl) ?_
                  refine lv_aload_n hx hb d_Mo_order_57 rfl (lv_at hl 0 rfl) ?_
                  refine va_get (D := D) (ci := 6) (v := .int mns) (C := R_Mo) (T := F_Mo) (N := 27) hx hb hts in_Mo hown hK hP 0 rfl rfl 13 (by decide) (hts _ fl_Mo_128) (fun _ h => h) rfl d_Mo_order_58 ?_
                  refine lv_icmp_ge (tgt := 84) hx hb d_Mo_order_61 (by decide) (fun h => ?_) (fun h => ?_)
                  · have vc := vc.1 h
                    refine lv_goto (tgt := 42) hx hb d_Mo_order_84 (by decide) ?_
                    exact ihI21 x49 f50 u51 ls H locs vc.1 (Nat.lt_of_lt_of_le vc.2 (Nat.le_of_lt_succ hmI21)) (lv_sub hl [0, 1, 2] rfl) hP hD hS
                  · have vc := vc.2 h
                    refine lv_aload_n hx hb d_Mo_order_64 rfl (lv_at hl 0 rfl) ?_
                    refine va_get (D := D) (ci := 6) (v := .ref (b 19)) (C := R_Mo) (T := F_Mo) (N := 27) hx hb hts in_Mo hown hK hP 0 rfl rfl 21 (by decide) (hts _ fl_Mo_66) (fun _ h => h) rfl d_Mo_order_65 ?_
                    refine lv_iload_n hx hb d_Mo_order_68 rfl (lv_at hl 2 rfl) ?_
                    obtain ⟨vcb, vc⟩ := vc
                    refine va_zald hx hb hK hP 19 2 rfl rfl vcb d_Mo_order_69 ?_
                    refine lv_if_eq (tgt := 78) hx hb d_Mo_order_70 (by decide) (fun h => ?_) (fun h => ?_)
                    · have vc := vc.1 h
                      refine lv_iinc (k := 2) (v := x49 + 1) hx hb d_Mo_order_78 hl rfl rfl (by decide) (lv' := [(2, .int (x49 + 1)), (0, .ref (b 0)), (1, .int x)]) rfl (fun ls hl => ?_)
                      refine lv_goto (tgt := 56) hx hb d_Mo_order_81 (by decide) ?_
                      exact ihI52 (x49 + 1) f50 u51 ls H locs vc.1 (Nat.lt_of_lt_of_le vc.2 (Nat.le_of_lt_succ hmI52)) (lv_sub hl [1, 2, 0] rfl) hP hD hS
                    · have vc := vc.2 h
                      refine lv_aload_n hx hb d_Mo_order_73 rfl (lv_at hl 0 rfl) ?_
                      refine lv_iload_n hx hb d_Mo_order_74 rfl (lv_at hl 2 rfl) ?_
                      obtain ⟨hpre, vc⟩ := vc
                      refine wc_V (As := [.int x49]) (rest := []) (wr := ([] : va_W)) S (c_Mo_reachFrom l D b cI cJ cZ mki msz mle mel mme mal mic mil mio mab mae msa mlc mli mna mva mma mch f50 f6 mwr msh mth mnv mns mfa u51 x49 hpre) k_Mo_reachFrom i_Mo_reachFrom e_Mo_reachFrom o_Mo ml_Mo_161 hd_Mo_reachFrom (Nat.le_trans (by decide) hRf) (Nat.le_trans (by decide) hRl) hRc (va_recv hK hP (q0 := 0) (ci := 6) rfl rfl) hK hP hD hS hA [0, 1, 2, 3, 4, 5, 6, 7, 8, 9, 10, 11, 12, 13, 14, 15, 16, 17, 18, 19, 20, 21, 22] [] rfl rfl rfl (by decide) (by decide) (by decide) hl.1 rfl (Nat.le_of_ble_eq_true rfl) d_Mo_order_75 (fun u H locs hu hP hD hS => ?_)
                      obtain ⟨f53, u54⟩ := u
                      have vc := vc f53 u54 hu
                      clear hu
                      have hP : va_P D vwCl (wM b cI cJ cZ mki msz mle mel mme mal mic mil mio mab mae msa mlc mli mna mva mma mch f53 f6 mwr msh mth mnv mns mfa u54) H := hP
                      have hD : va_D A (wM b cI cJ cZ mki msz mle mel mme mal mic mil mio mab mae msa mlc mli mna mva mma mch f53 f6 mwr msh mth mnv mns mfa u54) := hD
                      refine lv_iinc (k := 2) (v := x49 + 1) hx hb d_Mo_order_78 hl rfl rfl (by decide) (lv' := [(2, .int (x49 + 1)), (0, .ref (b 0)), (1, .int x)]) rfl (fun ls hl => ?_)
                      refine lv_goto (tgt := 56) hx hb d_Mo_order_81 (by decide) ?_
                      exact ihI52 (x49 + 1) f53 u54 ls H locs vc.1 (Nat.lt_of_lt_of_le vc.2 (Nat.le_of_lt_succ hmI52)) (lv_sub hl [1, 2, 0] rfl) hP hD hS
              exact lI52 _ 0 f19 0 ls H locs vc0 (Nat.lt_succ_self _) (lv_sub hl [1, 2, 0] rfl) hP hD hS
        exact lI21 _ x4 f5 1 ls H locs vc0 (Nat.lt_succ_self _) (lv_sub hl [0, 1, 2] rfl) hP hD hS
      · have vc := vc.2 h
        refine lv_aload_n hx hb d_Mo_order_8 rfl (lv_at hl 0 rfl) ?_
        refine va_get (D := D) (ci := 6) (v := .ref (b 19)) (C := R_Mo) (T := F_Mo) (N := 27) hx hb hts in_Mo hown hK hP 0 rfl rfl 21 (by decide) (hts _ fl_Mo_66) (fun _ h => h) rfl d_Mo_order_9 ?_
        refine lv_iload_n hx hb d_Mo_order_12 rfl (lv_at hl 2 rfl) ?_
        refine lv_iload_n hx hb d_Mo_order_13 rfl (lv_at hl 2 rfl) ?_
        refine lv_iload_n hx hb d_Mo_order_14 rfl (lv_at hl 1 rfl) ?_
        obtain ⟨J55, vc, vc2⟩ := vc
        have jJ55 : ∀ (x56 : Int32) (ls : Array Slot) (H : Heap) (locs : List Loc), J55 x56 → lv_has ls 4 [(0, .ref (b 0)), (1, .int x), (2, .int x4)] → va_P D vwCl (wM b cI cJ cZ mki msz mle mel mme mal mic mil mio mab mae msa mlc mli mna mva mma mch f5 f6 mwr msh mth mnv mns mfa mmo) H → va_D A (wM b cI cJ cZ mki msz mle mel mme mal mic mil mio mab mae msa mlc mli mna mva mma mch f5 f6 mwr msh mth mnv mns mfa mmo) → va_S A s.heap H locs → W p l e R s m args below meth c H locs cells slots Q (F0 m 23 ls [.int x56, .int x4, .ref (b 19)]) := by
          intro x56 ls H locs vc hl hP hD hS
          have vc := vc2 x56 vc
          obtain ⟨vcb, vc⟩ := vc
          refine va_zast hx hb hK hP hD hS 19 2 rfl rfl vcb d_Mo_order_23 (fun H locs hP hD hS => ?_)
          have hP : va_P D vwCl (wM b cI cJ cZ mki msz mle mel mme mal mic mil mio mab mae msa mlc mli mna mva mma mch (upd f5 x4.toNatClampNeg (vp_nar .boolean x56)) f6 mwr msh mth mnv mns mfa mmo) H := hP
          have hD : va_D A (wM b cI cJ cZ mki msz mle mel mme mal mic mil mio mab mae msa mlc mli mna mva mma mch (upd f5 x4.toNatClampNeg (vp_nar .boolean x56)) f6 mwr msh mth mnv mns mfa mmo) := hD
          refine lv_aload_n hx hb d_Mo_order_24 rfl (lv_at hl 0 rfl) ?_
          refine va_get (D := D) (ci := 6) (v := .ref (b 20)) (C := R_Mo) (T := F_Mo) (N := 27) hx hb hts in_Mo hown hK hP 0 rfl rfl 22 (by decide) (hts _ fl_Mo_69) (fun _ h => h) rfl d_Mo_order_25 ?_
          refine lv_iload_n hx hb d_Mo_order_28 rfl (lv_at hl 2 rfl) ?_
          refine lv_iconst (v := 0) hx hb d_Mo_order_29 (by decide) ?_
          obtain ⟨vcb, vc⟩ := vc
          refine va_iast hx hb hK hP hD hS 20 0 rfl rfl vcb d_Mo_order_30 (fun H locs hP hD hS => ?_)
          have hP : va_P D vwCl (wM b cI cJ cZ mki msz mle mel mme mal mic mil mio mab mae msa mlc mli mna mva mma mch (upd f5 x4.toNatClampNeg (vp_nar .boolean x56)) (upd f6 x4.toNatClampNeg 0) mwr msh mth mnv mns mfa mmo) H := hP
          have hD : va_D A (wM b cI cJ cZ mki msz mle mel mme mal mic mil mio mab mae msa mlc mli mna mva mma mch (upd f5 x4.toNatClampNeg (vp_nar .boolean x56)) (upd f6 x4.toNatClampNeg 0) mwr msh mth mnv mns mfa mmo) := hD
          refine lv_iinc (k := 2) (v := x4 + 1) hx hb d_Mo_order_31 hl rfl rfl (by decide) (lv' := [(2, .int (x4 + 1)), (0, .ref (b 0)), (1, .int x)]) rfl (fun ls hl => ?_)
          refine lv_goto (tgt := 2) hx hb d_Mo_order_34 (by decide) ?_
          exact ihI7 (x4 + 1) (upd f5 x4.toNatClampNeg (vp_nar .boolean x56)) (upd f6 x4.toNatClampNeg 0) ls H locs vc.1 (Nat.lt_of_lt_of_le vc.2 (Nat.le_of_lt_succ hmI7)) (lv_sub hl [1, 2, 0] rfl) hP hD hS
        clear vc2
        refine lv_icmp_ne (tgt := 22) hx hb d_Mo_order_15 (by decide) (fun h => ?_) (fun h => ?_)
        · have vc := vc.1 h
          refine lv_iconst (v := 0) hx hb d_Mo_order_22 (by decide) ?_
          exact jJ55 0 ls H locs vc (lv_sub hl [0, 1, 2] rfl) hP hD hS
        · have vc := vc.2 h
          refine lv_iconst (v := 1) hx hb d_Mo_order_18 (by decide) ?_
          refine lv_goto (tgt := 23) hx hb d_Mo_order_19 (by decide) ?_
          exact jJ55 1 ls H locs vc (lv_sub hl [0, 1, 2] rfl) hP hD hS
  exact lI7 _ 0 mre mlv ls H locs vc0 (Nat.lt_succ_self _) (lv_sub hl [1, 2, 0] rfl) hP hD hS
set_option maxHeartbeats 4000000 in
theorem v_Mo_order (mki : Nat → Int32) (msz : Nat → Int64) (mle : Nat → Int32) (mel : Nat → Int32) (mme : Nat → Int32) (mal : Nat → Int32) (mic : Nat → Int32) (mil : Nat → Int32) (mio : Nat → Int32) (mab : Nat → Int32) (mae : Nat → Int32) (msa : Nat → Int32) (mlc : Nat → Int32) (mli : Nat → Int32) (mna : Nat → Int32) (mva : Nat → Int32) (mma : Nat → Int32) (mch : Nat → Int32) (mre : Nat → Int32) (mlv : Nat → Int32) (mwr : Nat → Int64) (msh : Nat → Int32) (mth : Int32) (mnv : Int32) (mns : Int32) (mfa : Int32) (mmo : Int32) (x : Int32) (hpre : (∃ n : Nat, n ≤ 24 ∧ mns = nI n ∧ vp_in x n ∧ LdOK msa mlc mli mna n ∧ LeOK mlc)) : V_Mo_order mki msz mle mel mme mal mic mil mio mab mae msa mlc mli mna mva mma mch mre mlv mwr msh mth mnv mns mfa mmo x (fun v mki' msz' mle' mel' mme' mal' mic' mil' mio' mab' mae' msa' mlc' mli' mna' mva' mma' mch' mre' mlv' mwr' msh' mth' mnv' mns' mfa' mmo' => ∃ rr : Bool, v = bI rr ∧ (∀ n : Nat, mns = nI n → n ≤ 24 → (∀ t, t < 24 → (¬ mre' t = 0 ↔ t = x.toNatClampNeg ∨ Relation.TransGen (LdR n (fun s => sLIP msa mlc mli mna s ||| sLEW msa mlc mli mna s)) x.toNatClampNeg t)) ∧ (rr = true → (∀ t u, t < 24 → u < 24 → ¬ mre' t = 0 → t < n → bt (sLIP msa mlc mli mna t) u = true → lvl mlv' t < lvl mlv' u) ∧ ∀ t, t < 24 → ∃ c, c ≤ 24 ∧ mlv' t = nI c) ∧ (rr = false → ∃ i, i < n ∧ (i = x.toNatClampNeg ∨ Relation.TransGen (LdR n (fun s => sLIP msa mlc mli mna s ||| sLEW msa mlc mli mna s)) x.toNatClampNeg i) ∧ Relation.TransGen (LdR n (sLIP msa mlc mli mna)) i i)) ∧ mki' = mki ∧ msz' = msz ∧ mle' = mle ∧ mel' = mel ∧ mme' = mme ∧ mal' = mal ∧ mic' = mic ∧ mil' = mil ∧ mio' = mio ∧ mab' = mab ∧ mae' = mae ∧ msa' = msa ∧ mlc' = mlc ∧ mli' = mli ∧ mna' = mna ∧ mva' = mva ∧ mma' = mma ∧ mch' = mch ∧ mwr' = mwr ∧ msh' = msh ∧ mth' = mth ∧ mnv' = mnv ∧ mns' = mns ∧ mfa' = mfa) := by
  unfold V_Mo_order
  obtain ⟨n, hn, rfl, hx, hL, hle⟩ := hpre
  obtain ⟨q, hq, rfl, hcq⟩ := vp_nat hx (by omega)
  rw [hcq]
  generalize hAN : (fun s => sLIP msa mlc mli mna s ||| sLEW msa mlc mli mna s) = AN
  have ANlt : ∀ s t, s < 24 → bt (AN s) t = true → t < n := fun s t hs h => by rw [← hAN] at h; exact LAN_lt hn hL hs h
  have IPAN : ∀ s t, bt (sLIP msa mlc mli mna s) t = true → bt (AN s) t = true := fun s t h => by rw [← hAN]; exact LIP_LAN h
  refine ⟨fun x f g => ∃ k, k ≤ 24 ∧ x = nI k ∧ (∀ t, t < k → f t = bI (decide (t = q))) ∧ (∀ t, t < k → g t = 0), fun x _ _ => 24 - x.toInt.toNat, ⟨0, by decide, rfl, fun t ht => absurd ht (Nat.not_lt_zero _), fun t ht => absurd ht (Nat.not_lt_zero _)⟩, ?_⟩
  rintro x f g ⟨k, hk, rfl, hf, hg⟩
  refine ⟨fun h => ?_, fun h => ?_⟩
  rotate_left
  · have hk2 := fill_step (N := 24) h (by decide) hk
    rw [nI_clamp (n := k) (by omega), nI_eq (by omega) (by omega)]
    refine jb_f ?_
    rw [narb]
    have v1 : vp_in (nI k) 24 := vp_in_nI (by omega) (by decide)
    refine ⟨v1, v1, ⟨k + 1, hk2, nI_1 k, fun t ht => ?_, fun t ht => ?_⟩, fill_mu hk2 (by decide)⟩
    · by_cases e : t = k
      · subst e; rw [upd_at]
      · rw [upd_ne e]; exact hf t (by omega)
    · by_cases e : t = k
      · subst e; rw [upd_at]
      · rw [upd_ne e]; exact hg t (by omega)
  obtain rfl := fill_end (N := 24) h (by decide) hk
  clear h hk
  refine ⟨fun _ f m => (∀ t, t < 24 → ¬ f t = 0 → t = q ∨ Relation.TransGen (LdR n AN) q t) ∧ ¬ f q = 0 ∧ (m = 0 ∨ m = 1) ∧ (m = 0 → ∀ t, t < n → ¬ f t = 0 → ∀ u, u < 24 → bt (AN t) u = true → ¬ f u = 0), fun _ f m => 2 * cN (fun t => f t = 0) 24 + m.toNatClampNeg, ⟨fun t ht h => Or.inl ?_, ?_, Or.inr rfl, fun h => absurd h (by decide)⟩, ?_⟩
  · rw [hf t ht] at h
    exact of_decide_eq_true (bI_ne.mp h)
  · rw [hf q (by omega), decide_eq_true rfl]; decide
  clear hf f
  rintro x f m ⟨hR, hq0, hm, hcl⟩
  refine ⟨fun h => ?_, fun h => ?_⟩
  rotate_left
  · have hm1 : m = 1 := hm.elim (fun e => absurd e h) id
    subst hm1
    refine ⟨fun x f' m' => ∃ k, k ≤ n ∧ x = nI k ∧ MkI (fun t => t = q ∨ Relation.TransGen (LdR n AN) q t) (fun _ => False) f 0 f' m' ∧ (m' = 0 → ∀ t, t < k → ¬ f' t = 0 → ∀ u, u < 24 → bt (AN t) u = true → ¬ f' u = 0), fun x _ _ => n - x.toInt.toNat, ⟨0, Nat.zero_le _, rfl, ⟨fun t h => absurd rfl h, Or.inl ⟨rfl, rfl⟩, fun _ _ h => h.elim⟩, fun _ t ht => absurd ht (Nat.not_lt_zero _)⟩, ?_⟩
    rintro x f' m' ⟨k, hk, rfl, hI, hc⟩
    refine ⟨fun h2 => ?_, fun h2 => ?_⟩
    · obtain rfl := (fill_end (N := n) h2 (by omega) hk).symm
      obtain ⟨a1, a2, _⟩ := hI
      have keep : ∀ t, ¬ f t = 0 → f' t = f t := fun t ht => by
        by_cases e : f' t = f t
        · exact e
        · exact absurd (a1 t e).2.2.1 ht
      refine ⟨⟨fun t ht h3 => ?_, by rw [keep q hq0]; exact hq0, a2.elim (fun w => Or.inl w.2) (fun w => Or.inr w.1), hc⟩, ?_⟩
      · by_cases e : f' t = f t
        · rw [e] at h3; exact hR t ht h3
        · exact (a1 t e).1
      · rcases a2 with ⟨e1, e2⟩ | ⟨e1, t, ht, e2, e3⟩
        · rw [e1, e2]; exact Nat.lt_succ_self _
        · have := cN_lt (p := fun t => f' t = 0) (q := fun t => f t = 0) 24 (fun i _ w => by
            apply Classical.byContradiction
            intro z; rw [keep i z] at w; exact z w) ⟨t, ht, e2, e3⟩
          rw [e1]
          show 2 * cN (fun t => f' t = 0) 24 + _ < 2 * cN (fun t => f t = 0) 24 + _
          omega
    · have hk2 := fill_step (N := n) h2 (by omega) hk
      rw [nI_clamp (n := k) (by omega)]
      refine ⟨vp_in_nI (by omega) (by decide), fun h3 => ⟨⟨k + 1, hk2, nI_1 k, hI, fun w t ht => ?_⟩, fill_mu hk2 (by omega)⟩, fun h3 => ⟨⟨k, n, by omega, hn, rfl, hL, hle⟩, fun f2 m2 r2 => ⟨⟨k + 1, hk2, nI_1 k, ?_, ?_⟩, fill_mu hk2 (by omega)⟩⟩⟩
      · by_cases e : t = k
        · subst e; exact fun z => absurd h3 z
        · exact hc w t (by omega)
      · refine MkI.trans hI r2 (fun t ht => ?_) (fun _ z => z)
        have ht : bt (AN k) t = true := by rw [← hAN]; exact ht
        have hkR : k = q ∨ Relation.TransGen (LdR n AN) q k := by
          by_cases e : f' k = f k
          · exact hR k (by omega) (by rw [← e]; exact h3)
          · exact (hI.1 k e).1
        rcases hkR with e | e
        · subst e; exact Or.inr (.single ⟨hk2, ht⟩)
        · exact Or.inr (e.tail ⟨hk2, ht⟩)
      · intro w t ht
        rcases r2.2.1 with ⟨e1, e2⟩ | ⟨e1, _⟩
        · by_cases e : t = k
          · subst e
            intro _ u hu hb
            exact r2.2.2 u hu (by show bt (sLIP msa mlc mli mna t ||| sLEW msa mlc mli mna t) u = true; rw [← hAN] at hb; exact hb)
          · rw [e1]; exact hc (by rw [← e2]; exact w) t (by omega)
        · rw [e1] at w; exact absurd w (by decide)
  subst h
  have hcl := hcl rfl
  have hRc : ∀ t, t < 24 → (¬ f t = 0 ↔ t = q ∨ Relation.TransGen (LdR n AN) q t) := fun t ht => by
    refine ⟨hR t ht, fun w => ?_⟩
    rcases w with w | w
    · rw [w]; exact hq0
    · have : ∀ u, Relation.TransGen (LdR n AN) q u → u < n ∧ ¬ f u = 0 := fun u hu => by
        induction hu with
        | single e => exact ⟨ANlt _ _ (by omega) e.2, hcl q hq hq0 _ (by have := ANlt _ _ (by omega) e.2; omega) e.2⟩
        | tail _ e ih => exact ⟨ANlt _ _ (by have := e.1; omega) e.2, hcl _ e.1 ih.2 _ (by have := ANlt _ _ (by have := e.1; omega) e.2; omega) e.2⟩
      exact (this t w).2
  clear hR hq0 hm hcl
  generalize hE : (fun a b => ¬ f a = 0 ∧ a < n ∧ bt (sLIP msa mlc mli mna a) b = true) = E
  have hE24 : ∀ a b, E a b → a < 24 := fun a b h => by rw [← hE] at h; have := h.2.1; omega
  refine ⟨fun x g m => ∃ r, r ≤ 26 ∧ x = nI r ∧ (∀ t, t < 24 → ∃ c, c ≤ 624 * r ∧ g t = nI c) ∧ (∀ a b, a < 24 → b < 24 → E a b → lvl g a < lvl g b ∨ r ≤ lvl g a) ∧ (m = 0 ∨ m = 1) ∧ (m = 0 → ∀ a b, a < 24 → b < 24 → E a b → lvl g a < lvl g b) ∧ (m = 1 → r = 0 ∨ ∃ t, t < 24 ∧ r ≤ lvl g t) ∧ (∀ ρ : Nat → Nat, (∀ a b, a < 24 → b < 24 → E a b → ρ a < ρ b) → ∀ t, t < 24 → lvl g t ≤ ρ t), fun x _ _ => 26 - x.toInt.toNat, ⟨0, by decide, rfl, fun t ht => ⟨0, by decide, hg t ht⟩, fun a b _ _ _ => Or.inr (Nat.zero_le _), Or.inr rfl, fun w => absurd w (by decide), fun _ => Or.inl rfl, fun ρ _ t ht => ?_⟩, ?_⟩
  · rw [lvl_nI (c := 0) (hg t ht) (by decide)]; exact Nat.zero_le _
  clear hg g
  rintro x g m ⟨r, hr, rfl, b1, b2, b3, b4, b5, b6⟩
  refine ⟨r = 26 ∨ m = 0, ⟨fun h => Or.inl (fill_end (N := 26) h (by decide) hr), fun h => ⟨fun h2 => Or.inr h2, fun h2 => ?_⟩⟩, fun hj => ⟨fun h => ?_, fun h => ?_⟩⟩
  · have hr2 := fill_step (N := 26) h (by decide) hr
    refine ⟨fun x g' m' => ∃ k, k ≤ n ∧ x = nI k ∧ LvI E r (624 * r + 26 * k) g (fun a b => a < k ∧ E a b) g' m', fun x _ _ => n - x.toInt.toNat, ⟨0, Nat.zero_le _, rfl, b1, fun t _ => ⟨Nat.le_refl _, Or.inl rfl⟩, Or.inl ⟨rfl, fun _ _ => rfl⟩, fun ρ _ p2 => p2, fun a b _ _ w => absurd w.1 (Nat.not_lt_zero _)⟩, ?_⟩
    rintro x g' m' ⟨k, hk, rfl, hI⟩
    refine ⟨fun h3 => ?_, fun h3 => ?_⟩
    · obtain rfl := (fill_end (N := n) h3 (by omega) hk).symm
      obtain ⟨c1, c2, c3, c4, c5⟩ := hI
      have hEk : ∀ a b, E a b → a < n := fun a b w => by rw [← hE] at w; exact w.2.1
      refine ⟨⟨r + 1, hr2, nI_1 r, fun t ht => ?_, fun a b ha hb w => (c5 a b ha hb ⟨hEk a b w, w⟩).1, c3.elim (fun w => Or.inl w.1) (fun w => Or.inr w.1), fun w a b ha hb e => (c5 a b ha hb ⟨hEk a b e, e⟩).2 w, fun w => Or.inr ?_, fun ρ p1 t ht => c4 ρ p1 (b6 ρ p1) t ht⟩, fill_mu hr2 (by decide)⟩
      · obtain ⟨c, hc, e⟩ := c1 t ht; exact ⟨c, by omega, e⟩
      · rcases c3 with c3 | c3
        · rw [c3.1] at w; exact absurd w (by decide)
        · exact c3.2
    · have hk2 := fill_step (N := n) h3 (by omega) hk
      rw [nI_clamp (n := k) (by omega)]
      refine ⟨vp_in_nI (by omega) (by decide), fun h4 => ⟨⟨k + 1, hk2, nI_1 k, hI.mono (by omega) (fun a b _ _ w => ⟨?_, w.2⟩)⟩, fill_mu hk2 (by omega)⟩, fun h4 => ⟨⟨k, n, by omega, hn, rfl, hL, hle⟩, fun g2 m2 l2 => ⟨⟨k + 1, hk2, nI_1 k, ?_⟩, fill_mu hk2 (by omega)⟩⟩⟩
      · by_cases e : a = k
        · subst e; have := w.2; rw [← hE] at this; exact absurd h4 this.1
        · omega
      · have := l2 E r (624 * r + 26 * k) g (fun a b => a < k ∧ E a b) (by omega) b2 (fun b hb w => by rw [← hE]; exact ⟨h4, hk2, w⟩) hI
        refine this.mono (by omega) (fun a b _ _ w => ?_)
        by_cases e : a = k
        · subst e; refine Or.inr ⟨rfl, ?_⟩
          have := w.2; rw [← hE] at this; exact this.2.2
        · exact Or.inl ⟨by omega, w.2⟩
  · have hr6 : r = 26 := hj.elim id (fun w => absurd w h)
    have hm1 : m = 1 := b3.elim (fun w => absurd w h) id
    refine ⟨false, rfl, fun n2 e hn2 => ?_, rfl, rfl, rfl, rfl, rfl, rfl, rfl, rfl, rfl, rfl, rfl, rfl, rfl, rfl, rfl, rfl, rfl, rfl, rfl, rfl, rfl, rfl, rfl, rfl⟩
    rw [nI_eq (by omega) (by omega)] at e
    subst e
    refine ⟨hRc, fun w => absurd w (by decide), fun _ => ?_⟩
    apply Classical.byContradiction
    intro hno
    have hac : ∀ t, t < 24 → ¬ Relation.TransGen E t t := fun t ht w => by
      have hlift : ∀ u v, Relation.TransGen E u v → Relation.TransGen (LdR n (sLIP msa mlc mli mna)) u v ∧ ¬ f u = 0 ∧ u < n := fun u v z => by
        induction z with
        | single e => rw [← hE] at e; exact ⟨.single ⟨e.2.1, e.2.2⟩, e.1, e.2.1⟩
        | tail _ e ih => rw [← hE] at e; exact ⟨ih.1.tail ⟨e.2.1, e.2.2⟩, ih.2⟩
      obtain ⟨z1, z2, z3⟩ := hlift t t w
      exact hno ⟨t, z3, (hRc t ht).mp z2, z1⟩
    obtain ⟨t, ht, hlt⟩ := (b5 hm1).resolve_left (by omega)
    have := b6 _ (rank_of hE24 hac) t ht
    have := cN_le (fun i => Relation.TransGen E i t) 24
    omega
  · subst h
    have hstr := b4 rfl
    refine ⟨true, rfl, fun n2 e hn2 => ?_, rfl, rfl, rfl, rfl, rfl, rfl, rfl, rfl, rfl, rfl, rfl, rfl, rfl, rfl, rfl, rfl, rfl, rfl, rfl, rfl, rfl, rfl, rfl, rfl⟩
    rw [nI_eq (by omega) (by omega)] at e
    subst e
    refine ⟨hRc, fun _ => ⟨fun t u ht hu h1 h2 h3 => hstr t u ht hu (by rw [← hE]; exact ⟨h1, h2, h3⟩), fun t ht => ?_⟩, fun w => by cases w⟩
    have hEb : ∀ a b, E a b → b < 24 := fun a b w => by
      rw [← hE] at w
      have := ANlt a b (by omega) (IPAN a b w.2.2); omega
    have hac : ∀ t, t < 24 → ¬ Relation.TransGen E t t := fun t _ w => by
      have : ∀ u v, Relation.TransGen E u v → lvl g u < lvl g v := fun u v z => by
        induction z with
        | single e => exact hstr _ _ (hE24 _ _ e) (hEb _ _ e) e
        | tail _ e ih => exact Nat.lt_trans ih (hstr _ _ (hE24 _ _ e) (hEb _ _ e) e)
      exact Nat.lt_irrefl _ (this t t w)
    have h1 := b6 _ (rank_of hE24 hac) t ht
    have h2 := cN_le (fun i => Relation.TransGen E i t) 24
    obtain ⟨c, hc, e⟩ := b1 t ht
    rw [lvl_nI e (by omega)] at h1
    exact ⟨c, by omega, e⟩
theorem c_Mo_order (l : Launch) (D : va_G) (b : Nat → Nat) (cI cJ cZ : ClassId) (mki : Nat → Int32) (msz : Nat → Int64) (mle : Nat → Int32) (mel : Nat → Int32) (mme : Nat → Int32) (mal : Nat → Int32) (mic : Nat → Int32) (mil : Nat → Int32) (mio : Nat → Int32) (mab : Nat → Int32) (mae : Nat → Int32) (msa : Nat → Int32) (mlc : Nat → Int32) (mli : Nat → Int32) (mna : Nat → Int32) (mva : Nat → Int32) (mma : Nat → Int32) (mch : Nat → Int32) (mre : Nat → Int32) (mlv : Nat → Int32) (mwr : Nat → Int64) (msh : Nat → Int32) (mth : Int32) (mnv : Int32) (mns : Int32) (mfa : Int32) (mmo : Int32) (x : Int32) (hpre : (∃ n : Nat, n ≤ 24 ∧ mns = nI n ∧ vp_in x n ∧ LdOK msa mlc mli mna n ∧ LeOK mlc)) : Wm (S := Bool × (Nat → Int32) × (Nat → Int32) × Int32) l y_Mo_order b_Mo_order 4 (some .boolean) 2 46 [.ref (b 0), .int x] D (tyA cI cJ cZ) (wM b cI cJ cZ mki msz mle mel mme mal mic mil mio mab mae msa mlc mli mna mva mma mch mre mlv mwr msh mth mnv mns mfa mmo) (fun uu => ∀ n : Nat, mns = nI n → n ≤ 24 → (∀ t, t < 24 → (¬ uu.2.1 t = 0 ↔ t = x.toNatClampNeg ∨ Relation.TransGen (LdR n (fun s => sLIP msa mlc mli mna s ||| sLEW msa mlc mli mna s)) x.toNatClampNeg t)) ∧ (uu.1 = true → (∀ t u, t < 24 → u < 24 → ¬ uu.2.1 t = 0 → t < n → bt (sLIP msa mlc mli mna t) u = true → lvl uu.2.2.1 t < lvl uu.2.2.1 u) ∧ ∀ t, t < 24 → ∃ c, c ≤ 24 ∧ uu.2.2.1 t = nI c) ∧ (uu.1 = false → ∃ i, i < n ∧ (i = x.toNatClampNeg ∨ Relation.TransGen (LdR n (fun s => sLIP msa mlc mli mna s ||| sLEW msa mlc mli mna s)) x.toNatClampNeg i) ∧ Relation.TransGen (LdR n (sLIP msa mlc mli mna)) i i)) (fun uu => some (.int (bI uu.1))) (fun uu => (wM b cI cJ cZ mki msz mle mel mme mal mic mil mio mab mae msa mlc mli mna mva mma mch uu.2.1 uu.2.2.1 mwr msh mth mnv mns mfa uu.2.2.2)) :=
  wm_i (by decide) (fun _ _ => bI_nar _) (Nat.le_of_ble_eq_true rfl) (fun p e s m below meth c ls Q A S hK hP hD hA hS hl hret => g_Mo_order S (Nat.le_refl _) (Nat.le_refl _) ⟨Nat.le_refl _, Nat.le_refl _⟩ D b cI cJ cZ mki msz mle mel mme mal mic mil mio mab mae msa mlc mli mna mva mma mch mre mlv mwr msh mth mnv mns mfa mmo x hK hP hD hA hS hl (v_Mo_order mki msz mle mel mme mal mic mil mio mab mae msa mlc mli mna mva mma mch mre mlv mwr msh mth mnv mns mfa mmo x hpre) (fun v mki' msz' mle' mel' mme' mal' mic' mil' mio' mab' mae' msa' mlc' mli' mna' mva' mma' mch' mre' mlv' mwr' msh' mth' mnv' mns' mfa' mmo' ls1 pc H1 locs1 hd hv hP1 hD1 hS1 => by obtain ⟨rr, rfl, hp, rfl, rfl, rfl, rfl, rfl, rfl, rfl, rfl, rfl, rfl, rfl, rfl, rfl, rfl, rfl, rfl, rfl, rfl, rfl, rfl, rfl, rfl, rfl, rfl⟩ := hv; exact hret (rr, mre', mlv', mmo') _ ls1 pc H1 locs1 hd hp rfl hP1 hD1 hS1))
theorem hd_Mo_order : y_Mo_order.cls ≠ "java/lang/invoke/MethodHandle" ∧ y_Mo_order.cls ≠ "java/lang/invoke/VarHandle" ∧ (parseMethodDescriptor y_Mo_order.desc).map (fun d => d.parameters.length) = some 1 := ⟨by decide, by decide, by decide +kernel⟩
