theorem Bad_ru {G : Sp} {s v k : Nat} (hk : k ≤ 28) (h : Bad G s v k) : ruH G s k := by
  by_cases h17 : k < 17
  · exact ((Bad_lt h17).mp h).1
  · have : k = 17 ∨ k = 18 ∨ k = 19 ∨ k = 20 ∨ k = 21 ∨ k = 22 ∨ k = 23 ∨ k = 24 ∨ k = 25 ∨ k = 26 ∨ k = 27 ∨ k = 28 := by omega
    rcases this with rfl | rfl | rfl | rfl | rfl | rfl | rfl | rfl | rfl | rfl | rfl | rfl
    · exact (Bad_17.mp h).1
    · exact absurd h Bad_18
    · exact (Bad_19.mp h).2.1
    · exact (Bad_20.mp h).2.1
    · exact (Bad_21.mp h).1
    · obtain ⟨_, i, _, _, _, q, _⟩ := Bad_22.mp h; exact q
    · exact (Bad_23.mp h).2.1
    · exact absurd h Bad_24
    · exact (Bad_25.mp h).2.2.1
    · obtain ⟨_, i, _, _, _, q, _⟩ := Bad_26.mp h; exact q
    · exact (Bad_27.mp h).2.1
    · exact (Bad_28.mp h).2.1
def V_Mo_holds (mki : Nat → Int32) (msz : Nat → Int64) (mle : Nat → Int32) (mel : Nat → Int32) (mme : Nat → Int32) (mal : Nat → Int32) (mic : Nat → Int32) (mil : Nat → Int32) (mio : Nat → Int32) (mab : Nat → Int32) (mae : Nat → Int32) (msa : Nat → Int32) (mlc : Nat → Int32) (mli : Nat → Int32) (mna : Nat → Int32) (mva : Nat → Int32) (mma : Nat → Int32) (mch : Nat → Int32) (mre : Nat → Int32) (mlv : Nat → Int32) (mwr : Nat → Int64) (msh : Nat → Int32) (mth : Int32) (mnv : Int32) (mns : Int32) (mfa : Int32) (mmo : Int32) (x : Int32) (y : Int32) (k : Int32) (post : Int32 → (Nat → Int32) → (Nat → Int64) → (Nat → Int32) → (Nat → Int32) → (Nat → Int32) → (Nat → Int32) → (Nat → Int32) → (Nat → Int32) → (Nat → Int32) → (Nat → Int32) → (Nat → Int32) → (Nat → Int32) → (Nat → Int32) → (Nat → Int32) → (Nat → Int32) → (Nat → Int32) → (Nat → Int32) → (Nat → Int32) → (Nat → Int32) → (Nat → Int32) → (Nat → Int64) → (Nat → Int32) → Int32 → Int32 → Int32 → Int32 → Int32 → Prop) : Prop :=
  ((k ≤ 32 → ((k ≤ 28 → (vp_in (29 * x + k) 696 ∧ (((msa (29 * x + k : Int32).toNatClampNeg) < 0 → post 1 mki msz mle mel mme mal mic mil mio mab mae msa mlc mli mna mva mma mch mre mlv mwr msh mth mnv mns mfa mmo) ∧ (¬ (msa (29 * x + k : Int32).toNatClampNeg) < 0 → ((17 ≤ k → ((∃ n0 m0 s0 v0 : Nat, mnv = nI n0 ∧ mns = nI m0 ∧ MSOK mki msz mle mel mme mic mio msa mlc mli mna mva n0 m0 ∧ (s0 < m0 ∧ v0 < n0 ∧ x = nI s0 ∧ y = nI v0) ∧ ∃ k0 : Nat, 17 ≤ k0 ∧ k0 ≤ 28 ∧ k = nI k0 ∧ msa (29 * x + k : Int32).toNatClampNeg = msa (s0 * 29 + k0) ∧ ¬ (msa (29 * x + k : Int32).toNatClampNeg) < 0) ∧ (∀ (t1 : Bool), ((∀ G : Sp, G = gM mki msz mle mel mme mal mic mil mio mab mae msa mlc mli mna mva mma mnv.toNatClampNeg → (t1 = true ↔ ¬ Bad G x.toNatClampNeg y.toNatClampNeg k.toNatClampNeg))) → (((bI t1) = 0 → post 0 mki msz mle mel mme mal mic mil mio mab mae msa mlc mli mna mva mma mch mre mlv mwr msh mth mnv mns mfa mmo) ∧ (¬ (bI t1) = 0 → post 1 mki msz mle mel mme mal mic mil mio mab mae msa mlc mli mna mva mma mch mre mlv mwr msh mth mnv mns mfa mmo))))) ∧ (¬ 17 ≤ k → ((∃ n0 k0 q0 v0 : Nat, k0 < 17 ∧ v0 < n0 ∧ y = nI v0 ∧ k = nI k0 ∧ msa (29 * x + k : Int32).toNatClampNeg = nI q0 ∧ (¬ (msa (29 * x + k : Int32).toNatClampNeg) < 0 ∧ okk mki msz n0 k0 (msa (29 * x + k : Int32).toNatClampNeg) ∧ q0 < 2 ^ 31) ∧ MVOK mki msz mle mel mme n0 ∧ POK mic mio) ∧ (∀ (t2 : Bool), ((t2 = true ↔ plS mki msz (mpb mki mle mme) (mpt mki mle mel mme) mal mic mil mio mab mae k.toNatClampNeg y.toNatClampNeg (msa (29 * x + k : Int32).toNatClampNeg))) → (((bI t2) = 0 → post 0 mki msz mle mel mme mal mic mil mio mab mae msa mlc mli mna mva mma mch mre mlv mwr msh mth mnv mns mfa mmo) ∧ (¬ (bI t2) = 0 → post 1 mki msz mle mel mme mal mic mil mio mab mae msa mlc mli mna mva mma mch mre mlv mwr msh mth mnv mns mfa mmo)))))))))) ∧ (¬ k ≤ 28 → ((∃ n0 m0 s0 v0 : Nat, mnv = nI n0 ∧ mns = nI m0 ∧ MSOK mki msz mle mel mme mic mio msa mlc mli mna mva n0 m0 ∧ (s0 < m0 ∧ v0 < n0 ∧ x = nI s0 ∧ y = nI v0) ∧ ∃ k0 : Nat, k0 < 4 ∧ k = nI (29 + k0)) ∧ (∀ (t3 : Bool), ((∀ G : Sp, G = gM mki msz mle mel mme mal mic mil mio mab mae msa mlc mli mna mva mma mnv.toNatClampNeg → (t3 = true ↔ ¬ Bad G x.toNatClampNeg y.toNatClampNeg k.toNatClampNeg))) → post (bI t3) mki msz mle mel mme mal mic mil mio mab mae msa mlc mli mna mva mma mch mre mlv mwr msh mth mnv mns mfa mmo))))) ∧ (¬ k ≤ 32 → ((∃ n0 m0 s0 v0 : Nat, mnv = nI n0 ∧ mns = nI m0 ∧ MSOK mki msz mle mel mme mic mio msa mlc mli mna mva n0 m0 ∧ (s0 < m0 ∧ v0 < n0 ∧ x = nI s0 ∧ y = nI v0) ∧ ∃ k0 : Nat, k0 < 3 ∧ k = nI (33 + k0)) ∧ (∀ (t4 : Bool), ((∀ G : Sp, G = gM mki msz mle mel mme mal mic mil mio mab mae msa mlc mli mna mva mma mnv.toNatClampNeg → (t4 = true ↔ ¬ Bad G x.toNatClampNeg y.toNatClampNeg k.toNatClampNeg))) → post (bI t4) mki msz mle mel mme mal mic mil mio mab mae msa mlc mli mna mva mma mch mre mlv mwr msh mth mnv mns mfa mmo))))
set_option maxHeartbeats 4000000 in
set_option maxRecDepth 100000 in
theorem g_Mo_holds {p : Program} {l : Launch} {e : Env} {R : Room} {s : State} {m : MethodId} {args : Array Value} {below : List Frame} {meth : Method} {c : Code} {H : Heap} {locs : List Loc} {cells slots : Nat} {Q : State → Prop} {ls : Array Slot} {A : Nat → Prop} (S : CallFix p m c b_Mo_holds 5 s args W0 R_Mo) (hRf : 5 ≤ R.frames) (hRl : 119 ≤ R.locals) (hRc : cells ≤ R.cells ∧ slots ≤ R.slots) (D : va_G) (b : Nat → Nat) (cI cJ cZ : ClassId) (mki : Nat → Int32) (msz : Nat → Int64) (mle : Nat → Int32) (mel : Nat → Int32) (mme : Nat → Int32) (mal : Nat → Int32) (mic : Nat → Int32) (mil : Nat → Int32) (mio : Nat → Int32) (mab : Nat → Int32) (mae : Nat → Int32) (msa : Nat → Int32) (mlc : Nat → Int32) (mli : Nat → Int32) (mna : Nat → Int32) (mva : Nat → Int32) (mma : Nat → Int32) (mch : Nat → Int32) (mre : Nat → Int32) (mlv : Nat → Int32) (mwr : Nat → Int64) (msh : Nat → Int32) (mth : Int32) (mnv : Int32) (mns : Int32) (mfa : Int32) (mmo : Int32) (x : Int32) (y : Int32) (k : Int32) (hK : va_K D vwCl (tyA cI cJ cZ) s) (hP : va_P D vwCl (wM b cI cJ cZ mki msz mle mel mme mal mic mil mio mab mae msa mlc mli mna mva mma mch mre mlv mwr msh mth mnv mns mfa mmo) H) (hD : va_D A (wM b cI cJ cZ mki msz mle mel mme mal mic mil mio mab mae msa mlc mli mna mva mma mch mre mlv mwr msh mth mnv mns mfa mmo)) (hA : ∀ q, s.heap.size ≤ q → A q) (hS : va_S A s.heap H locs) (hl : lv_has ls 5 [(0, .ref (b 0)), (1, .int x), (2, .int y), (3, .int k)]) {post : Int32 → (Nat → Int32) → (Nat → Int64) → (Nat → Int32) → (Nat → Int32) → (Nat → Int32) → (Nat → Int32) → (Nat → Int32) → (Nat → Int32) → (Nat → Int32) → (Nat → Int32) → (Nat → Int32) → (Nat → Int32) → (Nat → Int32) → (Nat → Int32) → (Nat → Int32) → (Nat → Int32) → (Nat → Int32) → (Nat → Int32) → (Nat → Int32) → (Nat → Int32) → (Nat → Int64) → (Nat → Int32) → Int32 → Int32 → Int32 → Int32 → Int32 → Prop} (vc : V_Mo_holds mki msz mle mel mme mal mic mil mio mab mae msa mlc mli mna mva mma mch mre mlv mwr msh mth mnv mns mfa mmo x y k post)
    (hret : ∀ (v : Int32) (mki : Nat → Int32) (msz : Nat → Int64) (mle : Nat → Int32) (mel : Nat → Int32) (mme : Nat → Int32) (mal : Nat → Int32) (mic : Nat → Int32) (mil : Nat → Int32) (mio : Nat → Int32) (mab : Nat → Int32) (mae : Nat → Int32) (msa : Nat → Int32) (mlc : Nat → Int32) (mli : Nat → Int32) (mna : Nat → Int32) (mva : Nat → Int32) (mma : Nat → Int32) (mch : Nat → Int32) (mre : Nat → Int32) (mlv : Nat → Int32) (mwr : Nat → Int64) (msh : Nat → Int32) (mth : Int32) (mnv : Int32) (mns : Int32) (mfa : Int32) (mmo : Int32) (ls : Array Slot) (pc : Nat) (H : Heap) (locs : List Loc), decode b_Mo_holds pc = .ok (.ireturn, 1) → post v mki msz mle mel mme mal mic mil mio mab mae msa mlc mli mna mva mma mch mre mlv mwr msh mth mnv mns mfa mmo → va_P D vwCl (wM b cI cJ cZ mki msz mle mel mme mal mic mil mio mab mae msa mlc mli mna mva mma mch mre mlv mwr msh mth mnv mns mfa mmo) H → va_D A (wM b cI cJ cZ mki msz mle mel mme mal mic mil mio mab mae msa mlc mli mna mva mma mch mre mlv mwr msh mth mnv mns mfa mmo) → va_S A s.heap H locs → W p l e R s m args below meth c H locs cells slots Q (F0 m pc ls [.int v])) : W p l e R s m args below meth c H locs cells slots Q (F0 m 0 ls []) := by
  have hx := S.1
  have hb := S.2.1
  have hown := S.2.2.2.1
  have hts := S.2.2.2.2
  unfold V_Mo_holds at vc
  refine lv_iload_n hx hb d_Mo_holds_0 rfl (lv_at hl 3 rfl) ?_
  refine lv_bipush (v := 32) hx hb d_Mo_holds_1 (by decide) ?_
  refine lv_icmp_le (tgt := 14) hx hb d_Mo_holds_3 (by decide) (fun h => ?_) (fun h => ?_)
  · have vc := vc.1 h
    refine lv_iload_n hx hb d_Mo_holds_14 rfl (lv_at hl 3 rfl) ?_
    refine lv_bipush (v := 28) hx hb d_Mo_holds_15 (by decide) ?_
    refine lv_icmp_le (tgt := 28) hx hb d_Mo_holds_17 (by decide) (fun h => ?_) (fun h => ?_)
    · have vc := vc.1 h
      refine lv_aload_n hx hb d_Mo_holds_28 rfl (lv_at hl 0 rfl) ?_
      refine lv_iload_n hx hb d_Mo_holds_29 rfl (lv_at hl 1 rfl) ?_
      refine lv_iload_n hx hb d_Mo_holds_30 rfl (lv_at hl 3 rfl) ?_
      obtain ⟨hpre, vc⟩ := vc
      refine pc_V (As := [.int x, .int k]) (rest := []) S (c_Mo_said l D b cI cJ cZ mki msz mle mel mme mal mic mil mio mab mae msa mlc mli mna mva mma mch mre mlv mwr msh mth mnv mns mfa mmo x k hpre) wB_blind k_Mo_said i_Mo_said e_Mo_said o_Mo ml_Mo_141 hd_Mo_said (Nat.le_trans (by decide) hRf) (Nat.le_trans (by decide) hRl) hRc (va_recv hK hP (q0 := 0) (ci := 6) rfl rfl) (wB_at hP hK) hl.1 rfl (Nat.le_of_ble_eq_true rfl) d_Mo_holds_31 ?_
      refine lv_istore hx hb d_Mo_holds_34 hl (by decide) (lv' := [(4, .int (msa (29 * x + k : Int32).toNatClampNeg)), (0, .ref (b 0)), (1, .int x), (2, .int y), (3, .int k)]) rfl (fun ls hl => ?_)
      refine lv_iload hx hb d_Mo_holds_36 (lv_at hl 0 rfl) ?_
      refine lv_if_lt (tgt := 73) hx hb d_Mo_holds_38 (by decide) (fun h => ?_) (fun h => ?_)
      · have vc := vc.1 h
        refine lv_iconst (v := 1) hx hb d_Mo_holds_73 (by decide) ?_
        refine lv_goto (tgt := 78) hx hb d_Mo_holds_74 (by decide) ?_
        exact hret _ _ _ _ _ _ _ _ _ _ _ _ _ _ _ _ _ _ _ _ _ _ _ _ _ _ _ _ ls _ H locs d_Mo_holds_78 vc hP hD hS
      · have vc := vc.2 h
        refine lv_iload_n hx hb d_Mo_holds_41 rfl (lv_at hl 4 rfl) ?_
        refine lv_bipush (v := 17) hx hb d_Mo_holds_42 (by decide) ?_
        refine lv_icmp_ge (tgt := 61) hx hb d_Mo_holds_44 (by decide) (fun h => ?_) (fun h => ?_)
        · have vc := vc.1 h
          refine lv_aload_n hx hb d_Mo_holds_61 rfl (lv_at hl 1 rfl) ?_
          refine lv_iload_n hx hb d_Mo_holds_62 rfl (lv_at hl 2 rfl) ?_
          refine lv_iload_n hx hb d_Mo_holds_63 rfl (lv_at hl 3 rfl) ?_
          refine lv_iload_n hx hb d_Mo_holds_64 rfl (lv_at hl 4 rfl) ?_
          refine lv_iload hx hb d_Mo_holds_65 (lv_at hl 0 rfl) ?_
          obtain ⟨hpre, vc⟩ := vc
          refine wc_V (As := [.int x, .int y, .int k, .int (msa (29 * x + k : Int32).toNatClampNeg)]) (rest := []) (wr := ([] : va_W)) S (c_Mo_leading l D b cI cJ cZ mki msz mle mel mme mal mic mil mio mab mae msa mlc mli mna mva mma mch mre mlv mwr msh mth mnv mns mfa mmo x y k (msa (29 * x + k : Int32).toNatClampNeg) hpre) k_Mo_leading i_Mo_leading e_Mo_leading o_Mo ml_Mo_227 hd_Mo_leading (Nat.le_trans (by decide) hRf) (Nat.le_trans (by decide) hRl) hRc (va_recv hK hP (q0 := 0) (ci := 6) rfl rfl) hK hP hD hS hA [0, 1, 2, 3, 4, 5, 6, 7, 8, 9, 10, 11, 12, 13, 14, 15, 16, 17, 18, 19, 20, 21, 22] [] rfl rfl rfl (by decide) (by decide) (by decide) hl.1 rfl (Nat.le_of_ble_eq_true rfl) d_Mo_holds_67 (fun t1 H locs hu hP hD hS => ?_)
          have vc := vc t1 hu
          clear hu
          have hP : va_P D vwCl (wM b cI cJ cZ mki msz mle mel mme mal mic mil mio mab mae msa mlc mli mna mva mma mch mre mlv mwr msh mth mnv mns mfa mmo) H := hP
          have hD : va_D A (wM b cI cJ cZ mki msz mle mel mme mal mic mil mio mab mae msa mlc mli mna mva mma mch mre mlv mwr msh mth mnv mns mfa mmo) := hD
          refine lv_if_eq (tgt := 77) hx hb d_Mo_holds_70 (by decide) (fun h => ?_) (fun h => ?_)
          · have vc := vc.1 h
            refine lv_iconst (v := 0) hx hb d_Mo_holds_77 (by decide) ?_
            exact hret _ _ _ _ _ _ _ _ _ _ _ _ _ _ _ _ _ _ _ _ _ _ _ _ _ _ _ _ ls _ H locs d_Mo_holds_78 vc hP hD hS
          · have vc := vc.2 h
            refine lv_iconst (v := 1) hx hb d_Mo_holds_73 (by decide) ?_
            refine lv_goto (tgt := 78) hx hb d_Mo_holds_74 (by decide) ?_
            exact hret _ _ _ _ _ _ _ _ _ _ _ _ _ _ _ _ _ _ _ _ _ _ _ _ _ _ _ _ ls _ H locs d_Mo_holds_78 vc hP hD hS
        · have vc := vc.2 h
          refine lv_aload_n hx hb d_Mo_holds_47 rfl (lv_at hl 1 rfl) ?_
          refine lv_iload_n hx hb d_Mo_holds_48 rfl (lv_at hl 3 rfl) ?_
          refine lv_iload_n hx hb d_Mo_holds_49 rfl (lv_at hl 4 rfl) ?_
          refine lv_iload hx hb d_Mo_holds_50 (lv_at hl 0 rfl) ?_
          obtain ⟨hpre, vc⟩ := vc
          refine wc_V (As := [.int y, .int k, .int (msa (29 * x + k : Int32).toNatClampNeg)]) (rest := []) (wr := ([] : va_W)) S (c_Mo_plain l D b cI cJ cZ mki msz mle mel mme mal mic mil mio mab mae msa mlc mli mna mva mma mch mre mlv mwr msh mth mnv mns mfa mmo y k (msa (29 * x + k : Int32).toNatClampNeg) hpre) k_Mo_plain i_Mo_plain e_Mo_plain o_Mo ml_Mo_224 hd_Mo_plain (Nat.le_trans (by decide) hRf) (Nat.le_trans (by decide) hRl) hRc (va_recv hK hP (q0 := 0) (ci := 6) rfl rfl) hK hP hD hS hA [0, 1, 2, 3, 4, 5, 6, 7, 8, 9, 10, 11, 12, 13, 14, 15, 16, 17, 18, 19, 20, 21, 22] [] rfl rfl rfl (by decide) (by decide) (by decide) hl.1 rfl (Nat.le_of_ble_eq_true rfl) d_Mo_holds_52 (fun t2 H locs hu hP hD hS => ?_)
          have vc := vc t2 hu
          clear hu
          have hP : va_P D vwCl (wM b cI cJ cZ mki msz mle mel mme mal mic mil mio mab mae msa mlc mli mna mva mma mch mre mlv mwr msh mth mnv mns mfa mmo) H := hP
          have hD : va_D A (wM b cI cJ cZ mki msz mle mel mme mal mic mil mio mab mae msa mlc mli mna mva mma mch mre mlv mwr msh mth mnv mns mfa mmo) := hD
          refine lv_if_eq (tgt := 77) hx hb d_Mo_holds_55 (by decide) (fun h => ?_) (fun h => ?_)
          · have vc := vc.1 h
            refine lv_iconst (v := 0) hx hb d_Mo_holds_77 (by decide) ?_
            exact hret _ _ _ _ _ _ _ _ _ _ _ _ _ _ _ _ _ _ _ _ _ _ _ _ _ _ _ _ ls _ H locs d_Mo_holds_78 vc hP hD hS
          · have vc := vc.2 h
            refine lv_goto (tgt := 73) hx hb d_Mo_holds_58 (by decide) ?_
            refine lv_iconst (v := 1) hx hb d_Mo_holds_73 (by decide) ?_
            refine lv_goto (tgt := 78) hx hb d_Mo_holds_74 (by decide) ?_
            exact hret _ _ _ _ _ _ _ _ _ _ _ _ _ _ _ _ _ _ _ _ _ _ _ _ _ _ _ _ ls _ H locs d_Mo_holds_78 vc hP hD hS
    · have vc := vc.2 h
      refine lv_aload_n hx hb d_Mo_holds_20 rfl (lv_at hl 0 rfl) ?_
      refine lv_iload_n hx hb d_Mo_holds_21 rfl (lv_at hl 1 rfl) ?_
      refine lv_iload_n hx hb d_Mo_holds_22 rfl (lv_at hl 2 rfl) ?_
      refine lv_iload_n hx hb d_Mo_holds_23 rfl (lv_at hl 3 rfl) ?_
      obtain ⟨hpre, vc⟩ := vc
      refine wc_V (As := [.int x, .int y, .int k]) (rest := []) (wr := ([] : va_W)) S (c_Mo_listing l D b cI cJ cZ mki msz mle mel mme mal mic mil mio mab mae msa mlc mli mna mva mma mch mre mlv mwr msh mth mnv mns mfa mmo x y k hpre) k_Mo_listing i_Mo_listing e_Mo_listing o_Mo ml_Mo_221 hd_Mo_listing (Nat.le_trans (by decide) hRf) (Nat.le_trans (by decide) hRl) hRc (va_recv hK hP (q0 := 0) (ci := 6) rfl rfl) hK hP hD hS hA [0, 1, 2, 3, 4, 5, 6, 7, 8, 9, 10, 11, 12, 13, 14, 15, 16, 17, 18, 19, 20, 21, 22] [] rfl rfl rfl (by decide) (by decide) (by decide) hl.1 rfl (Nat.le_of_ble_eq_true rfl) d_Mo_holds_24 (fun t3 H locs hu hP hD hS => ?_)
      have vc := vc t3 hu
      clear hu
      have hP : va_P D vwCl (wM b cI cJ cZ mki msz mle mel mme mal mic mil mio mab mae msa mlc mli mna mva mma mch mre mlv mwr msh mth mnv mns mfa mmo) H := hP
      have hD : va_D A (wM b cI cJ cZ mki msz mle mel mme mal mic mil mio mab mae msa mlc mli mna mva mma mch mre mlv mwr msh mth mnv mns mfa mmo) := hD
      exact hret _ _ _ _ _ _ _ _ _ _ _ _ _ _ _ _ _ _ _ _ _ _ _ _ _ _ _ _ ls _ H locs d_Mo_holds_27 vc hP hD hS
  · have vc := vc.2 h
    refine lv_aload_n hx hb d_Mo_holds_6 rfl (lv_at hl 0 rfl) ?_
    refine lv_iload_n hx hb d_Mo_holds_7 rfl (lv_at hl 1 rfl) ?_
    refine lv_iload_n hx hb d_Mo_holds_8 rfl (lv_at hl 2 rfl) ?_
    refine lv_iload_n hx hb d_Mo_holds_9 rfl (lv_at hl 3 rfl) ?_
    obtain ⟨hpre, vc⟩ := vc
    refine wc_V (As := [.int x, .int y, .int k]) (rest := []) (wr := ([] : va_W)) S (c_Mo_naming l D b cI cJ cZ mki msz mle mel mme mal mic mil mio mab mae msa mlc mli mna mva mma mch mre mlv mwr msh mth mnv mns mfa mmo x y k hpre) k_Mo_naming i_Mo_naming e_Mo_naming o_Mo ml_Mo_218 hd_Mo_naming (Nat.le_trans (by decide) hRf) (Nat.le_trans (by decide) hRl) hRc (va_recv hK hP (q0 := 0) (ci := 6) rfl rfl) hK hP hD hS hA [0, 1, 2, 3, 4, 5, 6, 7, 8, 9, 10, 11, 12, 13, 14, 15, 16, 17, 18, 19, 20, 21, 22] [] rfl rfl rfl (by decide) (by decide) (by decide) hl.1 rfl (Nat.le_of_ble_eq_true rfl) d_Mo_holds_10 (fun t4 H locs hu hP hD hS => ?_)
    have vc := vc t4 hu
    clear hu
    have hP : va_P D vwCl (wM b cI cJ cZ mki msz mle mel mme mal mic mil mio mab mae msa mlc mli mna mva mma mch mre mlv mwr msh mth mnv mns mfa mmo) H := hP
    have hD : va_D A (wM b cI cJ cZ mki msz mle mel mme mal mic mil mio mab mae msa mlc mli mna mva mma mch mre mlv mwr msh mth mnv mns mfa mmo) := hD
    exact hret _ _ _ _ _ _ _ _ _ _ _ _ _ _ _ _ _ _ _ _ _ _ _ _ _ _ _ _ ls _ H locs d_Mo_holds_13 vc hP hD hS
set_option maxHeartbeats 4000000 in
theorem v_Mo_holds (mki : Nat → Int32) (msz : Nat → Int64) (mle : Nat → Int32) (mel : Nat → Int32) (mme : Nat → Int32) (mal : Nat → Int32) (mic : Nat → Int32) (mil : Nat → Int32) (mio : Nat → Int32) (mab : Nat → Int32) (mae : Nat → Int32) (msa : Nat → Int32) (mlc : Nat → Int32) (mli : Nat → Int32) (mna : Nat → Int32) (mva : Nat → Int32) (mma : Nat → Int32) (mch : Nat → Int32) (mre : Nat → Int32) (mlv : Nat → Int32) (mwr : Nat → Int64) (msh : Nat → Int32) (mth : Int32) (mnv : Int32) (mns : Int32) (mfa : Int32) (mmo : Int32) (x : Int32) (y : Int32) (k : Int32) (hpre : (∃ n0 m0 s0 v0 : Nat, mnv = nI n0 ∧ mns = nI m0 ∧ MSOK mki msz mle mel mme mic mio msa mlc mli mna mva n0 m0 ∧ (s0 < m0 ∧ v0 < n0 ∧ x = nI s0 ∧ y = nI v0) ∧ ∃ k0 : Nat, k0 < 36 ∧ k = nI k0)) : V_Mo_holds mki msz mle mel mme mal mic mil mio mab mae msa mlc mli mna mva mma mch mre mlv mwr msh mth mnv mns mfa mmo x y k (fun v mki' msz' mle' mel' mme' mal' mic' mil' mio' mab' mae' msa' mlc' mli' mna' mva' mma' mch' mre' mlv' mwr' msh' mth' mnv' mns' mfa' mmo' => ∃ rr : Bool, v = bI rr ∧ ((∀ G : Sp, G = gM mki msz mle mel mme mal mic mil mio mab mae msa mlc mli mna mva mma mnv.toNatClampNeg → (rr = true ↔ ¬ Bad G x.toNatClampNeg y.toNatClampNeg k.toNatClampNeg))) ∧ mki' = mki ∧ msz' = msz ∧ mle' = mle ∧ mel' = mel ∧ mme' = mme ∧ mal' = mal ∧ mic' = mic ∧ mil' = mil ∧ mio' = mio ∧ mab' = mab ∧ mae' = mae ∧ msa' = msa ∧ mlc' = mlc ∧ mli' = mli ∧ mna' = mna ∧ mva' = mva ∧ mma' = mma ∧ mch' = mch ∧ mre' = mre ∧ mlv' = mlv ∧ mwr' = mwr ∧ msh' = msh ∧ mth' = mth ∧ mnv' = mnv ∧ mns' = mns ∧ mfa' = mfa ∧ mmo' = mmo) := by
  have main : ∀ post : Int32 → (Nat → Int32) → (Nat → Int64) → (Nat → Int32) → (Nat → Int32) → (Nat → Int32) → (Nat → Int32) → (Nat → Int32) → (Nat → Int32) → (Nat → Int32) → (Nat → Int32) → (Nat → Int32) → (Nat → Int32) → (Nat → Int32) → (Nat → Int32) → (Nat → Int32) → (Nat → Int32) → (Nat → Int32) → (Nat → Int32) → (Nat → Int32) → (Nat → Int32) → (Nat → Int64) → (Nat → Int32) → Int32 → Int32 → Int32 → Int32 → Int32 → Prop, (∀ v mki' msz' mle' mel' mme' mal' mic' mil' mio' mab' mae' msa' mlc' mli' mna' mva' mma' mch' mre' mlv' mwr' msh' mth' mnv' mns' mfa' mmo', (fun v mki' msz' mle' mel' mme' mal' mic' mil' mio' mab' mae' msa' mlc' mli' mna' mva' mma' mch' mre' mlv' mwr' msh' mth' mnv' mns' mfa' mmo' => ∃ rr : Bool, v = bI rr ∧ ((∀ G : Sp, G = gM mki msz mle mel mme mal mic mil mio mab mae msa mlc mli mna mva mma mnv.toNatClampNeg → (rr = true ↔ ¬ Bad G x.toNatClampNeg y.toNatClampNeg k.toNatClampNeg))) ∧ mki' = mki ∧ msz' = msz ∧ mle' = mle ∧ mel' = mel ∧ mme' = mme ∧ mal' = mal ∧ mic' = mic ∧ mil' = mil ∧ mio' = mio ∧ mab' = mab ∧ mae' = mae ∧ msa' = msa ∧ mlc' = mlc ∧ mli' = mli ∧ mna' = mna ∧ mva' = mva ∧ mma' = mma ∧ mch' = mch ∧ mre' = mre ∧ mlv' = mlv ∧ mwr' = mwr ∧ msh' = msh ∧ mth' = mth ∧ mnv' = mnv ∧ mns' = mns ∧ mfa' = mfa ∧ mmo' = mmo) v mki' msz' mle' mel' mme' mal' mic' mil' mio' mab' mae' msa' mlc' mli' mna' mva' mma' mch' mre' mlv' mwr' msh' mth' mnv' mns' mfa' mmo' → post v mki' msz' mle' mel' mme' mal' mic' mil' mio' mab' mae' msa' mlc' mli' mna' mva' mma' mch' mre' mlv' mwr' msh' mth' mnv' mns' mfa' mmo') → V_Mo_holds mki msz mle mel mme mal mic mil mio mab mae msa mlc mli mna mva mma mch mre mlv mwr msh mth mnv mns mfa mmo x y k post := by
    intro post hpost
    unfold V_Mo_holds
    obtain ⟨n0, m0, s0, v0, hnv, hns, hS, ⟨hs, hv, rfl, rfl⟩, k0, hk, rfl⟩ := hpre
    have hm24 := hS.2.2.1
    have hn40 := hS.1.1
    have hs24 : s0 < 24 := by omega
    have hv40 : v0 < 40 := by omega
    have cs : (nI s0).toNatClampNeg = s0 := nI_clamp (by omega)
    have cv : (nI v0).toNatClampNeg = v0 := nI_clamp (by omega)
    have cn : mnv.toNatClampNeg = n0 := by rw [hnv]; exact nI_clamp (by omega)
    have hxv : vp_in (nI v0) 40 := vp_in_nI hv40 (by decide)
    obtain ⟨⟨kd, hkd, ekd⟩, ⟨L, hL, eL⟩, hpart, hmem, htxt⟩ := hS.1.2.2 v0 hv40
    have cL : (nI L).toNatClampNeg = L := nI_clamp (by omega)
    have hL8 : (mle v0).toNatClampNeg ≤ 8 := by rw [eL, cL]; exact hL
    have ck : (nI k0).toNatClampNeg = k0 := nI_clamp (by omega)
    have l32 : nI k0 ≤ 32 ↔ k0 ≤ 32 := nI_leR (n := 32) (by decide) (by omega)
    have l28 : nI k0 ≤ 28 ↔ k0 ≤ 28 := nI_leR (n := 28) (by decide) (by omega)
    have l17 : (17 : Int32) ≤ nI k0 ↔ 17 ≤ k0 := nI_leL (n := 17) (by decide) (by omega)
    simp only [cs, cv, cn, ck, jx29, l32, l28, l17] at hpost ⊢
    refine ⟨fun h32 => ⟨fun h28 => ?_, fun h28 => ?_⟩, fun h32 => ?_⟩
    · have c29 : (nI (s0 * 29 + k0)).toNatClampNeg = s0 * 29 + k0 := nI_clamp (by omega)
      rw [c29]
      refine ⟨vp_in_nI (by omega) (by decide), fun h => (hpost _ _ _ _ _ _ _ _ _ _ _ _ _ _ _ _ _ _ _ _ _ _ _ _ _ _ _ _ ⟨true, rfl, fun G hG => ⟨fun _ => fun q => ?_, fun _ => rfl⟩, rfl, rfl, rfl, rfl, rfl, rfl, rfl, rfl, rfl, rfl, rfl, rfl, rfl, rfl, rfl, rfl, rfl, rfl, rfl, rfl, rfl, rfl, rfl, rfl, rfl, rfl, rfl⟩), fun h => ⟨fun h17 => ⟨⟨n0, m0, s0, v0, hnv, hns, hS, ⟨hs, hv, rfl, rfl⟩, k0, h17, h28, rfl, rfl, h⟩, fun t ht => ⟨fun h2 => (hpost _ _ _ _ _ _ _ _ _ _ _ _ _ _ _ _ _ _ _ _ _ _ _ _ _ _ _ _ ⟨false, rfl, fun G hG => ⟨fun q => absurd q (by decide), fun q => absurd (Classical.byContradiction (fun q => by have := (ht G hG).mpr q; rw [bI0.mp h2] at this; exact absurd this (by decide))) q⟩, rfl, rfl, rfl, rfl, rfl, rfl, rfl, rfl, rfl, rfl, rfl, rfl, rfl, rfl, rfl, rfl, rfl, rfl, rfl, rfl, rfl, rfl, rfl, rfl, rfl, rfl, rfl⟩), fun h2 => (hpost _ _ _ _ _ _ _ _ _ _ _ _ _ _ _ _ _ _ _ _ _ _ _ _ _ _ _ _ ⟨true, rfl, fun G hG => ⟨fun _ => (ht G hG).mp (bI_ne.mp h2), fun _ => rfl⟩, rfl, rfl, rfl, rfl, rfl, rfl, rfl, rfl, rfl, rfl, rfl, rfl, rfl, rfl, rfl, rfl, rfl, rfl, rfl, rfl, rfl, rfl, rfl, rfl, rfl, rfl, rfl⟩)⟩⟩, fun h17 => ?_⟩⟩
      · have := Bad_ru h28 q; unfold ruH at this; rw [(gM_eq hG).2.2.2.1] at this; exact absurd h this
      · have hk17 : k0 < 17 := by omega
        have hok := hS.2.2.2.2.2.1 s0 k0 hs24 (Or.inl hk17)
        obtain ⟨q0, eq0, hq0, _⟩ := hok.resolve_left (fun w => by rw [w] at h; exact h neg1_lt)
        have key : ∀ G, (G = gM mki msz mle mel mme mal mic mil mio mab mae msa mlc mli mna mva mma n0) → (Bad G s0 v0 k0 ↔ ¬ plS mki msz (mpb mki mle mme) (mpt mki mle mel mme) mal mic mil mio mab mae k0 v0 (msa (s0 * 29 + k0))) := fun G hG => by
          rw [Bad_lt hk17, (gM_eq hG).2.2.2.2.2.2.2.1]
          unfold ruH; rw [(gM_eq hG).2.2.2.1]
          exact ⟨fun q z => q.2 (fun _ _ _ _ => z), fun q => ⟨h, fun z => q (z hs24 hv hk17 h)⟩⟩
        refine ⟨⟨n0, k0, q0, v0, hk17, hv, rfl, rfl, eq0, ⟨h, hok, by omega⟩, hS.1, hS.2.1⟩, fun t ht => ⟨fun h2 => (hpost _ _ _ _ _ _ _ _ _ _ _ _ _ _ _ _ _ _ _ _ _ _ _ _ _ _ _ _ ⟨false, rfl, fun G hG => ⟨fun q => absurd q (by decide), fun q => absurd ((key G hG).mpr (fun z => by have := ht.mpr z; rw [bI0.mp h2] at this; exact absurd this (by decide))) q⟩, rfl, rfl, rfl, rfl, rfl, rfl, rfl, rfl, rfl, rfl, rfl, rfl, rfl, rfl, rfl, rfl, rfl, rfl, rfl, rfl, rfl, rfl, rfl, rfl, rfl, rfl, rfl⟩), fun h2 => (hpost _ _ _ _ _ _ _ _ _ _ _ _ _ _ _ _ _ _ _ _ _ _ _ _ _ _ _ _ ⟨true, rfl, fun G hG => ⟨fun _ => fun q => (key G hG).mp q (ht.mp (bI_ne.mp h2)), fun _ => rfl⟩, rfl, rfl, rfl, rfl, rfl, rfl, rfl, rfl, rfl, rfl, rfl, rfl, rfl, rfl, rfl, rfl, rfl, rfl, rfl, rfl, rfl, rfl, rfl, rfl, rfl, rfl, rfl⟩)⟩⟩
    · exact ⟨⟨n0, m0, s0, v0, hnv, hns, hS, ⟨hs, hv, rfl, rfl⟩, k0 - 29, by omega, by congr 1; omega⟩, fun t ht => (hpost _ _ _ _ _ _ _ _ _ _ _ _ _ _ _ _ _ _ _ _ _ _ _ _ _ _ _ _ ⟨t, rfl, fun G hG => ht G hG, rfl, rfl, rfl, rfl, rfl, rfl, rfl, rfl, rfl, rfl, rfl, rfl, rfl, rfl, rfl, rfl, rfl, rfl, rfl, rfl, rfl, rfl, rfl, rfl, rfl, rfl, rfl⟩)⟩
    · exact ⟨⟨n0, m0, s0, v0, hnv, hns, hS, ⟨hs, hv, rfl, rfl⟩, k0 - 33, by omega, by congr 1; omega⟩, fun t ht => (hpost _ _ _ _ _ _ _ _ _ _ _ _ _ _ _ _ _ _ _ _ _ _ _ _ _ _ _ _ ⟨t, rfl, fun G hG => ht G hG, rfl, rfl, rfl, rfl, rfl, rfl, rfl, rfl, rfl, rfl, rfl, rfl, rfl, rfl, rfl, rfl, rfl, rfl, rfl, rfl, rfl, rfl, rfl, rfl, rfl, rfl, rfl⟩)⟩
  exact main _ (fun _ _ _ _ _ _ _ _ _ _ _ _ _ _ _ _ _ _ _ _ _ _ _ _ _ _ _ _ h => h)
theorem c_Mo_holds (l : Launch) (D : va_G) (b : Nat → Nat) (cI cJ cZ : ClassId) (mki : Nat → Int32) (msz : Nat → Int64) (mle : Nat → Int32) (mel : Nat → Int32) (mme : Nat → Int32) (mal : Nat → Int32) (mic : Nat → Int32) (mil : Nat → Int32) (mio : Nat → Int32) (mab : Nat → Int32) (mae : Nat → Int32) (msa : Nat → Int32) (mlc : Nat → Int32) (mli : Nat → Int32) (mna : Nat → Int32) (mva : Nat → Int32) (mma : Nat → Int32) (mch : Nat → Int32) (mre : Nat → Int32) (mlv : Nat → Int32) (mwr : Nat → Int64) (msh : Nat → Int32) (mth : Int32) (mnv : Int32) (mns : Int32) (mfa : Int32) (mmo : Int32) (x : Int32) (y : Int32) (k : Int32) (hpre : (∃ n0 m0 s0 v0 : Nat, mnv = nI n0 ∧ mns = nI m0 ∧ MSOK mki msz mle mel mme mic mio msa mlc mli mna mva n0 m0 ∧ (s0 < m0 ∧ v0 < n0 ∧ x = nI s0 ∧ y = nI v0) ∧ ∃ k0 : Nat, k0 < 36 ∧ k = nI k0)) : Wm (S := Bool) l y_Mo_holds b_Mo_holds 5 (some .boolean) 5 119 [.ref (b 0), .int x, .int y, .int k] D (tyA cI cJ cZ) (wM b cI cJ cZ mki msz mle mel mme mal mic mil mio mab mae msa mlc mli mna mva mma mch mre mlv mwr msh mth mnv mns mfa mmo) (fun uu => (∀ G : Sp, G = gM mki msz mle mel mme mal mic mil mio mab mae msa mlc mli mna mva mma mnv.toNatClampNeg → (uu = true ↔ ¬ Bad G x.toNatClampNeg y.toNatClampNeg k.toNatClampNeg))) (fun uu => some (.int (bI uu))) (fun uu => (wM b cI cJ cZ mki msz mle mel mme mal mic mil mio mab mae msa mlc mli mna mva mma mch mre mlv mwr msh mth mnv mns mfa mmo)) :=
  wm_i (by decide) (fun _ _ => bI_nar _) (Nat.le_of_ble_eq_true rfl) (fun p e s m below meth c ls Q A S hK hP hD hA hS hl hret => g_Mo_holds S (Nat.le_refl _) (Nat.le_refl _) ⟨Nat.le_refl _, Nat.le_refl _⟩ D b cI cJ cZ mki msz mle mel mme mal mic mil mio mab mae msa mlc mli mna mva mma mch mre mlv mwr msh mth mnv mns mfa mmo x y k hK hP hD hA hS hl (v_Mo_holds mki msz mle mel mme mal mic mil mio mab mae msa mlc mli mna mva mma mch mre mlv mwr msh mth mnv mns mfa mmo x y k hpre) (fun v mki' msz' mle' mel' mme' mal' mic' mil' mio' mab' mae' msa' mlc' mli' mna' mva' mma' mch' mre' mlv' mwr' msh' mth' mnv' mns' mfa' mmo' ls1 pc H1 locs1 hd hv hP1 hD1 hS1 => by obtain ⟨rr, rfl, hp, rfl, rfl, rfl, rfl, rfl, rfl, rfl, rfl, rfl, rfl, rfl, rfl, rfl, rfl, rfl, rfl, rfl, rfl, rfl, rfl, rfl, rfl, rfl, rfl, rfl, rfl, rfl⟩ := hv; exact hret rr _ ls1 pc H1 locs1 hd hp rfl hP1 hD1 hS1))
theorem hd_Mo_holds : y_Mo_holds.cls ≠ "java/lang/invoke/MethodHandle" ∧ y_Mo_holds.cls ≠ "java/lang/invoke/VarHandle" ∧ (parseMethodDescriptor y_Mo_holds.desc).map (fun d => d.parameters.length) = some 3 := ⟨by decide, by decide, by decide +kernel⟩
def V_Mo_noteFaults (mki : Nat → Int32) (msz : Nat → Int64) (mle : Nat → Int32) (mel : Nat → Int32) (mme : Nat → Int32) (mal : Nat → Int32) (mic : Nat → Int32) (mil : Nat → Int32) (mio : Nat → Int32) (mab : Nat → Int32) (mae : Nat → Int32) (msa : Nat → Int32) (mlc : Nat → Int32) (mli : Nat → Int32) (mna : Nat → Int32) (mva : Nat → Int32) (mma : Nat → Int32) (mch : Nat → Int32) (mre : Nat → Int32) (mlv : Nat → Int32) (mwr : Nat → Int64) (msh : Nat → Int32) (mth : Int32) (mnv : Int32) (mns : Int32) (mfa : Int32) (mmo : Int32) (x : Int32) (y : Int32) (post : (Nat → Int32) → (Nat → Int64) → (Nat → Int32) → (Nat → Int32) → (Nat → Int32) → (Nat → Int32) → (Nat → Int32) → (Nat → Int32) → (Nat → Int32) → (Nat → Int32) → (Nat → Int32) → (Nat → Int32) → (Nat → Int32) → (Nat → Int32) → (Nat → Int32) → (Nat → Int32) → (Nat → Int32) → (Nat → Int32) → (Nat → Int32) → (Nat → Int32) → (Nat → Int64) → (Nat → Int32) → Int32 → Int32 → Int32 → Int32 → Int32 → Prop) : Prop :=
  (∃ (I6 : Int32 → (Nat → Int64) → Int32 → Prop) (mI6 : Int32 → (Nat → Int64) → Int32 → Nat), I6 0 mwr mfa ∧ (∀ (x3 : Int32) (f4 : Nat → Int64) (u5 : Int32), I6 x3 f4 u5 → ((36 ≤ x3 → post mki msz mle mel mme mal mic mil mio mab mae msa mlc mli mna mva mma mch mre mlv f4 msh mth mnv mns u5 mmo) ∧ (¬ 36 ≤ x3 → ((∃ n0 m0 s0 v0 : Nat, mnv = nI n0 ∧ mns = nI m0 ∧ MSOK mki msz mle mel mme mic mio msa mlc mli mna mva n0 m0 ∧ (s0 < m0 ∧ v0 < n0 ∧ x = nI s0 ∧ y = nI v0) ∧ ∃ k0 : Nat, k0 < 36 ∧ x3 = nI k0) ∧ (∀ (t7 : Bool), ((∀ G : Sp, G = gM mki msz mle mel mme mal mic mil mio mab mae msa mlc mli mna mva mma mnv.toNatClampNeg → (t7 = true ↔ ¬ Bad G x.toNatClampNeg y.toNatClampNeg x3.toNatClampNeg))) → ((¬ (bI t7) = 0 → (I6 (x3 + 1) f4 u5 ∧ mI6 (x3 + 1) f4 u5 < mI6 x3 f4 u5)) ∧ ((bI t7) = 0 → (vp_in ((40 * x) + y) 960 ∧ (vp_in ((40 * x) + y) 960 ∧ (I6 (x3 + 1) (vp_updL f4 ((40 * x) + y : Int32).toNatClampNeg ((f4 ((40 * x) + y : Int32).toNatClampNeg) ||| (1 <<< (x3.toInt64 &&& 63)))) (u5 + 1) ∧ mI6 (x3 + 1) (vp_updL f4 ((40 * x) + y : Int32).toNatClampNeg ((f4 ((40 * x) + y : Int32).toNatClampNeg) ||| (1 <<< (x3.toInt64 &&& 63)))) (u5 + 1) < mI6 x3 f4 u5)))))))))))
set_option maxHeartbeats 4000000 in
set_option maxRecDepth 100000 in
theorem g_Mo_noteFaults {p : Program} {l : Launch} {e : Env} {R : Room} {s : State} {m : MethodId} {args : Array Value} {below : List Frame} {meth : Method} {c : Code} {H : Heap} {locs : List Loc} {cells slots : Nat} {Q : State → Prop} {ls : Array Slot} {A : Nat → Prop} (S : CallFix p m c b_Mo_noteFaults 4 s args W0 R_Mo) (hRf : 6 ≤ R.frames) (hRl : 143 ≤ R.locals) (hRc : cells ≤ R.cells ∧ slots ≤ R.slots) (D : va_G) (b : Nat → Nat) (cI cJ cZ : ClassId) (mki : Nat → Int32) (msz : Nat → Int64) (mle : Nat → Int32) (mel : Nat → Int32) (mme : Nat → Int32) (mal : Nat → Int32) (mic : Nat → Int32) (mil : Nat → Int32) (mio : Nat → Int32) (mab : Nat → Int32) (mae : Nat → Int32) (msa : Nat → Int32) (mlc : Nat → Int32) (mli : Nat → Int32) (mna : Nat → Int32) (mva : Nat → Int32) (mma : Nat → Int32) (mch : Nat → Int32) (mre : Nat → Int32) (mlv : Nat → Int32) (mwr : Nat → Int64) (msh : Nat → Int32) (mth : Int32) (mnv : Int32) (mns : Int32) (mfa : Int32) (mmo : Int32) (x : Int32) (y : Int32) (hK : va_K D vwCl (tyA cI cJ cZ) s) (hP : va_P D vwCl (wM b cI cJ cZ mki msz mle mel mme mal mic mil mio mab mae msa mlc mli mna mva mma mch mre mlv mwr msh mth mnv mns mfa mmo) H) (hD : va_D A (wM b cI cJ cZ mki msz mle mel mme mal mic mil mio mab mae msa mlc mli mna mva mma mch mre mlv mwr msh mth mnv mns mfa mmo)) (hA : ∀ q, s.heap.size ≤ q → A q) (hS : va_S A s.heap H locs) (hl : lv_has ls 4 [(0, .ref (b 0)), (1, .int x), (2, .int y)]) {post : (Nat → Int32) → (Nat → Int64) → (Nat → Int32) → (Nat → Int32) → (Nat → Int32) → (Nat → Int32) → (Nat → Int32) → (Nat → Int32) → (Nat → Int32) → (Nat → Int32) → (Nat → Int32) → (Nat → Int32) → (Nat → Int32) → (Nat → Int32) → (Nat → Int32) → (Nat → Int32) → (Nat → Int32) → (Nat → Int32) → (Nat → Int32) → (Nat → Int32) → (Nat → Int64) → (Nat → Int32) → Int32 → Int32 → Int32 → Int32 → Int32 → Prop} (vc : V_Mo_noteFaults mki msz mle mel mme mal mic mil mio mab mae msa mlc mli mna mva mma mch mre mlv mwr msh mth mnv mns mfa mmo x y post)
    (hret : ∀ (mki : Nat → Int32) (msz : Nat → Int64) (mle : Nat → Int32) (mel : Nat → Int32) (mme : Nat → Int32) (mal : Nat → Int32) (mic : Nat → Int32) (mil : Nat → Int32) (mio : Nat → Int32) (mab : Nat → Int32) (mae : Nat → Int32) (msa : Nat → Int32) (mlc : Nat → Int32) (mli : Nat → Int32) (mna : Nat → Int32) (mva : Nat → Int32) (mma : Nat → Int32) (mch : Nat → Int32) (mre : Nat → Int32) (mlv : Nat → Int32) (mwr : Nat → Int64) (msh : Nat → Int32) (mth : Int32) (mnv : Int32) (mns : Int32) (mfa : Int32) (mmo : Int32) (ls : Array Slot) (pc : Nat) (H : Heap) (locs : List Loc), decode b_Mo_noteFaults pc = .ok (.return_, 1) → post mki msz mle mel mme mal mic mil mio mab mae msa mlc mli mna mva mma mch mre mlv mwr msh mth mnv mns mfa mmo → va_P D vwCl (wM b cI cJ cZ mki msz mle mel mme mal mic mil mio mab mae msa mlc mli mna mva mma mch mre mlv mwr msh mth mnv mns mfa mmo) H → va_D A (wM b cI cJ cZ mki msz mle mel mme mal mic mil mio mab mae msa mlc mli mna mva mma mch mre mlv mwr msh mth mnv mns mfa mmo) → va_S A s.heap H locs → W p l e R s m args below meth c H locs cells slots Q (F0 m pc ls [])) : W p l e R s m args below meth c H locs cells slots Q (F0 m 0 ls []) := by
  have hx := S.1
  have hb := S.2.1
  have hown := S.2.2.2.1
  have hts := S.2.2.2.2
  unfold V_Mo_noteFaults at vc
  refine lv_iconst (v := 0) hx hb d_Mo_noteFaults_0 (by decide) ?_
  refine lv_istore_n hx hb d_Mo_noteFaults_1 rfl hl (by decide) (lv' := [(3, .int 0), (0, .ref (b 0)), (1, .int x), (2, .int y)]) rfl (fun ls hl => ?_)
  obtain ⟨I6, mI6, vc0, vcs⟩ := vc
  have lI6 : ∀ n : Nat, ∀ (x3 : Int32) (f4 : Nat → Int64) (u5 : Int32) (ls : Array Slot) (H : Heap) (locs : List Loc), I6 x3 f4 u5 → mI6 x3 f4 u5 < n → lv_has ls 4 [(0, .ref (b 0)), (1, .int x), (2, .int y), (3, .int x3)] → va_P D vwCl (wM b cI cJ cZ mki msz mle mel mme mal mic mil mio mab mae msa mlc mli mna mva mma mch mre mlv f4 msh mth mnv mns u5 mmo) H → va_D A (wM b cI cJ cZ mki msz mle mel mme mal mic mil mio mab mae msa mlc mli mna mva mma mch mre mlv f4 msh mth mnv mns u5 mmo) → va_S A s.heap H locs → W p l e R s m args below meth c H locs cells slots Q (F0 m 2 ls []) := by
    intro n
    induction n with
    | zero => intro x3 f4 u5 ls H locs _ h; exact absurd h (Nat.not_lt_zero _)
    | succ n ihI6 =>
      intro x3 f4 u5 ls H locs vc hmI6 hl hP hD hS
      have vc := vcs x3 f4 u5 vc
      refine lv_iload_n hx hb d_Mo_noteFaults_2 rfl (lv_at hl 3 rfl) ?_
      refine lv_bipush (v := 36) hx hb d_Mo_noteFaults_3 (by decide) ?_
      refine lv_icmp_ge (tgt := 60) hx hb d_Mo_noteFaults_5 (by decide) (fun h => ?_) (fun h => ?_)
      · have vc := vc.1 h
        exact hret _ _ _ _ _ _ _ _ _ _ _ _ _ _ _ _ _ _ _ _ _ _ _ _ _ _ _ ls _ H locs d_Mo_noteFaults_60 vc hP hD hS
      · have vc := vc.2 h
        refine lv_aload_n hx hb d_Mo_noteFaults_8 rfl (lv_at hl 0 rfl) ?_
        refine lv_iload_n hx hb d_Mo_noteFaults_9 rfl (lv_at hl 1 rfl) ?_
        refine lv_iload_n hx hb d_Mo_noteFaults_10 rfl (lv_at hl 2 rfl) ?_
        refine lv_iload_n hx hb d_Mo_noteFaults_11 rfl (lv_at hl 3 rfl) ?_
        obtain ⟨hpre, vc⟩ := vc
        refine wc_V (As := [.int x, .int y, .int x3]) (rest := []) (wr := ([] : va_W)) S (c_Mo_holds l D b cI cJ cZ mki msz mle mel mme mal mic mil mio mab mae msa mlc mli mna mva mma mch mre mlv f4 msh mth mnv mns u5 mmo x y x3 hpre) k_Mo_holds i_Mo_holds e_Mo_holds o_Mo ml_Mo_231 hd_Mo_holds (Nat.le_trans (by decide) hRf) (Nat.le_trans (by decide) hRl) hRc (va_recv hK hP (q0 := 0) (ci := 6) rfl rfl) hK hP hD hS hA [0, 1, 2, 3, 4, 5, 6, 7, 8, 9, 10, 11, 12, 13, 14, 15, 16, 17, 18, 19, 20, 21, 22] [] rfl rfl rfl (by decide) (by decide) (by decide) hl.1 rfl (Nat.le_of_ble_eq_true rfl) d_Mo_noteFaults_12 (fun t7 H locs hu hP hD hS => ?_)
        have vc := vc t7 hu
        clear hu
        have hP : va_P D vwCl (wM b cI cJ cZ mki msz mle mel mme mal mic mil mio mab mae msa mlc mli mna mva mma mch mre mlv f4 msh mth mnv mns u5 mmo) H := hP
        have hD : va_D A (wM b cI cJ cZ mki msz mle mel mme mal mic mil mio mab mae msa mlc mli mna mva mma mch mre mlv f4 msh mth mnv mns u5 mmo) := hD
        refine lv_if_ne (tgt := 54) hx hb d_Mo_noteFaults_15 (by decide) (fun h => ?_) (fun h => ?_)
        · have vc := vc.1 h
          refine lv_iinc (k := 3) (v := x3 + 1) hx hb d_Mo_noteFaults_54 hl rfl rfl (by decide) (lv' := [(3, .int (x3 + 1)), (0, .ref (b 0)), (1, .int x), (2, .int y)]) rfl (fun ls hl => ?_)
          refine lv_goto (tgt := 2) hx hb d_Mo_noteFaults_57 (by decide) ?_
          exact ihI6 (x3 + 1) f4 u5 ls H locs vc.1 (Nat.lt_of_lt_of_le vc.2 (Nat.le_of_lt_succ hmI6)) (lv_sub hl [1, 2, 3, 0] rfl) hP hD hS
        · have vc := vc.2 h
          refine lv_aload_n hx hb d_Mo_noteFaults_18 rfl (lv_at hl 0 rfl) ?_
          refine va_get (D := D) (ci := 6) (v := .ref (b 21)) (C := R_Mo) (T := F_Mo) (N := 27) hx hb hts in_Mo hown hK hP 0 rfl rfl 24 (by decide) (hts _ fl_Mo_72) (fun _ h => h) rfl d_Mo_noteFaults_19 ?_
          refine lv_bipush (v := 40) hx hb d_Mo_noteFaults_22 (by decide) ?_
          refine lv_iload_n hx hb d_Mo_noteFaults_24 rfl (lv_at hl 1 rfl) ?_
          refine lv_imul hx hb d_Mo_noteFaults_25 ?_
          refine lv_iload_n hx hb d_Mo_noteFaults_26 rfl (lv_at hl 2 rfl) ?_
          refine lv_iadd hx hb d_Mo_noteFaults_27 ?_
          refine lv_aload_n hx hb d_Mo_noteFaults_28 rfl (lv_at hl 0 rfl) ?_
          refine va_get (D := D) (ci := 6) (v := .ref (b 21)) (C := R_Mo) (T := F_Mo) (N := 27) hx hb hts in_Mo hown hK hP 0 rfl rfl 24 (by decide) (hts _ fl_Mo_72) (fun _ h => h) rfl d_Mo_noteFaults_29 ?_
          refine lv_bipush (v := 40) hx hb d_Mo_noteFaults_32 (by decide) ?_
          refine lv_iload_n hx hb d_Mo_noteFaults_34 rfl (lv_at hl 1 rfl) ?_
          refine lv_imul hx hb d_Mo_noteFaults_35 ?_
          refine lv_iload_n hx hb d_Mo_noteFaults_36 rfl (lv_at hl 2 rfl) ?_
          refine lv_iadd hx hb d_Mo_noteFaults_37 ?_
          obtain ⟨vcb, vc⟩ := vc
          refine va_lald hx hb hK hP 21 1 rfl rfl vcb d_Mo_noteFaults_38 ?_
          refine lv_lconst (v := 1) hx hb d_Mo_noteFaults_39 (by decide) ?_
          refine lv_iload_n hx hb d_Mo_noteFaults_40 rfl (lv_at hl 3 rfl) ?_
          refine lv_lshl hx hb d_Mo_noteFaults_41 rfl ?_
          refine lv_lor hx hb d_Mo_noteFaults_42 ?_
          obtain ⟨vcb, vc⟩ := vc
          refine va_last hx hb hK hP hD hS 21 1 rfl rfl vcb d_Mo_noteFaults_43 (fun H locs hP hD hS => ?_)
          have hP : va_P D vwCl (wM b cI cJ cZ mki msz mle mel mme mal mic mil mio mab mae msa mlc mli mna mva mma mch mre mlv (vp_updL f4 ((40 * x) + y : Int32).toNatClampNeg ((f4 ((40 * x) + y : Int32).toNatClampNeg) ||| (1 <<< (x3.toInt64 &&& 63)))) msh mth mnv mns u5 mmo) H := hP
          have hD : va_D A (wM b cI cJ cZ mki msz mle mel mme mal mic mil mio mab mae msa mlc mli mna mva mma mch mre mlv (vp_updL f4 ((40 * x) + y : Int32).toNatClampNeg ((f4 ((40 * x) + y : Int32).toNatClampNeg) ||| (1 <<< (x3.toInt64 &&& 63)))) msh mth mnv mns u5 mmo) := hD
          refine lv_aload_n hx hb d_Mo_noteFaults_44 rfl (lv_at hl 0 rfl) ?_
          refine lv_dup hx hb d_Mo_noteFaults_45 rfl ?_
          refine va_get (D := D) (ci := 6) (v := .int u5) (C := R_Mo) (T := F_Mo) (N := 27) hx hb hts in_Mo hown hK hP 0 rfl rfl 23 (by decide) (hts _ fl_Mo_245) (fun _ h => h) rfl d_Mo_noteFaults_46 ?_
          refine lv_iconst (v := 1) hx hb d_Mo_noteFaults_49 (by decide) ?_
          refine lv_iadd hx hb d_Mo_noteFaults_50 ?_
          refine va_put (D := D) (ci := 6) (v := .int (u5 + 1)) (ty := .int) (C := R_Mo) (T := F_Mo) (N := 27) hx hb hts in_Mo t_Mo t_Mo_ok n_Mo hown hK hP hD hS 0 rfl rfl 23 (by decide) (hts _ fl_Mo_245) (fun _ h => h) rfl (by decide +kernel) rfl rfl (Nat.le_of_ble_eq_true rfl) d_Mo_noteFaults_51 (fun H locs hP hD hS => ?_)
          have hP : va_P D vwCl (wM b cI cJ cZ mki msz mle mel mme mal mic mil mio mab mae msa mlc mli mna mva mma mch mre mlv (vp_updL f4 ((40 * x) + y : Int32).toNatClampNeg ((f4 ((40 * x) + y : Int32).toNatClampNeg) ||| (1 <<< (x3.toInt64 &&& 63)))) msh mth mnv mns (u5 + 1) mmo) H := hP
          have hD : va_D A (wM b cI cJ cZ mki msz mle mel mme mal mic mil mio mab mae msa mlc mli mna mva mma mch mre mlv (vp_updL f4 ((40 * x) + y : Int32).toNatClampNeg ((f4 ((40 * x) + y : Int32).toNatClampNeg) ||| (1 <<< (x3.toInt64 &&& 63)))) msh mth mnv mns (u5 + 1) mmo) := hD
          refine lv_iinc (k := 3) (v := x3 + 1) hx hb d_Mo_noteFaults_54 hl rfl rfl (by decide) (lv' := [(3, .int (x3 + 1)), (0, .ref (b 0)), (1, .int x), (2, .int y)]) rfl (fun ls hl => ?_)
          refine lv_goto (tgt := 2) hx hb d_Mo_noteFaults_57 (by decide) ?_
          exact ihI6 (x3 + 1) (vp_updL f4 ((40 * x) + y : Int32).toNatClampNeg ((f4 ((40 * x) + y : Int32).toNatClampNeg) ||| (1 <<< (x3.toInt64 &&& 63)))) (u5 + 1) ls H locs vc.1 (Nat.lt_of_lt_of_le vc.2 (Nat.le_of_lt_succ hmI6)) (lv_sub hl [1, 2, 3, 0] rfl) hP hD hS
  exact lI6 _ 0 mwr mfa ls H locs vc0 (Nat.lt_succ_self _) (lv_sub hl [1, 2, 3, 0] rfl) hP hD hS
set_option maxHeartbeats 4000000 in
theorem v_Mo_noteFaults (mki : Nat → Int32) (msz : Nat → Int64) (mle : Nat → Int32) (mel : Nat → Int32) (mme : Nat → Int32) (mal : Nat → Int32) (mic : Nat → Int32) (mil : Nat → Int32) (mio : Nat → Int32) (mab : Nat → Int32) (mae : Nat → Int32) (msa : Nat → Int32) (mlc : Nat → Int32) (mli : Nat → Int32) (mna : Nat → Int32) (mva : Nat → Int32) (mma : Nat → Int32) (mch : Nat → Int32) (mre : Nat → Int32) (mlv : Nat → Int32) (mwr : Nat → Int64) (msh : Nat → Int32) (mth : Int32) (mnv : Int32) (mns : Int32) (mfa : Int32) (mmo : Int32) (x : Int32) (y : Int32) (hpre : (∃ n0 m0 s0 v0 : Nat, mnv = nI n0 ∧ mns = nI m0 ∧ MSOK mki msz mle mel mme mic mio msa mlc mli mna mva n0 m0 ∧ s0 < m0 ∧ v0 < n0 ∧ x = nI s0 ∧ y = nI v0)) : V_Mo_noteFaults mki msz mle mel mme mal mic mil mio mab mae msa mlc mli mna mva mma mch mre mlv mwr msh mth mnv mns mfa mmo x y (fun mki' msz' mle' mel' mme' mal' mic' mil' mio' mab' mae' msa' mlc' mli' mna' mva' mma' mch' mre' mlv' mwr' msh' mth' mnv' mns' mfa' mmo' => ((∀ G : Sp, G = gM mki msz mle mel mme mal mic mil mio mab mae msa mlc mli mna mva mma mnv.toNatClampNeg → (∀ q, q ≠ 40 * x.toNatClampNeg + y.toNatClampNeg → mwr' q = mwr q) ∧ (∀ k, k < 64 → (bL (mwr' (40 * x.toNatClampNeg + y.toNatClampNeg)) k = true ↔ bL (mwr (40 * x.toNatClampNeg + y.toNatClampNeg)) k = true ∨ (k < 36 ∧ Bad G x.toNatClampNeg y.toNatClampNeg k))) ∧ mfa' = mfa + nI (cN (Bad G x.toNatClampNeg y.toNatClampNeg) 36))) ∧ mki' = mki ∧ msz' = msz ∧ mle' = mle ∧ mel' = mel ∧ mme' = mme ∧ mal' = mal ∧ mic' = mic ∧ mil' = mil ∧ mio' = mio ∧ mab' = mab ∧ mae' = mae ∧ msa' = msa ∧ mlc' = mlc ∧ mli' = mli ∧ mna' = mna ∧ mva' = mva ∧ mma' = mma ∧ mch' = mch ∧ mre' = mre ∧ mlv' = mlv ∧ msh' = msh ∧ mth' = mth ∧ mnv' = mnv ∧ mns' = mns ∧ mmo' = mmo) := by
  have main : ∀ post : (Nat → Int32) → (Nat → Int64) → (Nat → Int32) → (Nat → Int32) → (Nat → Int32) → (Nat → Int32) → (Nat → Int32) → (Nat → Int32) → (Nat → Int32) → (Nat → Int32) → (Nat → Int32) → (Nat → Int32) → (Nat → Int32) → (Nat → Int32) → (Nat → Int32) → (Nat → Int32) → (Nat → Int32) → (Nat → Int32) → (Nat → Int32) → (Nat → Int32) → (Nat → Int64) → (Nat → Int32) → Int32 → Int32 → Int32 → Int32 → Int32 → Prop, (∀ mki' msz' mle' mel' mme' mal' mic' mil' mio' mab' mae' msa' mlc' mli' mna' mva' mma' mch' mre' mlv' mwr' msh' mth' mnv' mns' mfa' mmo', (fun mki' msz' mle' mel' mme' mal' mic' mil' mio' mab' mae' msa' mlc' mli' mna' mva' mma' mch' mre' mlv' mwr' msh' mth' mnv' mns' mfa' mmo' => ((∀ G : Sp, G = gM mki msz mle mel mme mal mic mil mio mab mae msa mlc mli mna mva mma mnv.toNatClampNeg → (∀ q, q ≠ 40 * x.toNatClampNeg + y.toNatClampNeg → mwr' q = mwr q) ∧ (∀ k, k < 64 → (bL (mwr' (40 * x.toNatClampNeg + y.toNatClampNeg)) k = true ↔ bL (mwr (40 * x.toNatClampNeg + y.toNatClampNeg)) k = true ∨ (k < 36 ∧ Bad G x.toNatClampNeg y.toNatClampNeg k))) ∧ mfa' = mfa + nI (cN (Bad G x.toNatClampNeg y.toNatClampNeg) 36))) ∧ mki' = mki ∧ msz' = msz ∧ mle' = mle ∧ mel' = mel ∧ mme' = mme ∧ mal' = mal ∧ mic' = mic ∧ mil' = mil ∧ mio' = mio ∧ mab' = mab ∧ mae' = mae ∧ msa' = msa ∧ mlc' = mlc ∧ mli' = mli ∧ mna' = mna ∧ mva' = mva ∧ mma' = mma ∧ mch' = mch ∧ mre' = mre ∧ mlv' = mlv ∧ msh' = msh ∧ mth' = mth ∧ mnv' = mnv ∧ mns' = mns ∧ mmo' = mmo) mki' msz' mle' mel' mme' mal' mic' mil' mio' mab' mae' msa' mlc' mli' mna' mva' mma' mch' mre' mlv' mwr' msh' mth' mnv' mns' mfa' mmo' → post mki' msz' mle' mel' mme' mal' mic' mil' mio' mab' mae' msa' mlc' mli' mna' mva' mma' mch' mre' mlv' mwr' msh' mth' mnv' mns' mfa' mmo') → V_Mo_noteFaults mki msz mle mel mme mal mic mil mio mab mae msa mlc mli mna mva mma mch mre mlv mwr msh mth mnv mns mfa mmo x y post := by
    intro post hpost
    unfold V_Mo_noteFaults
    obtain ⟨n0, m0, s0, v0, hnv, hns, hS, hs, hv, rfl, rfl⟩ := hpre
    have hm24 := hS.2.2.1
    have hn40 := hS.1.1
    have hs24 : s0 < 24 := by omega
    have hv40 : v0 < 40 := by omega
    have cs : (nI s0).toNatClampNeg = s0 := nI_clamp (by omega)
    have cv : (nI v0).toNatClampNeg = v0 := nI_clamp (by omega)
    have cn : mnv.toNatClampNeg = n0 := by rw [hnv]; exact nI_clamp (by omega)
    have hxv : vp_in (nI v0) 40 := vp_in_nI hv40 (by decide)
    obtain ⟨⟨kd, hkd, ekd⟩, ⟨L, hL, eL⟩, hpart, hmem, htxt⟩ := hS.1.2.2 v0 hv40
    have cL : (nI L).toNatClampNeg = L := nI_clamp (by omega)
    have hL8 : (mle v0).toNatClampNeg ≤ 8 := by rw [eL, cL]; exact hL
    have cP : (nI (40 * s0 + v0)).toNatClampNeg = 40 * s0 + v0 := nI_clamp (by omega)
    have hP : vp_in (nI (40 * s0 + v0)) 960 := vp_in_nI (by omega) (by decide)
    simp only [cs, cv, cn, jx40, cP] at hpost ⊢
    refine ⟨fun xk f u => ∃ j, j ≤ 36 ∧ xk = nI j ∧ ∀ G : Sp, G = gM mki msz mle mel mme mal mic mil mio mab mae msa mlc mli mna mva mma n0 → (∀ q, q ≠ 40 * s0 + v0 → f q = mwr q) ∧ (∀ k, k < 64 → (bL (f (40 * s0 + v0)) k = true ↔ bL (mwr (40 * s0 + v0)) k = true ∨ (k < j ∧ Bad G s0 v0 k))) ∧ u = mfa + nI (cN (Bad G s0 v0) j), fun xk _ _ => 36 - xk.toInt.toNat, ⟨0, Nat.zero_le _, rfl, fun G _ => ⟨fun _ _ => rfl, fun k _ => ⟨Or.inl, fun q => q.elim id (fun q => absurd q.1 (Nat.not_lt_zero _))⟩, by show mfa = mfa + 0; rw [Int32.add_zero]⟩⟩, ?_⟩
    rintro xk f u ⟨j, hj, rfl, hI⟩
    refine ⟨fun h => ?_, fun h => ?_⟩
    · obtain rfl := fill_end (N := 36) h (by decide) hj
      exact (hpost _ _ _ _ _ _ _ _ _ _ _ _ _ _ _ _ _ _ _ _ _ _ _ _ _ _ _ ⟨fun G hG => hI G hG, rfl, rfl, rfl, rfl, rfl, rfl, rfl, rfl, rfl, rfl, rfl, rfl, rfl, rfl, rfl, rfl, rfl, rfl, rfl, rfl, rfl, rfl, rfl, rfl, rfl⟩)
    · have hj2 := fill_step (N := 36) h (by decide) hj
      have mu := fill_mu (N := 36) hj2 (by decide)
      have cj : (nI j).toNatClampNeg = j := nI_clamp (by omega)
      rw [cj]
      refine ⟨⟨n0, m0, s0, v0, hnv, hns, hS, ⟨hs, hv, rfl, rfl⟩, j, hj2, rfl⟩, fun t ht => ⟨fun h2 => ⟨⟨j + 1, hj2, nI_1 j, fun G hG => ?_⟩, mu⟩, fun h2 => ⟨hP, hP, ⟨j + 1, hj2, nI_1 j, fun G hG => ?_⟩, mu⟩⟩⟩
      · obtain ⟨a1, a2, a3⟩ := hI G hG
        have hn := (ht G hG).mp (bI_ne.mp h2)
        refine ⟨a1, fun k hk => ?_, by rw [cN_s.2 hn]; exact a3⟩
        rw [a2 k hk]
        refine or_congr_right ⟨fun q => ⟨by omega, q.2⟩, fun q => ⟨?_, q.2⟩⟩
        by_cases e : k = j
        · subst e; exact absurd q.2 hn
        · omega
      · obtain ⟨a1, a2, a3⟩ := hI G hG
        have hn : Bad G s0 v0 j := Classical.byContradiction (fun q => by have := (ht G hG).mpr q; rw [bI0.mp h2] at this; exact absurd this (by decide))
        refine ⟨fun q hq => by rw [updL_ne hq]; exact a1 q hq, fun k hk => ?_, ?_⟩
        · rw [updL_at, bL_or, bL_shl1 (by omega), Bool.or_eq_true, decide_eq_true_eq, a2 k hk, or_assoc]
          refine or_congr_right ?_
          constructor
          · rintro (q | q)
            · exact ⟨by omega, q.2⟩
            · subst q; exact ⟨by omega, hn⟩
          · rintro ⟨q1, q2⟩
            by_cases e : k = j
            · exact Or.inr e
            · exact Or.inl ⟨by omega, q2⟩
        · rw [cN_s.1 hn, a3, Int32.add_assoc, nI_1]
  exact main _ (fun _ _ _ _ _ _ _ _ _ _ _ _ _ _ _ _ _ _ _ _ _ _ _ _ _ _ _ h => h)
theorem c_Mo_noteFaults (l : Launch) (D : va_G) (b : Nat → Nat) (cI cJ cZ : ClassId) (mki : Nat → Int32) (msz : Nat → Int64) (mle : Nat → Int32) (mel : Nat → Int32) (mme : Nat → Int32) (mal : Nat → Int32) (mic : Nat → Int32) (mil : Nat → Int32) (mio : Nat → Int32) (mab : Nat → Int32) (mae : Nat → Int32) (msa : Nat → Int32) (mlc : Nat → Int32) (mli : Nat → Int32) (mna : Nat → Int32) (mva : Nat → Int32) (mma : Nat → Int32) (mch : Nat → Int32) (mre : Nat → Int32) (mlv : Nat → Int32) (mwr : Nat → Int64) (msh : Nat → Int32) (mth : Int32) (mnv : Int32) (mns : Int32) (mfa : Int32) (mmo : Int32) (x : Int32) (y : Int32) (hpre : (∃ n0 m0 s0 v0 : Nat, mnv = nI n0 ∧ mns = nI m0 ∧ MSOK mki msz mle mel mme mic mio msa mlc mli mna mva n0 m0 ∧ s0 < m0 ∧ v0 < n0 ∧ x = nI s0 ∧ y = nI v0)) : Wm (S := (Nat → Int64) × Int32) l y_Mo_noteFaults b_Mo_noteFaults 4 none 6 143 [.ref (b 0), .int x, .int y] D (tyA cI cJ cZ) (wM b cI cJ cZ mki msz mle mel mme mal mic mil mio mab mae msa mlc mli mna mva mma mch mre mlv mwr msh mth mnv mns mfa mmo) (fun uu => (∀ G : Sp, G = gM mki msz mle mel mme mal mic mil mio mab mae msa mlc mli mna mva mma mnv.toNatClampNeg → (∀ q, q ≠ 40 * x.toNatClampNeg + y.toNatClampNeg → uu.1 q = mwr q) ∧ (∀ k, k < 64 → (bL (uu.1 (40 * x.toNatClampNeg + y.toNatClampNeg)) k = true ↔ bL (mwr (40 * x.toNatClampNeg + y.toNatClampNeg)) k = true ∨ (k < 36 ∧ Bad G x.toNatClampNeg y.toNatClampNeg k))) ∧ uu.2 = mfa + nI (cN (Bad G x.toNatClampNeg y.toNatClampNeg) 36))) (fun uu => none) (fun uu => (wM b cI cJ cZ mki msz mle mel mme mal mic mil mio mab mae msa mlc mli mna mva mma mch mre mlv uu.1 msh mth mnv mns uu.2 mmo)) :=
  wm_v (by decide) (Nat.le_of_ble_eq_true rfl) (fun p e s m below meth c ls Q A S hK hP hD hA hS hl hret => g_Mo_noteFaults S (Nat.le_refl _) (Nat.le_refl _) ⟨Nat.le_refl _, Nat.le_refl _⟩ D b cI cJ cZ mki msz mle mel mme mal mic mil mio mab mae msa mlc mli mna mva mma mch mre mlv mwr msh mth mnv mns mfa mmo x y hK hP hD hA hS hl (v_Mo_noteFaults mki msz mle mel mme mal mic mil mio mab mae msa mlc mli mna mva mma mch mre mlv mwr msh mth mnv mns mfa mmo x y hpre) (fun mki' msz' mle' mel' mme' mal' mic' mil' mio' mab' mae' msa' mlc' mli' mna' mva' mma' mch' mre' mlv' mwr' msh' mth' mnv' mns' mfa' mmo' ls1 pc H1 locs1 hd hv hP1 hD1 hS1 => by obtain ⟨hp, rfl, rfl, rfl, rfl, rfl, rfl, rfl, rfl, rfl, rfl, rfl, rfl, rfl, rfl, rfl, rfl, rfl, rfl, rfl, rfl, rfl, rfl, rfl, rfl, rfl⟩ := hv; exact hret (mwr', mfa') ls1 pc H1 locs1 hd hp hP1 hD1 hS1))
theorem hd_Mo_noteFaults : y_Mo_noteFaults.cls ≠ "java/lang/invoke/MethodHandle" ∧ y_Mo_noteFaults.cls ≠ "java/lang/invoke/VarHandle" ∧ (parseMethodDescriptor y_Mo_noteFaults.desc).map (fun d => d.parameters.length) = some 2 := ⟨by decide, by decide, by decide +kernel⟩
