theorem tkr {x a b : Int32} (e : b.toInt = a.toInt + 1) : ((x < 0 → 0 = bI (sIn x 0 a)) ∧ (¬ x < 0 → ((b ≤ x → 0 = bI (sIn x 0 a)) ∧ (¬ b ≤ x → 1 = bI (sIn x 0 a))))) := by
  have q : b ≤ x ↔ ¬ x ≤ a := by rw [Int32.le_iff_toInt_le, Int32.le_iff_toInt_le, e]; omega
  refine ⟨fun h => ?_, fun h => ⟨fun h2 => ?_, fun h2 => ?_⟩⟩
  · have : ¬ (0 : Int32) ≤ x := Int32.not_le.mpr h
    simp [sIn, this, bI]
  · have := q.mp h2
    simp [sIn, this, bI]
  · have h3 : x ≤ a := Classical.not_not.mp (mt q.mpr h2)
    have h4 : (0 : Int32) ≤ x := Int32.not_lt.mp h
    simp [sIn, h3, h4, bI]
theorem tkb {b : Bool} : ((¬ bI (!b) = 0 → 0 = bI b) ∧ (bI (!b) = 0 → 1 = bI b)) := by cases b <;> simp [bI]
theorem in8 {x : Int32} : sIn x 0 7 = sHas 8 x := by
  have q : x < 8 ↔ x ≤ 7 := by
    rw [Int32.le_iff_toInt_le, Int32.lt_iff_toInt_lt, show (8 : Int32).toInt = 8 from rfl, show (7 : Int32).toInt = 7 from rfl]; omega
  simp only [sIn, sHas, q, Int32.not_lt]
theorem tk13 {x : Int32} : ((x = 0 → 1 = bI (sIn x 0 1)) ∧ (¬ x = 0 → ((¬ x = 1 → 0 = bI (sIn x 0 1)) ∧ (x = 1 → 1 = bI (sIn x 0 1))))) := by
  refine ⟨fun h => by subst h; rfl, fun h => ⟨fun h2 => ?_, fun h2 => by subst h2; rfl⟩⟩
  have h3 : ¬ (0 ≤ x ∧ x ≤ 1) := by
    intro ⟨h3, h4⟩
    rw [Int32.le_iff_toInt_le, show (0 : Int32).toInt = 0 from rfl] at h3
    rw [Int32.le_iff_toInt_le, show (1 : Int32).toInt = 1 from rfl] at h4
    by_cases h5 : x.toInt = 0
    · exact h (Int32.toInt_inj.mp h5)
    · exact h2 (Int32.toInt_inj.mp (by rw [show (1 : Int32).toInt = 1 from rfl]; omega))
  simp [sIn, h3, bI]
def V_Mo_takes (mki : Nat → Int32) (msz : Nat → Int64) (mle : Nat → Int32) (mel : Nat → Int32) (mme : Nat → Int32) (mal : Nat → Int32) (mic : Nat → Int32) (mil : Nat → Int32) (mio : Nat → Int32) (mab : Nat → Int32) (mae : Nat → Int32) (msa : Nat → Int32) (mlc : Nat → Int32) (mli : Nat → Int32) (mna : Nat → Int32) (mva : Nat → Int32) (mma : Nat → Int32) (mch : Nat → Int32) (mre : Nat → Int32) (mlv : Nat → Int32) (mwr : Nat → Int64) (msh : Nat → Int32) (mth : Int32) (mnv : Int32) (mns : Int32) (mfa : Int32) (mmo : Int32) (k : Int32) (x : Int32) (post : Int32 → Prop) : Prop :=
  (((k = 0) → ((x < 0 → post 0) ∧ (¬ x < 0 → ((128 ≤ x → post 0) ∧ (¬ 128 ≤ x → post 1))))) ∧ ((k = 1) → ((¬ (bI (!(sHas mnv x))) = 0 → post 0) ∧ ((bI (!(sHas mnv x))) = 0 → post 1))) ∧ ((k = 2) → (mnv ≤ 40 ∧ post (bI (sKind mki mnv x 4)))) ∧ ((k = 3 ∨ k = 4 ∨ k = 5 ∨ k = 6) → (mnv ≤ 40 ∧ post (bI (sKind mki mnv x 2)))) ∧ ((k = 7) → (mnv ≤ 40 ∧ (((bI (sKind mki mnv x 2)) = 0 → post 0) ∧ (¬ (bI (sKind mki mnv x 2)) = 0 → (vp_in x 40 ∧ (((lg_cmp (msz x.toNatClampNeg) 0) ≤ 0 → post 0) ∧ (¬ (lg_cmp (msz x.toNatClampNeg) 0) ≤ 0 → post 1))))))) ∧ ((k = 8 ∨ k = 9 ∨ k = 11 ∨ k = 12 ∨ k = 14 ∨ k = 15 ∨ k = 24 ∨ k = 25) → ((x < 0 → post 0) ∧ (¬ x < 0 → ((13 ≤ x → post 0) ∧ (¬ 13 ≤ x → post 1))))) ∧ ((k = 10) → ((¬ (bI (!(sIn x 0 7))) = 0 → post 0) ∧ ((bI (!(sIn x 0 7))) = 0 → post 1))) ∧ ((k = 13) → ((x = 0 → post 1) ∧ (¬ x = 0 → ((¬ x = 1 → post 0) ∧ (x = 1 → post 1))))) ∧ ((k = 16) → ((x < 0 → post 0) ∧ (¬ x < 0 → ((4096 ≤ x → post 0) ∧ (¬ 4096 ≤ x → post 1))))) ∧ (((k.toInt < 0 ∨ 25 < k.toInt) ∨ k = 17 ∨ k = 18 ∨ k = 19 ∨ k = 20 ∨ k = 21 ∨ k = 22 ∨ k = 23) → ((¬ (bI (!(sHas mns x))) = 0 → post 0) ∧ ((bI (!(sHas mns x))) = 0 → post 1))))
set_option maxHeartbeats 4000000 in
set_option maxRecDepth 100000 in
theorem g_Mo_takes {p : Program} {l : Launch} {e : Env} {R : Room} {s : State} {m : MethodId} {args : Array Value} {below : List Frame} {meth : Method} {c : Code} {H : Heap} {locs : List Loc} {cells slots : Nat} {Q : State → Prop} {ls : Array Slot} (S : CallFix p m c b_Mo_takes 3 s args W0 R_Mo) (hRf : 2 ≤ R.frames) (hRl : 43 ≤ R.locals) (hRc : cells ≤ R.cells ∧ slots ≤ R.slots) (D : va_G) (b : Nat → Nat) (cI cJ cZ : ClassId) (mki : Nat → Int32) (msz : Nat → Int64) (mle : Nat → Int32) (mel : Nat → Int32) (mme : Nat → Int32) (mal : Nat → Int32) (mic : Nat → Int32) (mil : Nat → Int32) (mio : Nat → Int32) (mab : Nat → Int32) (mae : Nat → Int32) (msa : Nat → Int32) (mlc : Nat → Int32) (mli : Nat → Int32) (mna : Nat → Int32) (mva : Nat → Int32) (mma : Nat → Int32) (mch : Nat → Int32) (mre : Nat → Int32) (mlv : Nat → Int32) (mwr : Nat → Int64) (msh : Nat → Int32) (mth : Int32) (mnv : Int32) (mns : Int32) (mfa : Int32) (mmo : Int32) (k : Int32) (x : Int32) (hK : va_K D vwCl (tyA cI cJ cZ) s) (hP : va_P D vwCl (wM b cI cJ cZ mki msz mle mel mme mal mic mil mio mab mae msa mlc mli mna mva mma mch mre mlv mwr msh mth mnv mns mfa mmo) H) (hl : lv_has ls 3 [(0, .ref (b 0)), (1, .int k), (2, .int x)]) {post : Int32 → Prop} (vc : V_Mo_takes mki msz mle mel mme mal mic mil mio mab mae msa mlc mli mna mva mma mch mre mlv mwr msh mth mnv mns mfa mmo k x post)
    (hret : ∀ (v : Int32) (ls : Array Slot) (pc : Nat), decode b_Mo_takes pc = .ok (.ireturn, 1) → post v → W p l e R s m args below meth c H locs cells slots Q (F0 m pc ls [.int v])) : W p l e R s m args below meth c H locs cells slots Q (F0 m 0 ls []) := by
  have hx := S.1
  have hb := S.2.1
  have hown := S.2.2.2.1
  have hts := S.2.2.2.2
  unfold V_Mo_takes at vc
  refine lv_iload_n hx hb d_Mo_takes_0 rfl (lv_at hl 1 rfl) ?_
  refine lv_topi (fun xs es => ?_)
  have a120 : (k = 0) → W p l e R s m args below meth c H locs cells slots Q (F0 m 120 ls []) := by
    intro h
    have vc := vc.1 h
    refine lv_iload_n hx hb d_Mo_takes_120 rfl (lv_at hl 2 rfl) ?_
    refine lv_if_lt (tgt := 135) hx hb d_Mo_takes_121 (by decide) (fun h => ?_) (fun h => ?_)
    · have vc := vc.1 h
      refine lv_iconst (v := 0) hx hb d_Mo_takes_135 (by decide) ?_
      exact hret _ ls _ d_Mo_takes_136 vc
    · have vc := vc.2 h
      refine lv_iload_n hx hb d_Mo_takes_124 rfl (lv_at hl 2 rfl) ?_
      refine lv_sipush (v := 128) hx hb d_Mo_takes_125 (by decide) ?_
      refine lv_icmp_ge (tgt := 135) hx hb d_Mo_takes_128 (by decide) (fun h => ?_) (fun h => ?_)
      · have vc := vc.1 h
        refine lv_iconst (v := 0) hx hb d_Mo_takes_135 (by decide) ?_
        exact hret _ ls _ d_Mo_takes_136 vc
      · have vc := vc.2 h
        refine lv_iconst (v := 1) hx hb d_Mo_takes_131 (by decide) ?_
        refine lv_goto (tgt := 136) hx hb d_Mo_takes_132 (by decide) ?_
        exact hret _ ls _ d_Mo_takes_136 vc
  have a137 : (k = 1) → W p l e R s m args below meth c H locs cells slots Q (F0 m 137 ls []) := by
    intro h
    have vc := vc.2.1 h
    refine lv_aload_n hx hb d_Mo_takes_137 rfl (lv_at hl 0 rfl) ?_
    refine lv_iload_n hx hb d_Mo_takes_138 rfl (lv_at hl 2 rfl) ?_
    refine pc_V (As := [.int x]) (rest := []) S (c_Mo_noValue l D b cI cJ cZ mki msz mle mel mme mal mic mil mio mab mae msa mlc mli mna mva mma mch mre mlv mwr msh mth mnv mns mfa mmo x) wB_blind k_Mo_noValue i_Mo_noValue e_Mo_noValue o_Mo ml_Mo_101 hd_Mo_noValue (Nat.le_trans (by decide) hRf) (Nat.le_trans (by decide) hRl) hRc (va_recv hK hP (q0 := 0) (ci := 6) rfl rfl) (wB_at hP hK) hl.1 rfl (Nat.le_of_ble_eq_true rfl) d_Mo_takes_139 ?_
    refine lv_if_ne (tgt := 149) hx hb d_Mo_takes_142 (by decide) (fun h => ?_) (fun h => ?_)
    · have vc := vc.1 h
      refine lv_iconst (v := 0) hx hb d_Mo_takes_149 (by decide) ?_
      exact hret _ ls _ d_Mo_takes_150 vc
    · have vc := vc.2 h
      refine lv_iconst (v := 1) hx hb d_Mo_takes_145 (by decide) ?_
      refine lv_goto (tgt := 150) hx hb d_Mo_takes_146 (by decide) ?_
      exact hret _ ls _ d_Mo_takes_150 vc
  have a151 : (k = 2) → W p l e R s m args below meth c H locs cells slots Q (F0 m 151 ls []) := by
    intro h
    have vc := vc.2.2.1 h
    refine lv_aload_n hx hb d_Mo_takes_151 rfl (lv_at hl 0 rfl) ?_
    refine lv_iload_n hx hb d_Mo_takes_152 rfl (lv_at hl 2 rfl) ?_
    refine lv_iconst (v := 4) hx hb d_Mo_takes_153 (by decide) ?_
    obtain ⟨hpre, vc⟩ := vc
    refine pc_V (As := [.int x, .int 4]) (rest := []) S (c_Mo_isKind l D b cI cJ cZ mki msz mle mel mme mal mic mil mio mab mae msa mlc mli mna mva mma mch mre mlv mwr msh mth mnv mns mfa mmo x 4 hpre) wB_blind k_Mo_isKind i_Mo_isKind e_Mo_isKind o_Mo ml_Mo_104 hd_Mo_isKind (Nat.le_trans (by decide) hRf) (Nat.le_trans (by decide) hRl) hRc (va_recv hK hP (q0 := 0) (ci := 6) rfl rfl) (wB_at hP hK) hl.1 rfl (Nat.le_of_ble_eq_true rfl) d_Mo_takes_154 ?_
    exact hret _ ls _ d_Mo_takes_157 vc
  have a158 : (k = 3 ∨ k = 4 ∨ k = 5 ∨ k = 6) → W p l e R s m args below meth c H locs cells slots Q (F0 m 158 ls []) := by
    intro h
    have vc := vc.2.2.2.1 h
    refine lv_aload_n hx hb d_Mo_takes_158 rfl (lv_at hl 0 rfl) ?_
    refine lv_iload_n hx hb d_Mo_takes_159 rfl (lv_at hl 2 rfl) ?_
    refine lv_iconst (v := 2) hx hb d_Mo_takes_160 (by decide) ?_
    obtain ⟨hpre, vc⟩ := vc
    refine pc_V (As := [.int x, .int 2]) (rest := []) S (c_Mo_isKind l D b cI cJ cZ mki msz mle mel mme mal mic mil mio mab mae msa mlc mli mna mva mma mch mre mlv mwr msh mth mnv mns mfa mmo x 2 hpre) wB_blind k_Mo_isKind i_Mo_isKind e_Mo_isKind o_Mo ml_Mo_104 hd_Mo_isKind (Nat.le_trans (by decide) hRf) (Nat.le_trans (by decide) hRl) hRc (va_recv hK hP (q0 := 0) (ci := 6) rfl rfl) (wB_at hP hK) hl.1 rfl (Nat.le_of_ble_eq_true rfl) d_Mo_takes_161 ?_
    exact hret _ ls _ d_Mo_takes_164 vc
  have a165 : (k = 7) → W p l e R s m args below meth c H locs cells slots Q (F0 m 165 ls []) := by
    intro h
    have vc := vc.2.2.2.2.1 h
    refine lv_aload_n hx hb d_Mo_takes_165 rfl (lv_at hl 0 rfl) ?_
    refine lv_iload_n hx hb d_Mo_takes_166 rfl (lv_at hl 2 rfl) ?_
    refine lv_iconst (v := 2) hx hb d_Mo_takes_167 (by decide) ?_
    obtain ⟨hpre, vc⟩ := vc
    refine pc_V (As := [.int x, .int 2]) (rest := []) S (c_Mo_isKind l D b cI cJ cZ mki msz mle mel mme mal mic mil mio mab mae msa mlc mli mna mva mma mch mre mlv mwr msh mth mnv mns mfa mmo x 2 hpre) wB_blind k_Mo_isKind i_Mo_isKind e_Mo_isKind o_Mo ml_Mo_104 hd_Mo_isKind (Nat.le_trans (by decide) hRf) (Nat.le_trans (by decide) hRl) hRc (va_recv hK hP (q0 := 0) (ci := 6) rfl rfl) (wB_at hP hK) hl.1 rfl (Nat.le_of_ble_eq_true rfl) d_Mo_takes_168 ?_
    refine lv_if_eq (tgt := 189) hx hb d_Mo_takes_171 (by decide) (fun h => ?_) (fun h => ?_)
    · have vc := vc.1 h
      refine lv_iconst (v := 0) hx hb d_Mo_takes_189 (by decide) ?_
      exact hret _ ls _ d_Mo_takes_190 vc
    · have vc := vc.2 h
      refine lv_aload_n hx hb d_Mo_takes_174 rfl (lv_at hl 0 rfl) ?_
      refine va_get (D := D) (ci := 6) (v := .ref (b 2)) (C := R_Mo) (T := F_Mo) (N := 27) hx hb hts in_Mo hown hK hP 0 rfl rfl 3 (by decide) (hts _ fl_Mo_13) (fun _ h => h) rfl d_Mo_takes_175 ?_
      refine lv_iload_n hx hb d_Mo_takes_178 rfl (lv_at hl 2 rfl) ?_
      obtain ⟨vcb, vc⟩ := vc
      refine va_lald hx hb hK hP 2 1 rfl rfl vcb d_Mo_takes_179 ?_
      refine lv_lconst (v := 0) hx hb d_Mo_takes_180 (by decide) ?_
      refine W.lcmp hx hb d_Mo_takes_181 ?_
      refine lv_if_le (tgt := 189) hx hb d_Mo_takes_182 (by decide) (fun h => ?_) (fun h => ?_)
      · have vc := vc.1 h
        refine lv_iconst (v := 0) hx hb d_Mo_takes_189 (by decide) ?_
        exact hret _ ls _ d_Mo_takes_190 vc
      · have vc := vc.2 h
        refine lv_iconst (v := 1) hx hb d_Mo_takes_185 (by decide) ?_
        refine lv_goto (tgt := 190) hx hb d_Mo_takes_186 (by decide) ?_
        exact hret _ ls _ d_Mo_takes_190 vc
  have a191 : (k = 8 ∨ k = 9 ∨ k = 11 ∨ k = 12 ∨ k = 14 ∨ k = 15 ∨ k = 24 ∨ k = 25) → W p l e R s m args below meth c H locs cells slots Q (F0 m 191 ls []) := by
    intro h
    have vc := vc.2.2.2.2.2.1 h
    refine lv_iload_n hx hb d_Mo_takes_191 rfl (lv_at hl 2 rfl) ?_
    refine lv_if_lt (tgt := 205) hx hb d_Mo_takes_192 (by decide) (fun h => ?_) (fun h => ?_)
    · have vc := vc.1 h
      refine lv_iconst (v := 0) hx hb d_Mo_takes_205 (by decide) ?_
      exact hret _ ls _ d_Mo_takes_206 vc
    · have vc := vc.2 h
      refine lv_iload_n hx hb d_Mo_takes_195 rfl (lv_at hl 2 rfl) ?_
      refine lv_bipush (v := 13) hx hb d_Mo_takes_196 (by decide) ?_
      refine lv_icmp_ge (tgt := 205) hx hb d_Mo_takes_198 (by decide) (fun h => ?_) (fun h => ?_)
      · have vc := vc.1 h
        refine lv_iconst (v := 0) hx hb d_Mo_takes_205 (by decide) ?_
        exact hret _ ls _ d_Mo_takes_206 vc
      · have vc := vc.2 h
        refine lv_iconst (v := 1) hx hb d_Mo_takes_201 (by decide) ?_
        refine lv_goto (tgt := 206) hx hb d_Mo_takes_202 (by decide) ?_
        exact hret _ ls _ d_Mo_takes_206 vc
  have a207 : (k = 10) → W p l e R s m args below meth c H locs cells slots Q (F0 m 207 ls []) := by
    intro h
    have vc := vc.2.2.2.2.2.2.1 h
    refine lv_aload_n hx hb d_Mo_takes_207 rfl (lv_at hl 0 rfl) ?_
    refine lv_iload_n hx hb d_Mo_takes_208 rfl (lv_at hl 2 rfl) ?_
    refine pc_V (As := [.int x]) (rest := []) S (c_Mo_noPattern l D b cI cJ cZ mki msz mle mel mme mal mic mil mio mab mae msa mlc mli mna mva mma mch mre mlv mwr msh mth mnv mns mfa mmo x) wB_blind k_Mo_noPattern i_Mo_noPattern e_Mo_noPattern o_Mo ml_Mo_117 hd_Mo_noPattern (Nat.le_trans (by decide) hRf) (Nat.le_trans (by decide) hRl) hRc (va_recv hK hP (q0 := 0) (ci := 6) rfl rfl) (wB_at hP hK) hl.1 rfl (Nat.le_of_ble_eq_true rfl) d_Mo_takes_209 ?_
    refine lv_if_ne (tgt := 219) hx hb d_Mo_takes_212 (by decide) (fun h => ?_) (fun h => ?_)
    · have vc := vc.1 h
      refine lv_iconst (v := 0) hx hb d_Mo_takes_219 (by decide) ?_
      exact hret _ ls _ d_Mo_takes_220 vc
    · have vc := vc.2 h
      refine lv_iconst (v := 1) hx hb d_Mo_takes_215 (by decide) ?_
      refine lv_goto (tgt := 220) hx hb d_Mo_takes_216 (by decide) ?_
      exact hret _ ls _ d_Mo_takes_220 vc
  have a221 : (k = 13) → W p l e R s m args below meth c H locs cells slots Q (F0 m 221 ls []) := by
    intro h
    have vc := vc.2.2.2.2.2.2.2.1 h
    refine lv_iload_n hx hb d_Mo_takes_221 rfl (lv_at hl 2 rfl) ?_
    refine lv_if_eq (tgt := 230) hx hb d_Mo_takes_222 (by decide) (fun h => ?_) (fun h => ?_)
    · have vc := vc.1 h
      refine lv_iconst (v := 1) hx hb d_Mo_takes_230 (by decide) ?_
      refine lv_goto (tgt := 235) hx hb d_Mo_takes_231 (by decide) ?_
      exact hret _ ls _ d_Mo_takes_235 vc
    · have vc := vc.2 h
      refine lv_iload_n hx hb d_Mo_takes_225 rfl (lv_at hl 2 rfl) ?_
      refine lv_iconst (v := 1) hx hb d_Mo_takes_226 (by decide) ?_
      refine lv_icmp_ne (tgt := 234) hx hb d_Mo_takes_227 (by decide) (fun h => ?_) (fun h => ?_)
      · have vc := vc.1 h
        refine lv_iconst (v := 0) hx hb d_Mo_takes_234 (by decide) ?_
        exact hret _ ls _ d_Mo_takes_235 vc
      · have vc := vc.2 h
        refine lv_iconst (v := 1) hx hb d_Mo_takes_230 (by decide) ?_
        refine lv_goto (tgt := 235) hx hb d_Mo_takes_231 (by decide) ?_
        exact hret _ ls _ d_Mo_takes_235 vc
  have a236 : (k = 16) → W p l e R s m args below meth c H locs cells slots Q (F0 m 236 ls []) := by
    intro h
    have vc := vc.2.2.2.2.2.2.2.2.1 h
    refine lv_iload_n hx hb d_Mo_takes_236 rfl (lv_at hl 2 rfl) ?_
    refine lv_if_lt (tgt := 251) hx hb d_Mo_takes_237 (by decide) (fun h => ?_) (fun h => ?_)
    · have vc := vc.1 h
      refine lv_iconst (v := 0) hx hb d_Mo_takes_251 (by decide) ?_
      exact hret _ ls _ d_Mo_takes_252 vc
    · have vc := vc.2 h
      refine lv_iload_n hx hb d_Mo_takes_240 rfl (lv_at hl 2 rfl) ?_
      refine lv_sipush (v := 4096) hx hb d_Mo_takes_241 (by decide) ?_
      refine lv_icmp_ge (tgt := 251) hx hb d_Mo_takes_244 (by decide) (fun h => ?_) (fun h => ?_)
      · have vc := vc.1 h
        refine lv_iconst (v := 0) hx hb d_Mo_takes_251 (by decide) ?_
        exact hret _ ls _ d_Mo_takes_252 vc
      · have vc := vc.2 h
        refine lv_iconst (v := 1) hx hb d_Mo_takes_247 (by decide) ?_
        refine lv_goto (tgt := 252) hx hb d_Mo_takes_248 (by decide) ?_
        exact hret _ ls _ d_Mo_takes_252 vc
  have a253 : ((k.toInt < 0 ∨ 25 < k.toInt) ∨ k = 17 ∨ k = 18 ∨ k = 19 ∨ k = 20 ∨ k = 21 ∨ k = 22 ∨ k = 23) → W p l e R s m args below meth c H locs cells slots Q (F0 m 253 ls []) := by
    intro h
    have vc := vc.2.2.2.2.2.2.2.2.2 h
    refine lv_aload_n hx hb d_Mo_takes_253 rfl (lv_at hl 0 rfl) ?_
    refine lv_iload_n hx hb d_Mo_takes_254 rfl (lv_at hl 2 rfl) ?_
    refine pc_V (As := [.int x]) (rest := []) S (c_Mo_noSchema l D b cI cJ cZ mki msz mle mel mme mal mic mil mio mab mae msa mlc mli mna mva mma mch mre mlv mwr msh mth mnv mns mfa mmo x) wB_blind k_Mo_noSchema i_Mo_noSchema e_Mo_noSchema o_Mo ml_Mo_131 hd_Mo_noSchema (Nat.le_trans (by decide) hRf) (Nat.le_trans (by decide) hRl) hRc (va_recv hK hP (q0 := 0) (ci := 6) rfl rfl) (wB_at hP hK) hl.1 rfl (Nat.le_of_ble_eq_true rfl) d_Mo_takes_255 ?_
    refine lv_if_ne (tgt := 265) hx hb d_Mo_takes_258 (by decide) (fun h => ?_) (fun h => ?_)
    · have vc := vc.1 h
      refine lv_iconst (v := 0) hx hb d_Mo_takes_265 (by decide) ?_
      exact hret _ ls _ d_Mo_takes_266 vc
    · have vc := vc.2 h
      refine lv_iconst (v := 1) hx hb d_Mo_takes_261 (by decide) ?_
      refine lv_goto (tgt := 266) hx hb d_Mo_takes_262 (by decide) ?_
      exact hret _ ls _ d_Mo_takes_266 vc
  by_cases h0 : xs.toInt < 0 ∨ 25 < xs.toInt
  · exact lv_tableOut (tgt := 253) hx hb d_Mo_takes_1 h0 (by decide) (a253 (Or.inl (by rw [← es]; exact h0)))
  · obtain ⟨k, hk, rfl⟩ := sw_of (lo := 0) (n := 25) (fun h => h0 (Or.inl h)) (fun h => h0 (Or.inr h))
    have hk : k = 0 ∨ k = 1 ∨ k = 2 ∨ k = 3 ∨ k = 4 ∨ k = 5 ∨ k = 6 ∨ k = 7 ∨ k = 8 ∨ k = 9 ∨ k = 10 ∨ k = 11 ∨ k = 12 ∨ k = 13 ∨ k = 14 ∨ k = 15 ∨ k = 16 ∨ k = 17 ∨ k = 18 ∨ k = 19 ∨ k = 20 ∨ k = 21 ∨ k = 22 ∨ k = 23 ∨ k = 24 ∨ k = 25 := by omega
    rcases hk with rfl | rfl | rfl | rfl | rfl | rfl | rfl | rfl | rfl | rfl | rfl | rfl | rfl | rfl | rfl | rfl | rfl | rfl | rfl | rfl | rfl | rfl | rfl | rfl | rfl | rfl
    · exact lv_tableIn (off := 119) (tgt := 120) hx hb d_Mo_takes_1 (by decide) (by decide) (by decide) (by decide) (a120 (es.symm))
    · exact lv_tableIn (off := 136) (tgt := 137) hx hb d_Mo_takes_1 (by decide) (by decide) (by decide) (by decide) (a137 (es.symm))
    · exact lv_tableIn (off := 150) (tgt := 151) hx hb d_Mo_takes_1 (by decide) (by decide) (by decide) (by decide) (a151 (es.symm))
    · exact lv_tableIn (off := 157) (tgt := 158) hx hb d_Mo_takes_1 (by decide) (by decide) (by decide) (by decide) (a158 (Or.inl es.symm))
    · exact lv_tableIn (off := 157) (tgt := 158) hx hb d_Mo_takes_1 (by decide) (by decide) (by decide) (by decide) (a158 (Or.inr (Or.inl es.symm)))
    · exact lv_tableIn (off := 157) (tgt := 158) hx hb d_Mo_takes_1 (by decide) (by decide) (by decide) (by decide) (a158 (Or.inr (Or.inr (Or.inl es.symm))))
    · exact lv_tableIn (off := 157) (tgt := 158) hx hb d_Mo_takes_1 (by decide) (by decide) (by decide) (by decide) (a158 (Or.inr (Or.inr (Or.inr (es.symm)))))
    · exact lv_tableIn (off := 164) (tgt := 165) hx hb d_Mo_takes_1 (by decide) (by decide) (by decide) (by decide) (a165 (es.symm))
    · exact lv_tableIn (off := 190) (tgt := 191) hx hb d_Mo_takes_1 (by decide) (by decide) (by decide) (by decide) (a191 (Or.inl es.symm))
    · exact lv_tableIn (off := 190) (tgt := 191) hx hb d_Mo_takes_1 (by decide) (by decide) (by decide) (by decide) (a191 (Or.inr (Or.inl es.symm)))
    · exact lv_tableIn (off := 206) (tgt := 207) hx hb d_Mo_takes_1 (by decide) (by decide) (by decide) (by decide) (a207 (es.symm))
    · exact lv_tableIn (off := 190) (tgt := 191) hx hb d_Mo_takes_1 (by decide) (by decide) (by decide) (by decide) (a191 (Or.inr (Or.inr (Or.inl es.symm))))
    · exact lv_tableIn (off := 190) (tgt := 191) hx hb d_Mo_takes_1 (by decide) (by decide) (by decide) (by decide) (a191 (Or.inr (Or.inr (Or.inr (Or.inl es.symm)))))
    · exact lv_tableIn (off := 220) (tgt := 221) hx hb d_Mo_takes_1 (by decide) (by decide) (by decide) (by decide) (a221 (es.symm))
    · exact lv_tableIn (off := 190) (tgt := 191) hx hb d_Mo_takes_1 (by decide) (by decide) (by decide) (by decide) (a191 (Or.inr (Or.inr (Or.inr (Or.inr (Or.inl es.symm))))))
    · exact lv_tableIn (off := 190) (tgt := 191) hx hb d_Mo_takes_1 (by decide) (by decide) (by decide) (by decide) (a191 (Or.inr (Or.inr (Or.inr (Or.inr (Or.inr (Or.inl es.symm)))))))
    · exact lv_tableIn (off := 235) (tgt := 236) hx hb d_Mo_takes_1 (by decide) (by decide) (by decide) (by decide) (a236 (es.symm))
    · exact lv_tableIn (off := 252) (tgt := 253) hx hb d_Mo_takes_1 (by decide) (by decide) (by decide) (by decide) (a253 (Or.inr (Or.inl es.symm)))
    · exact lv_tableIn (off := 252) (tgt := 253) hx hb d_Mo_takes_1 (by decide) (by decide) (by decide) (by decide) (a253 (Or.inr (Or.inr (Or.inl es.symm))))
    · exact lv_tableIn (off := 252) (tgt := 253) hx hb d_Mo_takes_1 (by decide) (by decide) (by decide) (by decide) (a253 (Or.inr (Or.inr (Or.inr (Or.inl es.symm)))))
    · exact lv_tableIn (off := 252) (tgt := 253) hx hb d_Mo_takes_1 (by decide) (by decide) (by decide) (by decide) (a253 (Or.inr (Or.inr (Or.inr (Or.inr (Or.inl es.symm))))))
    · exact lv_tableIn (off := 252) (tgt := 253) hx hb d_Mo_takes_1 (by decide) (by decide) (by decide) (by decide) (a253 (Or.inr (Or.inr (Or.inr (Or.inr (Or.inr (Or.inl es.symm)))))))
    · exact lv_tableIn (off := 252) (tgt := 253) hx hb d_Mo_takes_1 (by decide) (by decide) (by decide) (by decide) (a253 (Or.inr (Or.inr (Or.inr (Or.inr (Or.inr (Or.inr (Or.inl es.symm))))))))
    · exact lv_tableIn (off := 252) (tgt := 253) hx hb d_Mo_takes_1 (by decide) (by decide) (by decide) (by decide) (a253 (Or.inr (Or.inr (Or.inr (Or.inr (Or.inr (Or.inr (Or.inr (es.symm)))))))))
    · exact lv_tableIn (off := 190) (tgt := 191) hx hb d_Mo_takes_1 (by decide) (by decide) (by decide) (by decide) (a191 (Or.inr (Or.inr (Or.inr (Or.inr (Or.inr (Or.inr (Or.inl es.symm))))))))
    · exact lv_tableIn (off := 190) (tgt := 191) hx hb d_Mo_takes_1 (by decide) (by decide) (by decide) (by decide) (a191 (Or.inr (Or.inr (Or.inr (Or.inr (Or.inr (Or.inr (Or.inr (es.symm)))))))))
theorem h_Mo_takes (l : Launch) (D : va_G) (b : Nat → Nat) (cI cJ cZ : ClassId) (mki : Nat → Int32) (msz : Nat → Int64) (mle : Nat → Int32) (mel : Nat → Int32) (mme : Nat → Int32) (mal : Nat → Int32) (mic : Nat → Int32) (mil : Nat → Int32) (mio : Nat → Int32) (mab : Nat → Int32) (mae : Nat → Int32) (msa : Nat → Int32) (mlc : Nat → Int32) (mli : Nat → Int32) (mna : Nat → Int32) (mva : Nat → Int32) (mma : Nat → Int32) (mch : Nat → Int32) (mre : Nat → Int32) (mlv : Nat → Int32) (mwr : Nat → Int64) (msh : Nat → Int32) (mth : Int32) (mnv : Int32) (mns : Int32) (mfa : Int32) (mmo : Int32) (k : Int32) (x : Int32) (r : Int32) (hr : narrow .boolean (.int r) = .int r) (vc : V_Mo_takes mki msz mle mel mme mal mic mil mio mab mae msa mlc mli mna mva mma mch mre mlv mwr msh mth mnv mns mfa mmo k x (fun v => v = r)) : Pm l y_Mo_takes b_Mo_takes 3 (some .boolean) 2 43 [.ref (b 0), .int k, .int x] (wB D (tyA cI cJ cZ) (wM b cI cJ cZ mki msz mle mel mme mal mic mil mio mab mae msa mlc mli mna mva mma mch mre mlv mwr msh mth mnv mns mfa mmo)) (.int r) :=
  pm_i (by decide) hr (Nat.le_of_ble_eq_true rfl) (fun p e s m below meth c ls Q S hB hl hret => g_Mo_takes S (Nat.le_refl _) (Nat.le_refl _) ⟨Nat.le_refl _, Nat.le_refl _⟩ D b cI cJ cZ mki msz mle mel mme mal mic mil mio mab mae msa mlc mli mna mva mma mch mre mlv mwr msh mth mnv mns mfa mmo k x hB.2 hB.1 hl vc hret)
theorem c_Mo_takes (l : Launch) (D : va_G) (b : Nat → Nat) (cI cJ cZ : ClassId) (mki : Nat → Int32) (msz : Nat → Int64) (mle : Nat → Int32) (mel : Nat → Int32) (mme : Nat → Int32) (mal : Nat → Int32) (mic : Nat → Int32) (mil : Nat → Int32) (mio : Nat → Int32) (mab : Nat → Int32) (mae : Nat → Int32) (msa : Nat → Int32) (mlc : Nat → Int32) (mli : Nat → Int32) (mna : Nat → Int32) (mva : Nat → Int32) (mma : Nat → Int32) (mch : Nat → Int32) (mre : Nat → Int32) (mlv : Nat → Int32) (mwr : Nat → Int64) (msh : Nat → Int32) (mth : Int32) (mnv : Int32) (mns : Int32) (mfa : Int32) (mmo : Int32) (k : Int32) (x : Int32) (hpre : mnv ≤ 40) : Pm l y_Mo_takes b_Mo_takes 3 (some .boolean) 2 43 [.ref (b 0), .int k, .int x] (wB D (tyA cI cJ cZ) (wM b cI cJ cZ mki msz mle mel mme mal mic mil mio mab mae msa mlc mli mna mva mma mch mre mlv mwr msh mth mnv mns mfa mmo)) (.int (bI (sTakes mki msz mnv mns k x))) := h_Mo_takes l D b cI cJ cZ mki msz mle mel mme mal mic mil mio mab mae msa mlc mli mna mva mma mch mre mlv mwr msh mth mnv mns mfa mmo k x _ (bI_nar _) (by
  unfold V_Mo_takes
  refine ⟨fun h => ?_, fun h => ?_, fun h => ⟨hpre, ?_⟩, fun h => ⟨hpre, ?_⟩, fun h => ⟨hpre, fun h2 => ?_, fun h2 => ⟨vp_has hpre (by have := sKind_iff.mp (bI_ne.mp h2); simp [sHas, this.1]), fun h3 => ?_, fun h3 => ?_⟩⟩, fun h => ?_, fun h => ?_, fun h => ?_, fun h => ?_, fun h => ?_⟩
  · subst h; exact tkr (a := 127) (b := 128) rfl
  · subst h; exact tkb
  · subst h; rfl
  · rcases h with rfl | rfl | rfl | rfl <;> rfl
  · subst h; simp [sTakes, bI, bI_eq.mp h2]
  · subst h; simp [sTakes, bI_ne.mp h2, bI, lg_pos.mp h3]
  · subst h; have h3 := mt lg_pos.mpr h3; simp only [Classical.not_not] at h3; simp [sTakes, bI_ne.mp h2, bI, h3]
  · rcases h with rfl | rfl | rfl | rfl | rfl | rfl | rfl | rfl <;> exact tkr (a := 12) (b := 13) rfl
  · subst h; rw [in8]; exact tkb
  · subst h; exact tk13
  · subst h; exact tkr (a := 4095) (b := 4096) rfl
  · have e : sTakes mki msz mnv mns k x = sHas mns x := by
      rcases h with h | rfl | rfl | rfl | rfl | rfl | rfl | rfl
      · have hn : ∀ c : Int32, 0 ≤ c.toInt → c.toInt ≤ 25 → ¬ k = c := fun c h1 h2 e => by subst e; omega
        simp [sTakes, hn]
      all_goals rfl
    rw [e]; exact tkb)
theorem hd_Mo_takes : y_Mo_takes.cls ≠ "java/lang/invoke/MethodHandle" ∧ y_Mo_takes.cls ≠ "java/lang/invoke/VarHandle" ∧ (parseMethodDescriptor y_Mo_takes.desc).map (fun d => d.parameters.length) = some 2 := ⟨by decide, by decide, by decide +kernel⟩
def V_Mo_rule (mki : Nat → Int32) (msz : Nat → Int64) (mle : Nat → Int32) (mel : Nat → Int32) (mme : Nat → Int32) (mal : Nat → Int32) (mic : Nat → Int32) (mil : Nat → Int32) (mio : Nat → Int32) (mab : Nat → Int32) (mae : Nat → Int32) (msa : Nat → Int32) (mlc : Nat → Int32) (mli : Nat → Int32) (mna : Nat → Int32) (mva : Nat → Int32) (mma : Nat → Int32) (mch : Nat → Int32) (mre : Nat → Int32) (mlv : Nat → Int32) (mwr : Nat → Int64) (msh : Nat → Int32) (mth : Int32) (mnv : Int32) (mns : Int32) (mfa : Int32) (mmo : Int32) (x : Int32) (y : Int32) (z : Int32) (post : (Nat → Int32) → (Nat → Int64) → (Nat → Int32) → (Nat → Int32) → (Nat → Int32) → (Nat → Int32) → (Nat → Int32) → (Nat → Int32) → (Nat → Int32) → (Nat → Int32) → (Nat → Int32) → (Nat → Int32) → (Nat → Int32) → (Nat → Int32) → (Nat → Int32) → (Nat → Int32) → (Nat → Int32) → (Nat → Int32) → (Nat → Int32) → (Nat → Int32) → (Nat → Int64) → (Nat → Int32) → Int32 → Int32 → Int32 → Int32 → Int32 → Prop) : Prop :=
  ((¬ (bI (!(sHas mns x))) = 0 → post mki msz mle mel mme mal mic mil mio mab mae msa mlc mli mna mva mma mch mre mlv mwr msh 1 mnv mns mfa mmo) ∧ ((bI (!(sHas mns x))) = 0 → ((y < 0 → post mki msz mle mel mme mal mic mil mio mab mae msa mlc mli mna mva mma mch mre mlv mwr msh 1 mnv mns mfa mmo) ∧ (¬ y < 0 → ((28 < y → post mki msz mle mel mme mal mic mil mio mab mae msa mlc mli mna mva mma mch mre mlv mwr msh 1 mnv mns mfa mmo) ∧ (¬ 28 < y → ((z = (-1) → (vp_in ((29 * x) + y) 696 ∧ post mki msz mle mel mme mal mic mil mio mab mae (upd msa ((29 * x) + y : Int32).toNatClampNeg z) mlc mli mna mva mma mch mre mlv mwr msh 0 mnv mns mfa mmo)) ∧ (¬ z = (-1) → (mnv ≤ 40 ∧ ((¬ (bI (sTakes mki msz mnv mns y z)) = 0 → (vp_in ((29 * x) + y) 696 ∧ post mki msz mle mel mme mal mic mil mio mab mae (upd msa ((29 * x) + y : Int32).toNatClampNeg z) mlc mli mna mva mma mch mre mlv mwr msh 0 mnv mns mfa mmo)) ∧ ((bI (sTakes mki msz mnv mns y z)) = 0 → post mki msz mle mel mme mal mic mil mio mab mae msa mlc mli mna mva mma mch mre mlv mwr msh 1 mnv mns mfa mmo)))))))))))
set_option maxHeartbeats 4000000 in
set_option maxRecDepth 100000 in
theorem g_Mo_rule {p : Program} {l : Launch} {e : Env} {R : Room} {s : State} {m : MethodId} {args : Array Value} {below : List Frame} {meth : Method} {c : Code} {H : Heap} {locs : List Loc} {cells slots : Nat} {Q : State → Prop} {ls : Array Slot} {A : Nat → Prop} (S : CallFix p m c b_Mo_rule 4 s args W0 R_Mo) (hRf : 3 ≤ R.frames) (hRl : 65 ≤ R.locals) (hRc : cells ≤ R.cells ∧ slots ≤ R.slots) (D : va_G) (b : Nat → Nat) (cI cJ cZ : ClassId) (mki : Nat → Int32) (msz : Nat → Int64) (mle : Nat → Int32) (mel : Nat → Int32) (mme : Nat → Int32) (mal : Nat → Int32) (mic : Nat → Int32) (mil : Nat → Int32) (mio : Nat → Int32) (mab : Nat → Int32) (mae : Nat → Int32) (msa : Nat → Int32) (mlc : Nat → Int32) (mli : Nat → Int32) (mna : Nat → Int32) (mva : Nat → Int32) (mma : Nat → Int32) (mch : Nat → Int32) (mre : Nat → Int32) (mlv : Nat → Int32) (mwr : Nat → Int64) (msh : Nat → Int32) (mth : Int32) (mnv : Int32) (mns : Int32) (mfa : Int32) (mmo : Int32) (x : Int32) (y : Int32) (z : Int32) (hK : va_K D vwCl (tyA cI cJ cZ) s) (hP : va_P D vwCl (wM b cI cJ cZ mki msz mle mel mme mal mic mil mio mab mae msa mlc mli mna mva mma mch mre mlv mwr msh mth mnv mns mfa mmo) H) (hD : va_D A (wM b cI cJ cZ mki msz mle mel mme mal mic mil mio mab mae msa mlc mli mna mva mma mch mre mlv mwr msh mth mnv mns mfa mmo)) (hA : ∀ q, s.heap.size ≤ q → A q) (hS : va_S A s.heap H locs) (hl : lv_has ls 4 [(0, .ref (b 0)), (1, .int x), (2, .int y), (3, .int z)]) {post : (Nat → Int32) → (Nat → Int64) → (Nat → Int32) → (Nat → Int32) → (Nat → Int32) → (Nat → Int32) → (Nat → Int32) → (Nat → Int32) → (Nat → Int32) → (Nat → Int32) → (Nat → Int32) → (Nat → Int32) → (Nat → Int32) → (Nat → Int32) → (Nat → Int32) → (Nat → Int32) → (Nat → Int32) → (Nat → Int32) → (Nat → Int32) → (Nat → Int32) → (Nat → Int64) → (Nat → Int32) → Int32 → Int32 → Int32 → Int32 → Int32 → Prop} (vc : V_Mo_rule mki msz mle mel mme mal mic mil mio mab mae msa mlc mli mna mva mma mch mre mlv mwr msh mth mnv mns mfa mmo x y z post)
    (hret : ∀ (mki : Nat → Int32) (msz : Nat → Int64) (mle : Nat → Int32) (mel : Nat → Int32) (mme : Nat → Int32) (mal : Nat → Int32) (mic : Nat → Int32) (mil : Nat → Int32) (mio : Nat → Int32) (mab : Nat → Int32) (mae : Nat → Int32) (msa : Nat → Int32) (mlc : Nat → Int32) (mli : Nat → Int32) (mna : Nat → Int32) (mva : Nat → Int32) (mma : Nat → Int32) (mch : Nat → Int32) (mre : Nat → Int32) (mlv : Nat → Int32) (mwr : Nat → Int64) (msh : Nat → Int32) (mth : Int32) (mnv : Int32) (mns : Int32) (mfa : Int32) (mmo : Int32) (ls : Array Slot) (pc : Nat) (H : Heap) (locs : List Loc), decode b_Mo_rule pc = .ok (.return_, 1) → post mki msz mle mel mme mal mic mil mio mab mae msa mlc mli mna mva mma mch mre mlv mwr msh mth mnv mns mfa mmo → va_P D vwCl (wM b cI cJ cZ mki msz mle mel mme mal mic mil mio mab mae msa mlc mli mna mva mma mch mre mlv mwr msh mth mnv mns mfa mmo) H → va_D A (wM b cI cJ cZ mki msz mle mel mme mal mic mil mio mab mae msa mlc mli mna mva mma mch mre mlv mwr msh mth mnv mns mfa mmo) → va_S A s.heap H locs → W p l e R s m args below meth c H locs cells slots Q (F0 m pc ls [])) : W p l e R s m args below meth c H locs cells slots Q (F0 m 0 ls []) := by
  have hx := S.1
  have hb := S.2.1
  have hown := S.2.2.2.1
  have hts := S.2.2.2.2
  unfold V_Mo_rule at vc
  refine lv_aload_n hx hb d_Mo_rule_0 rfl (lv_at hl 0 rfl) ?_
  refine lv_aload_n hx hb d_Mo_rule_1 rfl (lv_at hl 0 rfl) ?_
  refine lv_iload_n hx hb d_Mo_rule_2 rfl (lv_at hl 1 rfl) ?_
  refine pc_V (As := [.int x]) (rest := [.ref (b 0)]) S (c_Mo_noSchema l D b cI cJ cZ mki msz mle mel mme mal mic mil mio mab mae msa mlc mli mna mva mma mch mre mlv mwr msh mth mnv mns mfa mmo x) wB_blind k_Mo_noSchema i_Mo_noSchema e_Mo_noSchema o_Mo ml_Mo_131 hd_Mo_noSchema (Nat.le_trans (by decide) hRf) (Nat.le_trans (by decide) hRl) hRc (va_recv hK hP (q0 := 0) (ci := 6) rfl rfl) (wB_at hP hK) hl.1 rfl (Nat.le_of_ble_eq_true rfl) d_Mo_rule_3 ?_
  refine lv_if_ne (tgt := 33) hx hb d_Mo_rule_6 (by decide) (fun h => ?_) (fun h => ?_)
  · have vc := vc.1 h
    refine lv_iconst (v := 1) hx hb d_Mo_rule_33 (by decide) ?_
    refine lv_goto (tgt := 38) hx hb d_Mo_rule_34 (by decide) ?_
    refine va_put (D := D) (ci := 6) (v := .int 1) (ty := .int) (C := R_Mo) (T := F_Mo) (N := 27) hx hb hts in_Mo t_Mo t_Mo_ok n_Mo hown hK hP hD hS 0 rfl rfl 0 (by decide) (hts _ fl_Mo_78) (fun _ h => h) rfl (by decide +kernel) rfl rfl (Nat.le_of_ble_eq_true rfl) d_Mo_rule_38 (fun H locs hP hD hS => ?_)
    have hP : va_P D vwCl (wM b cI cJ cZ mki msz mle mel mme mal mic mil mio mab mae msa mlc mli mna mva mma mch mre mlv mwr msh 1 mnv mns mfa mmo) H := hP
    have hD : va_D A (wM b cI cJ cZ mki msz mle mel mme mal mic mil mio mab mae msa mlc mli mna mva mma mch mre mlv mwr msh 1 mnv mns mfa mmo) := hD
    refine lv_aload_n hx hb d_Mo_rule_41 rfl (lv_at hl 0 rfl) ?_
    refine va_get (D := D) (ci := 6) (v := .int 1) (C := R_Mo) (T := F_Mo) (N := 27) hx hb hts in_Mo hown hK hP 0 rfl rfl 0 (by decide) (hts _ fl_Mo_78) (fun _ h => h) rfl d_Mo_rule_42 ?_
    refine lv_if_ne (tgt := 60) hx hb d_Mo_rule_45 (by decide) (fun h => ?_) (fun h => ?_)
    · skip
      exact hret _ _ _ _ _ _ _ _ _ _ _ _ _ _ _ _ _ _ _ _ _ _ _ _ _ _ _ ls _ H locs d_Mo_rule_60 vc hP hD hS
    · exact absurd h (by decide)
  · have vc := vc.2 h
    refine lv_iload_n hx hb d_Mo_rule_9 rfl (lv_at hl 2 rfl) ?_
    refine lv_if_lt (tgt := 33) hx hb d_Mo_rule_10 (by decide) (fun h => ?_) (fun h => ?_)
    · have vc := vc.1 h
      refine lv_iconst (v := 1) hx hb d_Mo_rule_33 (by decide) ?_
      refine lv_goto (tgt := 38) hx hb d_Mo_rule_34 (by decide) ?_
      refine va_put (D := D) (ci := 6) (v := .int 1) (ty := .int) (C := R_Mo) (T := F_Mo) (N := 27) hx hb hts in_Mo t_Mo t_Mo_ok n_Mo hown hK hP hD hS 0 rfl rfl 0 (by decide) (hts _ fl_Mo_78) (fun _ h => h) rfl (by decide +kernel) rfl rfl (Nat.le_of_ble_eq_true rfl) d_Mo_rule_38 (fun H locs hP hD hS => ?_)
      have hP : va_P D vwCl (wM b cI cJ cZ mki msz mle mel mme mal mic mil mio mab mae msa mlc mli mna mva mma mch mre mlv mwr msh 1 mnv mns mfa mmo) H := hP
      have hD : va_D A (wM b cI cJ cZ mki msz mle mel mme mal mic mil mio mab mae msa mlc mli mna mva mma mch mre mlv mwr msh 1 mnv mns mfa mmo) := hD
      refine lv_aload_n hx hb d_Mo_rule_41 rfl (lv_at hl 0 rfl) ?_
      refine va_get (D := D) (ci := 6) (v := .int 1) (C := R_Mo) (T := F_Mo) (N := 27) hx hb hts in_Mo hown hK hP 0 rfl rfl 0 (by decide) (hts _ fl_Mo_78) (fun _ h => h) rfl d_Mo_rule_42 ?_
      refine lv_if_ne (tgt := 60) hx hb d_Mo_rule_45 (by decide) (fun h => ?_) (fun h => ?_)
      · skip
        exact hret _ _ _ _ _ _ _ _ _ _ _ _ _ _ _ _ _ _ _ _ _ _ _ _ _ _ _ ls _ H locs d_Mo_rule_60 vc hP hD hS
      · exact absurd h (by decide)
    · have vc := vc.2 h
      refine lv_iload_n hx hb d_Mo_rule_13 rfl (lv_at hl 2 rfl) ?_
      refine lv_bipush (v := 28) hx hb d_Mo_rule_14 (by decide) ?_
      refine lv_icmp_gt (tgt := 33) hx hb d_Mo_rule_16 (by decide) (fun h => ?_) (fun h => ?_)
      · have vc := vc.1 h
        refine lv_iconst (v := 1) hx hb d_Mo_rule_33 (by decide) ?_
        refine lv_goto (tgt := 38) hx hb d_Mo_rule_34 (by decide) ?_
        refine va_put (D := D) (ci := 6) (v := .int 1) (ty := .int) (C := R_Mo) (T := F_Mo) (N := 27) hx hb hts in_Mo t_Mo t_Mo_ok n_Mo hown hK hP hD hS 0 rfl rfl 0 (by decide) (hts _ fl_Mo_78) (fun _ h => h) rfl (by decide +kernel) rfl rfl (Nat.le_of_ble_eq_true rfl) d_Mo_rule_38 (fun H locs hP hD hS => ?_)
        have hP : va_P D vwCl (wM b cI cJ cZ mki msz mle mel mme mal mic mil mio mab mae msa mlc mli mna mva mma mch mre mlv mwr msh 1 mnv mns mfa mmo) H := hP
        have hD : va_D A (wM b cI cJ cZ mki msz mle mel mme mal mic mil mio mab mae msa mlc mli mna mva mma mch mre mlv mwr msh 1 mnv mns mfa mmo) := hD
        refine lv_aload_n hx hb d_Mo_rule_41 rfl (lv_at hl 0 rfl) ?_
        refine va_get (D := D) (ci := 6) (v := .int 1) (C := R_Mo) (T := F_Mo) (N := 27) hx hb hts in_Mo hown hK hP 0 rfl rfl 0 (by decide) (hts _ fl_Mo_78) (fun _ h => h) rfl d_Mo_rule_42 ?_
        refine lv_if_ne (tgt := 60) hx hb d_Mo_rule_45 (by decide) (fun h => ?_) (fun h => ?_)
        · skip
          exact hret _ _ _ _ _ _ _ _ _ _ _ _ _ _ _ _ _ _ _ _ _ _ _ _ _ _ _ ls _ H locs d_Mo_rule_60 vc hP hD hS
        · exact absurd h (by decide)
      · have vc := vc.2 h
        refine lv_iload_n hx hb d_Mo_rule_19 rfl (lv_at hl 3 rfl) ?_
        refine lv_iconst (v := (-1)) hx hb d_Mo_rule_20 (by decide) ?_
        refine lv_icmp_eq (tgt := 37) hx hb d_Mo_rule_21 (by decide) (fun h => ?_) (fun h => ?_)
        · have vc := vc.1 h
          refine lv_iconst (v := 0) hx hb d_Mo_rule_37 (by decide) ?_
          refine va_put (D := D) (ci := 6) (v := .int 0) (ty := .int) (C := R_Mo) (T := F_Mo) (N := 27) hx hb hts in_Mo t_Mo t_Mo_ok n_Mo hown hK hP hD hS 0 rfl rfl 0 (by decide) (hts _ fl_Mo_78) (fun _ h => h) rfl (by decide +kernel) rfl rfl (Nat.le_of_ble_eq_true rfl) d_Mo_rule_38 (fun H locs hP hD hS => ?_)
          have hP : va_P D vwCl (wM b cI cJ cZ mki msz mle mel mme mal mic mil mio mab mae msa mlc mli mna mva mma mch mre mlv mwr msh 0 mnv mns mfa mmo) H := hP
          have hD : va_D A (wM b cI cJ cZ mki msz mle mel mme mal mic mil mio mab mae msa mlc mli mna mva mma mch mre mlv mwr msh 0 mnv mns mfa mmo) := hD
          refine lv_aload_n hx hb d_Mo_rule_41 rfl (lv_at hl 0 rfl) ?_
          refine va_get (D := D) (ci := 6) (v := .int 0) (C := R_Mo) (T := F_Mo) (N := 27) hx hb hts in_Mo hown hK hP 0 rfl rfl 0 (by decide) (hts _ fl_Mo_78) (fun _ h => h) rfl d_Mo_rule_42 ?_
          refine lv_if_ne (tgt := 60) hx hb d_Mo_rule_45 (by decide) (fun h => ?_) (fun h => ?_)
          · exact absurd h (by decide)
          · skip
            refine lv_aload_n hx hb d_Mo_rule_48 rfl (lv_at hl 0 rfl) ?_
            refine va_get (D := D) (ci := 6) (v := .ref (b 12)) (C := R_Mo) (T := F_Mo) (N := 27) hx hb hts in_Mo hown hK hP 0 rfl rfl 14 (by decide) (hts _ fl_Mo_45) (fun _ h => h) rfl d_Mo_rule_49 ?_
            refine lv_bipush (v := 29) hx hb d_Mo_rule_52 (by decide) ?_
            refine lv_iload_n hx hb d_Mo_rule_54 rfl (lv_at hl 1 rfl) ?_
            refine lv_imul hx hb d_Mo_rule_55 ?_
            refine lv_iload_n hx hb d_Mo_rule_56 rfl (lv_at hl 2 rfl) ?_
            refine lv_iadd hx hb d_Mo_rule_57 ?_
            refine lv_iload_n hx hb d_Mo_rule_58 rfl (lv_at hl 3 rfl) ?_
            obtain ⟨vcb, vc⟩ := vc
            refine va_iast hx hb hK hP hD hS 12 0 rfl rfl vcb d_Mo_rule_59 (fun H locs hP hD hS => ?_)
            have hP : va_P D vwCl (wM b cI cJ cZ mki msz mle mel mme mal mic mil mio mab mae (upd msa ((29 * x) + y : Int32).toNatClampNeg z) mlc mli mna mva mma mch mre mlv mwr msh 0 mnv mns mfa mmo) H := hP
            have hD : va_D A (wM b cI cJ cZ mki msz mle mel mme mal mic mil mio mab mae (upd msa ((29 * x) + y : Int32).toNatClampNeg z) mlc mli mna mva mma mch mre mlv mwr msh 0 mnv mns mfa mmo) := hD
            exact hret _ _ _ _ _ _ _ _ _ _ _ _ _ _ _ _ _ _ _ _ _ _ _ _ _ _ _ ls _ H locs d_Mo_rule_60 vc hP hD hS
        · have vc := vc.2 h
          refine lv_aload_n hx hb d_Mo_rule_24 rfl (lv_at hl 0 rfl) ?_
          refine lv_iload_n hx hb d_Mo_rule_25 rfl (lv_at hl 2 rfl) ?_
          refine lv_iload_n hx hb d_Mo_rule_26 rfl (lv_at hl 3 rfl) ?_
          obtain ⟨hpre, vc⟩ := vc
          refine pc_V (As := [.int y, .int z]) (rest := [.ref (b 0)]) S (c_Mo_takes l D b cI cJ cZ mki msz mle mel mme mal mic mil mio mab mae msa mlc mli mna mva mma mch mre mlv mwr msh mth mnv mns mfa mmo y z hpre) wB_blind k_Mo_takes i_Mo_takes e_Mo_takes o_Mo ml_Mo_134 hd_Mo_takes (Nat.le_trans (by decide) hRf) (Nat.le_trans (by decide) hRl) hRc (va_recv hK hP (q0 := 0) (ci := 6) rfl rfl) (wB_at hP hK) hl.1 rfl (Nat.le_of_ble_eq_true rfl) d_Mo_rule_27 ?_
          refine lv_if_ne (tgt := 37) hx hb d_Mo_rule_30 (by decide) (fun h => ?_) (fun h => ?_)
          · have vc := vc.1 h
            refine lv_iconst (v := 0) hx hb d_Mo_rule_37 (by decide) ?_
            refine va_put (D := D) (ci := 6) (v := .int 0) (ty := .int) (C := R_Mo) (T := F_Mo) (N := 27) hx hb hts in_Mo t_Mo t_Mo_ok n_Mo hown hK hP hD hS 0 rfl rfl 0 (by decide) (hts _ fl_Mo_78) (fun _ h => h) rfl (by decide +kernel) rfl rfl (Nat.le_of_ble_eq_true rfl) d_Mo_rule_38 (fun H locs hP hD hS => ?_)
            have hP : va_P D vwCl (wM b cI cJ cZ mki msz mle mel mme mal mic mil mio mab mae msa mlc mli mna mva mma mch mre mlv mwr msh 0 mnv mns mfa mmo) H := hP
            have hD : va_D A (wM b cI cJ cZ mki msz mle mel mme mal mic mil mio mab mae msa mlc mli mna mva mma mch mre mlv mwr msh 0 mnv mns mfa mmo) := hD
            refine lv_aload_n hx hb d_Mo_rule_41 rfl (lv_at hl 0 rfl) ?_
            refine va_get (D := D) (ci := 6) (v := .int 0) (C := R_Mo) (T := F_Mo) (N := 27) hx hb hts in_Mo hown hK hP 0 rfl rfl 0 (by decide) (hts _ fl_Mo_78) (fun _ h => h) rfl d_Mo_rule_42 ?_
            refine lv_if_ne (tgt := 60) hx hb d_Mo_rule_45 (by decide) (fun h => ?_) (fun h => ?_)
            · exact absurd h (by decide)
            · skip
              refine lv_aload_n hx hb d_Mo_rule_48 rfl (lv_at hl 0 rfl) ?_
              refine va_get (D := D) (ci := 6) (v := .ref (b 12)) (C := R_Mo) (T := F_Mo) (N := 27) hx hb hts in_Mo hown hK hP 0 rfl rfl 14 (by decide) (hts _ fl_Mo_45) (fun _ h => h) rfl d_Mo_rule_49 ?_
              refine lv_bipush (v := 29) hx hb d_Mo_rule_52 (by decide) ?_
              refine lv_iload_n hx hb d_Mo_rule_54 rfl (lv_at hl 1 rfl) ?_
              refine lv_imul hx hb d_Mo_rule_55 ?_
              refine lv_iload_n hx hb d_Mo_rule_56 rfl (lv_at hl 2 rfl) ?_
              refine lv_iadd hx hb d_Mo_rule_57 ?_
              refine lv_iload_n hx hb d_Mo_rule_58 rfl (lv_at hl 3 rfl) ?_
              obtain ⟨vcb, vc⟩ := vc
              refine va_iast hx hb hK hP hD hS 12 0 rfl rfl vcb d_Mo_rule_59 (fun H locs hP hD hS => ?_)
              have hP : va_P D vwCl (wM b cI cJ cZ mki msz mle mel mme mal mic mil mio mab mae (upd msa ((29 * x) + y : Int32).toNatClampNeg z) mlc mli mna mva mma mch mre mlv mwr msh 0 mnv mns mfa mmo) H := hP
              have hD : va_D A (wM b cI cJ cZ mki msz mle mel mme mal mic mil mio mab mae (upd msa ((29 * x) + y : Int32).toNatClampNeg z) mlc mli mna mva mma mch mre mlv mwr msh 0 mnv mns mfa mmo) := hD
              exact hret _ _ _ _ _ _ _ _ _ _ _ _ _ _ _ _ _ _ _ _ _ _ _ _ _ _ _ ls _ H locs d_Mo_rule_60 vc hP hD hS
          · have vc := vc.2 h
            refine lv_iconst (v := 1) hx hb d_Mo_rule_33 (by decide) ?_
            refine lv_goto (tgt := 38) hx hb d_Mo_rule_34 (by decide) ?_
            refine va_put (D := D) (ci := 6) (v := .int 1) (ty := .int) (C := R_Mo) (T := F_Mo) (N := 27) hx hb hts in_Mo t_Mo t_Mo_ok n_Mo hown hK hP hD hS 0 rfl rfl 0 (by decide) (hts _ fl_Mo_78) (fun _ h => h) rfl (by decide +kernel) rfl rfl (Nat.le_of_ble_eq_true rfl) d_Mo_rule_38 (fun H locs hP hD hS => ?_)
            have hP : va_P D vwCl (wM b cI cJ cZ mki msz mle mel mme mal mic mil mio mab mae msa mlc mli mna mva mma mch mre mlv mwr msh 1 mnv mns mfa mmo) H := hP
            have hD : va_D A (wM b cI cJ cZ mki msz mle mel mme mal mic mil mio mab mae msa mlc mli mna mva mma mch mre mlv mwr msh 1 mnv mns mfa mmo) := hD
            refine lv_aload_n hx hb d_Mo_rule_41 rfl (lv_at hl 0 rfl) ?_
            refine va_get (D := D) (ci := 6) (v := .int 1) (C := R_Mo) (T := F_Mo) (N := 27) hx hb hts in_Mo hown hK hP 0 rfl rfl 0 (by decide) (hts _ fl_Mo_78) (fun _ h => h) rfl d_Mo_rule_42 ?_
            refine lv_if_ne (tgt := 60) hx hb d_Mo_rule_45 (by decide) (fun h => ?_) (fun h => ?_)
            · skip
              exact hret _ _ _ _ _ _ _ _ _ _ _ _ _ _ _ _ _ _ _ _ _ _ _ _ _ _ _ ls _ H locs d_Mo_rule_60 vc hP hD hS
            · exact absurd h (by decide)
theorem h_Mo_rule (l : Launch) (D : va_G) (b : Nat → Nat) (cI cJ cZ : ClassId) (mki : Nat → Int32) (msz : Nat → Int64) (mle : Nat → Int32) (mel : Nat → Int32) (mme : Nat → Int32) (mal : Nat → Int32) (mic : Nat → Int32) (mil : Nat → Int32) (mio : Nat → Int32) (mab : Nat → Int32) (mae : Nat → Int32) (msa : Nat → Int32) (mlc : Nat → Int32) (mli : Nat → Int32) (mna : Nat → Int32) (mva : Nat → Int32) (mma : Nat → Int32) (mch : Nat → Int32) (mre : Nat → Int32) (mlv : Nat → Int32) (mwr : Nat → Int64) (msh : Nat → Int32) (mth : Int32) (mnv : Int32) (mns : Int32) (mfa : Int32) (mmo : Int32) (x : Int32) (y : Int32) (z : Int32) (mki' : Nat → Int32) (msz' : Nat → Int64) (mle' : Nat → Int32) (mel' : Nat → Int32) (mme' : Nat → Int32) (mal' : Nat → Int32) (mic' : Nat → Int32) (mil' : Nat → Int32) (mio' : Nat → Int32) (mab' : Nat → Int32) (mae' : Nat → Int32) (msa' : Nat → Int32) (mlc' : Nat → Int32) (mli' : Nat → Int32) (mna' : Nat → Int32) (mva' : Nat → Int32) (mma' : Nat → Int32) (mch' : Nat → Int32) (mre' : Nat → Int32) (mlv' : Nat → Int32) (mwr' : Nat → Int64) (msh' : Nat → Int32) (mth' : Int32) (mnv' : Int32) (mns' : Int32) (mfa' : Int32) (mmo' : Int32) (vc : V_Mo_rule mki msz mle mel mme mal mic mil mio mab mae msa mlc mli mna mva mma mch mre mlv mwr msh mth mnv mns mfa mmo x y z (fun mki msz mle mel mme mal mic mil mio mab mae msa mlc mli mna mva mma mch mre mlv mwr msh mth mnv mns mfa mmo => mki = mki' ∧ msz = msz' ∧ mle = mle' ∧ mel = mel' ∧ mme = mme' ∧ mal = mal' ∧ mic = mic' ∧ mil = mil' ∧ mio = mio' ∧ mab = mab' ∧ mae = mae' ∧ msa = msa' ∧ mlc = mlc' ∧ mli = mli' ∧ mna = mna' ∧ mva = mva' ∧ mma = mma' ∧ mch = mch' ∧ mre = mre' ∧ mlv = mlv' ∧ mwr = mwr' ∧ msh = msh' ∧ mth = mth' ∧ mnv = mnv' ∧ mns = mns' ∧ mfa = mfa' ∧ mmo = mmo')) : Wm (S := Unit) l y_Mo_rule b_Mo_rule 4 none 3 65 [.ref (b 0), .int x, .int y, .int z] D (tyA cI cJ cZ) (wM b cI cJ cZ mki msz mle mel mme mal mic mil mio mab mae msa mlc mli mna mva mma mch mre mlv mwr msh mth mnv mns mfa mmo) (fun _ => True) (fun _ => none) (fun _ => (wM b cI cJ cZ mki' msz' mle' mel' mme' mal' mic' mil' mio' mab' mae' msa' mlc' mli' mna' mva' mma' mch' mre' mlv' mwr' msh' mth' mnv' mns' mfa' mmo')) :=
  wm_v (by decide) (Nat.le_of_ble_eq_true rfl) (fun p e s m below meth c ls Q A S hK hP hD hA hS hl hret => g_Mo_rule S (Nat.le_refl _) (Nat.le_refl _) ⟨Nat.le_refl _, Nat.le_refl _⟩ D b cI cJ cZ mki msz mle mel mme mal mic mil mio mab mae msa mlc mli mna mva mma mch mre mlv mwr msh mth mnv mns mfa mmo x y z hK hP hD hA hS hl vc (fun mki msz mle mel mme mal mic mil mio mab mae msa mlc mli mna mva mma mch mre mlv mwr msh mth mnv mns mfa mmo ls pc H locs hd hv hP hD hS => by obtain ⟨rfl, rfl, rfl, rfl, rfl, rfl, rfl, rfl, rfl, rfl, rfl, rfl, rfl, rfl, rfl, rfl, rfl, rfl, rfl, rfl, rfl, rfl, rfl, rfl, rfl, rfl, rfl⟩ := hv; exact hret () ls pc H locs hd trivial hP hD hS))
theorem c_Mo_rule_1 (l : Launch) (D : va_G) (b : Nat → Nat) (cI cJ cZ : ClassId) (mki : Nat → Int32) (msz : Nat → Int64) (mle : Nat → Int32) (mel : Nat → Int32) (mme : Nat → Int32) (mal : Nat → Int32) (mic : Nat → Int32) (mil : Nat → Int32) (mio : Nat → Int32) (mab : Nat → Int32) (mae : Nat → Int32) (msa : Nat → Int32) (mlc : Nat → Int32) (mli : Nat → Int32) (mna : Nat → Int32) (mva : Nat → Int32) (mma : Nat → Int32) (mch : Nat → Int32) (mre : Nat → Int32) (mlv : Nat → Int32) (mwr : Nat → Int64) (msh : Nat → Int32) (mth : Int32) (mnv : Int32) (mns : Int32) (mfa : Int32) (mmo : Int32) (x : Int32) (y : Int32) (z : Int32) (hpre : (mnv ≤ 40 ∧ mns ≤ 24)) (hv1 : ¬ ((sHas mns x && (sIn y 0 28)) = true ∧ (z = -1 ∨ sTakes mki msz mnv mns y z = true))) : Wm (S := Unit) l y_Mo_rule b_Mo_rule 4 none 3 65 [.ref (b 0), .int x, .int y, .int z] D (tyA cI cJ cZ) (wM b cI cJ cZ mki msz mle mel mme mal mic mil mio mab mae msa mlc mli mna mva mma mch mre mlv mwr msh mth mnv mns mfa mmo) (fun _ => True) (fun _ => none) (fun _ => (wM b cI cJ cZ mki msz mle mel mme mal mic mil mio mab mae msa mlc mli mna mva mma mch mre mlv mwr msh 1 mnv mns mfa mmo)) := h_Mo_rule l D b cI cJ cZ mki msz mle mel mme mal mic mil mio mab mae msa mlc mli mna mva mma mch mre mlv mwr msh mth mnv mns mfa mmo x y z mki msz mle mel mme mal mic mil mio mab mae msa mlc mli mna mva mma mch mre mlv mwr msh 1 mnv mns mfa mmo (by
  unfold V_Mo_rule
  repeat' (first | apply br_c | apply br_d | apply pre_and hpre.1 | intro _)
  all_goals (first | (simp_all [add_sub1, bI, upd, sHas, sIn, sKind]; done) | (exfalso; simp_all only [le_nlt, and2, bI_eq, bI_ne, bnot_t, ite_true, ite_false, if_true, if_false, eq_self, sIn_i, sHas_i, sKind_iff, not_and, Classical.not_not, not_true_eq_false, not_false_eq_true, true_and, and_true, false_and, and_false, true_implies, false_implies, implies_true, imp_false, imp_self, or_false, false_or, not_or, or_true, true_or]; done) | skip))
theorem c_Mo_rule_2 (l : Launch) (D : va_G) (b : Nat → Nat) (cI cJ cZ : ClassId) (mki : Nat → Int32) (msz : Nat → Int64) (mle : Nat → Int32) (mel : Nat → Int32) (mme : Nat → Int32) (mal : Nat → Int32) (mic : Nat → Int32) (mil : Nat → Int32) (mio : Nat → Int32) (mab : Nat → Int32) (mae : Nat → Int32) (msa : Nat → Int32) (mlc : Nat → Int32) (mli : Nat → Int32) (mna : Nat → Int32) (mva : Nat → Int32) (mma : Nat → Int32) (mch : Nat → Int32) (mre : Nat → Int32) (mlv : Nat → Int32) (mwr : Nat → Int64) (msh : Nat → Int32) (mth : Int32) (mnv : Int32) (mns : Int32) (mfa : Int32) (mmo : Int32) (x : Int32) (y : Int32) (z : Int32) (hpre : (mnv ≤ 40 ∧ mns ≤ 24)) (hv1 : ¬ (¬ ((sHas mns x && (sIn y 0 28)) = true ∧ (z = -1 ∨ sTakes mki msz mnv mns y z = true)))) : Wm (S := Unit) l y_Mo_rule b_Mo_rule 4 none 3 65 [.ref (b 0), .int x, .int y, .int z] D (tyA cI cJ cZ) (wM b cI cJ cZ mki msz mle mel mme mal mic mil mio mab mae msa mlc mli mna mva mma mch mre mlv mwr msh mth mnv mns mfa mmo) (fun _ => True) (fun _ => none) (fun _ => (wM b cI cJ cZ mki msz mle mel mme mal mic mil mio mab mae (upd msa (29 * x + y : Int32).toNatClampNeg z) mlc mli mna mva mma mch mre mlv mwr msh 0 mnv mns mfa mmo)) := h_Mo_rule l D b cI cJ cZ mki msz mle mel mme mal mic mil mio mab mae msa mlc mli mna mva mma mch mre mlv mwr msh mth mnv mns mfa mmo x y z mki msz mle mel mme mal mic mil mio mab mae (upd msa (29 * x + y : Int32).toNatClampNeg z) mlc mli mna mva mma mch mre mlv mwr msh 0 mnv mns mfa mmo (by
  unfold V_Mo_rule
  have hx : vp_in (29 * x + y) 696 := by
    obtain ⟨r, hr, rfl, -⟩ := vp_nat (vp_sHas (N := 24) (Int32.le_iff_toInt_le.mp hpre.2) (and2.mp (Classical.not_not.mp hv1).1).1) (by decide)
    obtain ⟨k, h1, h2, rfl⟩ := sIn_nat (lo := 0) (hi := 28) (by decide) (by decide) (and2.mp (Classical.not_not.mp hv1).1).2
    rw [show (29 : Int32) = nI 29 from rfl, pk_mul, nI_add]
    exact vp_in_nI (by omega) (by decide)
  repeat' (first | apply br_c | apply br_d | apply pre_and hpre.1 | apply pre_and hx | intro _)
  all_goals (first | (simp_all [add_sub1, bI, upd, sHas, sIn, sKind]; done) | (exfalso; simp_all only [le_nlt, and2, bI_eq, bI_ne, bnot_t, ite_true, ite_false, if_true, if_false, eq_self, sIn_i, sHas_i, sKind_iff, not_and, Classical.not_not, not_true_eq_false, not_false_eq_true, true_and, and_true, false_and, and_false, true_implies, false_implies, implies_true, imp_false, imp_self, or_false, false_or, not_or, or_true, true_or]; done) | skip))
theorem hd_Mo_rule : y_Mo_rule.cls ≠ "java/lang/invoke/MethodHandle" ∧ y_Mo_rule.cls ≠ "java/lang/invoke/VarHandle" ∧ (parseMethodDescriptor y_Mo_rule.desc).map (fun d => d.parameters.length) = some 3 := ⟨by decide, by decide, by decide +kernel⟩
