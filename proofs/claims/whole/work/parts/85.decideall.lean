/-! ===== the model decides all pairs, the lesser first ===== -/
def OrdOK (msa mlc mli mna mre mlv : Nat → Int32) (m : Nat) : Prop :=
  (∀ t, t < 24 → ¬ mre t = 0 → t < m) ∧ (∀ t u, t < 24 → ¬ mre t = 0 → bt (sLIP msa mlc mli mna t ||| sLEW msa mlc mli mna t) u = true → u < m ∧ ¬ mre u = 0) ∧ (∀ t u, t < 24 → ¬ mre t = 0 → bt (sLIP msa mlc mli mna t) u = true → lvl mlv t < lvl mlv u) ∧ ∀ t, t < 24 → ∃ c, c ≤ 24 ∧ mlv t = nI c
theorem IPc_bit {G : Sp} {n s x : Nat} (hn : n ≤ 24) (h : LdOK (gRu G) (gLe G) (gLi G) (gBn G) n) (hl : ∀ s k i, s < 24 → k < 4 → i < (gLe G (s * 4 + k)).toNatClampNeg → ∃ q, q < n ∧ gLi G ((s * 4 + k) * 3 + i) = nI q) (hs : s < 24) (hx : IPc G s x) : x < n ∧ bt (sLIP (gRu G) (gLe G) (gLi G) (gBn G) s) x = true := by
  have key : ∀ z : Int32, okx z n → ¬ z < 0 → x = z.toNatClampNeg → x < n ∧ z = nI x := fun z ho h0 e => by
    obtain ⟨q, hq, rfl⟩ := okx_nn ho h0
    rw [nI_clamp (by omega)] at e; subst e; exact ⟨hq, rfl⟩
  rcases hx with ⟨k, h1, h2, h3, h4⟩ | ⟨k, i, h1, h2, h3⟩ | ⟨i, h1, h2, h3⟩
  · obtain ⟨a1, a2⟩ := key _ ((h s hs).1 k h1 (by omega) (by omega) (by omega)) h3 h4
    exact ⟨a1, (LIP_iff hn h hs).mpr ⟨by omega, Or.inl ⟨k, h1, by omega, a2⟩⟩⟩
  · obtain ⟨q, hq, e⟩ := hl s k i hs (by omega) h2
    have hxq : x = q := by rw [h3]; unfold lsV; rw [e]; exact nI_clamp (by omega)
    subst hxq
    exact ⟨hq, (LIP_iff hn h hs).mpr ⟨by omega, Or.inr (Or.inl ⟨k, i, h1, h2, e⟩)⟩⟩
  · obtain ⟨a1, a2⟩ := key _ ((h s hs).2.2 1 i (by decide) h1) h2 h3
    exact ⟨a1, (LIP_iff hn h hs).mpr ⟨by omega, Or.inr (Or.inr ⟨i, h1, a2⟩)⟩⟩
theorem ELc_bit {G : Sp} {n s x : Nat} (hn : n ≤ 24) (h : LdOK (gRu G) (gLe G) (gLi G) (gBn G) n) (hl : ∀ s k i, s < 24 → k < 4 → i < (gLe G (s * 4 + k)).toNatClampNeg → ∃ q, q < n ∧ gLi G ((s * 4 + k) * 3 + i) = nI q) (hs : s < 24) (hx : ELc G s x) : x < n ∧ bt (sLIP (gRu G) (gLe G) (gLi G) (gBn G) s ||| sLEW (gRu G) (gLe G) (gLi G) (gBn G) s) x = true := by
  have key : ∀ z : Int32, okx z n → ¬ z < 0 → x = z.toNatClampNeg → x < n ∧ z = nI x := fun z ho h0 e => by
    obtain ⟨q, hq, rfl⟩ := okx_nn ho h0
    rw [nI_clamp (by omega)] at e; subst e; exact ⟨hq, rfl⟩
  rcases hx with ⟨k, h1, h3, h4⟩ | ⟨i, h2, h3⟩ | ⟨i, h1, h2, h3⟩
  · obtain ⟨a1, a2⟩ := key _ ((h s hs).1 k (by omega) (by omega) (by omega) (by omega)) h3 h4
    exact ⟨a1, (LAN_iff hn h hs).mpr ⟨by omega, Or.inl ⟨k, by omega, by omega, by omega, by omega, a2⟩⟩⟩
  · obtain ⟨q, hq, e⟩ := hl s 3 i hs (by omega) h2
    have hxq : x = q := by rw [h3]; unfold lsV; rw [e]; exact nI_clamp (by omega)
    subst hxq
    exact ⟨hq, (LAN_iff hn h hs).mpr ⟨by omega, Or.inr (Or.inl ⟨3, i, by decide, h2, e⟩)⟩⟩
  · obtain ⟨a1, a2⟩ := key _ ((h s hs).2.2 0 i (by decide) h1) h2 h3
    exact ⟨a1, (LAN_iff hn h hs).mpr ⟨by omega, Or.inr (Or.inr ⟨0, i, by decide, h1, a2⟩)⟩⟩
/-- the answer that decide gives is right, if those of the asked pairs are -/
theorem Fixed.decide {G G' : Sp} {s v : Nat} {b : Bool} {z : Int32} (hO : Oth G G') (hb : b = true ↔ ∀ k, k < 36 → ¬ Bad G s v k) (hz : ∀ i, i < 32 → (bt z i = true ↔ (((ruH G s 27 ∧ gK G v = 5) ∨ (ruH G s 28 ∧ gK G v = 4)) ∧ gPb G v i) ∨ (¬ ((ruH G s 27 ∧ gK G v = 5) ∨ (ruH G s 28 ∧ gK G v = 4)) ∧ Mrk0 G s v i)))
    (h12 : ∀ i, gPb G v i → i < 12) (hva : gVa G' s v ↔ b = true) (hmk : ∀ i, gMk G' s v i ↔ b = true ∧ bt z i = true) (hi : ∀ x, IPc G s x → (gVa G x v ↔ gVa G' x v) ∧ ∀ i, (gMk G x v i ↔ gMk G' x v i)) (he : ∀ x i, ELc G s x → i < 12 → gPb G v i → (gVa G x (gPt G v i) ↔ gVa G' x (gPt G v i))) (hp : ∀ x, IPc G s x → ∀ i, gMk G x v i → gPb G v i) : Fixed G' s v := by
  obtain ⟨c1, c2, _⟩ := Oth_congr hO hi he
  have eB : gPb G' = gPb G := by obtain ⟨va, mk, rfl⟩ := hO; rfl
  have eK : gK G' = gK G := by obtain ⟨va, mk, rfl⟩ := hO; rfl
  have rH : ∀ k, ruH G' s k = ruH G s k := fun k => by obtain ⟨va, mk, rfl⟩ := hO; rfl
  have sub : ∀ i, Mrk0 G s v i → gPb G v i := fun i q => Mrk0_pb hp q
  have m1 : ∀ i, Mrk1 G' s v i ↔ bt z i = true := fun i => by
    have hlt : ∀ {P : Prop}, (P → gPb G v i) → (bt z i = true → P) → (P → i < 32 → bt z i = true) → (P ↔ bt z i = true) := fun h1 h2 h3 => ⟨fun p => h3 p (by have := h12 i (h1 p); omega), h2⟩
    have z32 : bt z i = true → i < 32 := fun q => by
      rcases Nat.lt_or_ge i 32 with w | w
      · exact w
      · rw [b_big w] at q; exact absurd q (by decide)
    unfold Mrk1 MrkUn; rw [eK, eB, rH, rH, ← c1 i]
    refine hlt ?_ ?_ ?_
    · rintro (q | ⟨_, _, _, q, _⟩ | ⟨_, _, _, q, _⟩)
      · exact sub i q
      · exact q
      · exact q
    · intro q
      rcases (hz i (z32 q)).mp q with ⟨c | c, q2⟩ | ⟨_, q2⟩
      · by_cases w : Mrk0 G s v i
        · exact Or.inl w
        · exact Or.inr (Or.inr ⟨c.2, c.1, h12 i q2, q2, w⟩)
      · by_cases w : Mrk0 G s v i
        · exact Or.inl w
        · exact Or.inr (Or.inl ⟨c.2, c.1, h12 i q2, q2, w⟩)
      · exact Or.inl q2
    · intro q hi32
      rw [hz i hi32]
      by_cases c : (ruH G s 27 ∧ gK G v = 5) ∨ (ruH G s 28 ∧ gK G v = 4)
      · refine Or.inl ⟨c, ?_⟩
        rcases q with q | ⟨_, _, _, q, _⟩ | ⟨_, _, _, q, _⟩
        · exact sub i q
        · exact q
        · exact q
      · refine Or.inr ⟨c, ?_⟩
        rcases q with q | ⟨q1, q2, _⟩ | ⟨q1, q2, _⟩
        · exact q
        · exact absurd (Or.inr ⟨q2, q1⟩) c
        · exact absurd (Or.inl ⟨q2, q1⟩) c
  refine ⟨?_, fun i => ?_, fun i q => ?_⟩
  · rw [hva, hb]; exact forall_congr' (fun k => forall_congr' (fun _ => not_congr (c2 k)))
  · rw [hmk, hva, m1]
  · rw [hmk] at q
    rw [eB]
    have := (m1 i).mpr q.2
    rw [show Mrk1 G' s v i ↔ bt z i = true from m1 i] at this
    have hi32 : i < 32 := by
      rcases Nat.lt_or_ge i 32 with w | w
      · exact w
      · rw [b_big w] at this; exact absurd this (by decide)
    rcases (hz i hi32).mp this with ⟨_, w⟩ | ⟨_, w⟩
    · exact w
    · exact sub i w
def V_Mo_decideAll (mki : Nat → Int32) (msz : Nat → Int64) (mle : Nat → Int32) (mel : Nat → Int32) (mme : Nat → Int32) (mal : Nat → Int32) (mic : Nat → Int32) (mil : Nat → Int32) (mio : Nat → Int32) (mab : Nat → Int32) (mae : Nat → Int32) (msa : Nat → Int32) (mlc : Nat → Int32) (mli : Nat → Int32) (mna : Nat → Int32) (mva : Nat → Int32) (mma : Nat → Int32) (mch : Nat → Int32) (mre : Nat → Int32) (mlv : Nat → Int32) (mwr : Nat → Int64) (msh : Nat → Int32) (mth : Int32) (mnv : Int32) (mns : Int32) (mfa : Int32) (mmo : Int32) (x : Int32) (post : (Nat → Int32) → (Nat → Int64) → (Nat → Int32) → (Nat → Int32) → (Nat → Int32) → (Nat → Int32) → (Nat → Int32) → (Nat → Int32) → (Nat → Int32) → (Nat → Int32) → (Nat → Int32) → (Nat → Int32) → (Nat → Int32) → (Nat → Int32) → (Nat → Int32) → (Nat → Int32) → (Nat → Int32) → (Nat → Int32) → (Nat → Int32) → (Nat → Int32) → (Nat → Int64) → (Nat → Int32) → Int32 → Int32 → Int32 → Int32 → Int32 → Prop) : Prop :=
  (∃ (I28 : Int32 → (Nat → Int32) → (Nat → Int32) → Prop) (mI28 : Int32 → (Nat → Int32) → (Nat → Int32) → Nat), I28 0 mva mma ∧ (∀ (x25 : Int32) (f26 : Nat → Int32) (f27 : Nat → Int32), I28 x25 f26 f27 → ((x < x25 → post mki msz mle mel mme mal mic mil mio mab mae msa mlc mli mna f26 f27 mch mre mlv mwr msh mth mnv mns mfa mmo) ∧ (¬ x < x25 → (∃ (I42 : Int32 → (Nat → Int32) → (Nat → Int32) → Prop) (mI42 : Int32 → (Nat → Int32) → (Nat → Int32) → Nat), I42 26 f26 f27 ∧ (∀ (x39 : Int32) (f40 : Nat → Int32) (f41 : Nat → Int32), I42 x39 f40 f41 → ((x39 < 0 → (I28 (x25 + 1) f40 f41 ∧ mI28 (x25 + 1) f40 f41 < mI28 x25 f26 f27)) ∧ (¬ x39 < 0 → (∃ (I49 : Int32 → (Nat → Int32) → (Nat → Int32) → Prop) (mI49 : Int32 → (Nat → Int32) → (Nat → Int32) → Nat), I49 0 f40 f41 ∧ (∀ (x46 : Int32) (f47 : Nat → Int32) (f48 : Nat → Int32), I49 x46 f47 f48 → ((mns ≤ x46 → (I42 (x39 + (-1)) f47 f48 ∧ mI42 (x39 + (-1)) f47 f48 < mI42 x39 f40 f41)) ∧ (¬ mns ≤ x46 → (vp_in x46 24 ∧ (((mre x46.toNatClampNeg) = 0 → (I49 (x46 + 1) f47 f48 ∧ mI49 (x46 + 1) f47 f48 < mI49 x46 f47 f48)) ∧ (¬ (mre x46.toNatClampNeg) = 0 → (vp_in x46 24 ∧ ((¬ (mlv x46.toNatClampNeg) = x39 → (I49 (x46 + 1) f47 f48 ∧ mI49 (x46 + 1) f47 f48 < mI49 x46 f47 f48)) ∧ ((mlv x46.toNatClampNeg) = x39 → ((∃ n0 m0 s0 v0 : Nat, mnv = nI n0 ∧ mns = nI m0 ∧ MSOK mki msz mle mel mme mic mio msa mlc mli mna f47 n0 m0 ∧ s0 < m0 ∧ v0 < n0 ∧ x46 = nI s0 ∧ x25 = nI v0) ∧ (∀ (f50 : Nat → Int32) (f51 : Nat → Int32), ((∃ (b : Bool) (z : Int32), f50 = upd f47 (40 * x46.toNatClampNeg + x25.toNatClampNeg) (bI b) ∧ f51 = upd f48 (40 * x46.toNatClampNeg + x25.toNatClampNeg) (if b = true then z else 0) ∧ ∀ G : Sp, G = gM mki msz mle mel mme mal mic mil mio mab mae msa mlc mli mna f47 f48 mnv.toNatClampNeg → (b = true ↔ ∀ k, k < 36 → ¬ Bad G x46.toNatClampNeg x25.toNatClampNeg k) ∧ ∀ i, i < 32 → (bt z i = true ↔ (((ruH G x46.toNatClampNeg 27 ∧ gK G x25.toNatClampNeg = 5) ∨ (ruH G x46.toNatClampNeg 28 ∧ gK G x25.toNatClampNeg = 4)) ∧ gPb G x25.toNatClampNeg i) ∨ (¬ ((ruH G x46.toNatClampNeg 27 ∧ gK G x25.toNatClampNeg = 5) ∨ (ruH G x46.toNatClampNeg 28 ∧ gK G x25.toNatClampNeg = 4)) ∧ Mrk0 G x46.toNatClampNeg x25.toNatClampNeg i)))) → (I49 (x46 + 1) f50 f51 ∧ mI49 (x46 + 1) f50 f51 < mI49 x46 f47 f48)))))))))))))))))))))
set_option maxHeartbeats 4000000 in
set_option maxRecDepth 100000 in
theorem g_Mo_decideAll {p : Program} {l : Launch} {e : Env} {R : Room} {s : State} {m : MethodId} {args : Array Value} {below : List Frame} {meth : Method} {c : Code} {H : Heap} {locs : List Loc} {cells slots : Nat} {Q : State → Prop} {ls : Array Slot} {A : Nat → Prop} (S : CallFix p m c b_Mo_decideAll 5 s args W0 R_Mo) (hRf : 7 ≤ R.frames) (hRl : 167 ≤ R.locals) (hRc : cells ≤ R.cells ∧ slots ≤ R.slots) (D : va_G) (b : Nat → Nat) (cI cJ cZ : ClassId) (mki : Nat → Int32) (msz : Nat → Int64) (mle : Nat → Int32) (mel : Nat → Int32) (mme : Nat → Int32) (mal : Nat → Int32) (mic : Nat → Int32) (mil : Nat → Int32) (mio : Nat → Int32) (mab : Nat → Int32) (mae : Nat → Int32) (msa : Nat → Int32) (mlc : Nat → Int32) (mli : Nat → Int32) (mna : Nat → Int32) (mva : Nat → Int32) (mma : Nat → Int32) (mch : Nat → Int32) (mre : Nat → Int32) (mlv : Nat → Int32) (mwr : Nat → Int64) (msh : Nat → Int32) (mth : Int32) (mnv : Int32) (mns : Int32) (mfa : Int32) (mmo : Int32) (x : Int32) (hK : va_K D vwCl (tyA cI cJ cZ) s) (hP : va_P D vwCl (wM b cI cJ cZ mki msz mle mel mme mal mic mil mio mab mae msa mlc mli mna mva mma mch mre mlv mwr msh mth mnv mns mfa mmo) H) (hD : va_D A (wM b cI cJ cZ mki msz mle mel mme mal mic mil mio mab mae msa mlc mli mna mva mma mch mre mlv mwr msh mth mnv mns mfa mmo)) (hA : ∀ q, s.heap.size ≤ q → A q) (hS : va_S A s.heap H locs) (hl : lv_has ls 5 [(0, .ref (b 0)), (1, .int x)]) {post : (Nat → Int32) → (Nat → Int64) → (Nat → Int32) → (Nat → Int32) → (Nat → Int32) → (Nat → Int32) → (Nat → Int32) → (Nat → Int32) → (Nat → Int32) → (Nat → Int32) → (Nat → Int32) → (Nat → Int32) → (Nat → Int32) → (Nat → Int32) → (Nat → Int32) → (Nat → Int32) → (Nat → Int32) → (Nat → Int32) → (Nat → Int32) → (Nat → Int32) → (Nat → Int64) → (Nat → Int32) → Int32 → Int32 → Int32 → Int32 → Int32 → Prop} (vc : V_Mo_decideAll mki msz mle mel mme mal mic mil mio mab mae msa mlc mli mna mva mma mch mre mlv mwr msh mth mnv mns mfa mmo x post)
    (hret : ∀ (mki : Nat → Int32) (msz : Nat → Int64) (mle : Nat → Int32) (mel : Nat → Int32) (mme : Nat → Int32) (mal : Nat → Int32) (mic : Nat → Int32) (mil : Nat → Int32) (mio : Nat → Int32) (mab : Nat → Int32) (mae : Nat → Int32) (msa : Nat → Int32) (mlc : Nat → Int32) (mli : Nat → Int32) (mna : Nat → Int32) (mva : Nat → Int32) (mma : Nat → Int32) (mch : Nat → Int32) (mre : Nat → Int32) (mlv : Nat → Int32) (mwr : Nat → Int64) (msh : Nat → Int32) (mth : Int32) (mnv : Int32) (mns : Int32) (mfa : Int32) (mmo : Int32) (ls : Array Slot) (pc : Nat) (H : Heap) (locs : List Loc), decode b_Mo_decideAll pc = .ok (.return_, 1) → post mki msz mle mel mme mal mic mil mio mab mae msa mlc mli mna mva mma mch mre mlv mwr msh mth mnv mns mfa mmo → va_P D vwCl (wM b cI cJ cZ mki msz mle mel mme mal mic mil mio mab mae msa mlc mli mna mva mma mch mre mlv mwr msh mth mnv mns mfa mmo) H → va_D A (wM b cI cJ cZ mki msz mle mel mme mal mic mil mio mab mae msa mlc mli mna mva mma mch mre mlv mwr msh mth mnv mns mfa mmo) → va_S A s.heap H locs → W p l e R s m args below meth c H locs cells slots Q (F0 m pc ls [])) : W p l e R s m args below meth c H locs cells slots Q (F0 m 0 ls []) := by
  have hx := S.1
  have hb := S.2.1
  have hown := S.2.2.2.1
  have hts := S.2.2.2.2
  unfold V_Mo_decideAll at vc
  refine lv_iconst (v := 0) hx hb d_Mo_decideAll_0 (by decide) ?_
  refine lv_istore_n hx hb d_Mo_decideAll_1 rfl hl (by decide) (lv' := [(2, .int 0), (0, .ref (b 0)), (1, .int x)]) rfl (fun ls hl => ?_)
  obtain ⟨I28, mI28, vc0, vcs⟩ := vc
  have lI28 : ∀ n : Nat, ∀ (x25 : Int32) (f26 : Nat → Int32) (f27 : Nat → Int32) (ls : Array Slot) (H : Heap) (locs : List Loc), I28 x25 f26 f27 → mI28 x25 f26 f27 < n → lv_has ls 5 [(0, .ref (b 0)), (1, .int x), (2, .int x25)] → va_P D vwCl (wM b cI cJ cZ mki msz mle mel mme mal mic mil mio mab mae msa mlc mli mna f26 f27 mch mre mlv mwr msh mth mnv mns mfa mmo) H → va_D A (wM b cI cJ cZ mki msz mle mel mme mal mic mil mio mab mae msa mlc mli mna f26 f27 mch mre mlv mwr msh mth mnv mns mfa mmo) → va_S A s.heap H locs → W p l e R s m args below meth c H locs cells slots Q (F0 m 2 ls []) := by
    intro n
    induction n with
    | zero => intro x25 f26 f27 ls H locs _ h; exact absurd h (Nat.not_lt_zero _)
    | succ n ihI28 =>
      intro x25 f26 f27 ls H locs vc hmI28 hl hP hD hS
      have vc := vcs x25 f26 f27 vc
      refine lv_iload_n hx hb d_Mo_decideAll_2 rfl (lv_at hl 2 rfl) ?_
      refine lv_iload_n hx hb d_Mo_decideAll_3 rfl (lv_at hl 1 rfl) ?_
      refine lv_icmp_gt (tgt := 72) hx hb d_Mo_decideAll_4 (by decide) (fun h => ?_) (fun h => ?_)
      · have vc := vc.1 h
        exact hret _ _ _ _ _ _ _ _ _ _ _ _ _ _ _ _ _ _ _ _ _ _ _ _ _ _ _ ls _ H locs d_Mo_decideAll_72 vc hP hD hS
      · have vc := vc.2 h
        refine lv_bipush (v := 26) hx hb d_Mo_decideAll_7 (by decide) ?_
        refine lv_istore_n hx hb d_Mo_decideAll_9 rfl hl (by decide) (lv' := [(3, .int 26), (0, .ref (b 0)), (1, .int x), (2, .int x25)]) rfl (fun ls hl => ?_)
        obtain ⟨I42, mI42, vc0, vcs⟩ := vc
        have lI42 : ∀ n : Nat, ∀ (x39 : Int32) (f40 : Nat → Int32) (f41 : Nat → Int32) (ls : Array Slot) (H : Heap) (locs : List Loc), I42 x39 f40 f41 → mI42 x39 f40 f41 < n → lv_has ls 5 [(0, .ref (b 0)), (1, .int x), (2, .int x25), (3, .int x39)] → va_P D vwCl (wM b cI cJ cZ mki msz mle mel mme mal mic mil mio mab mae msa mlc mli mna f40 f41 mch mre mlv mwr msh mth mnv mns mfa mmo) H → va_D A (wM b cI cJ cZ mki msz mle mel mme mal mic mil mio mab mae msa mlc mli mna f40 f41 mch mre mlv mwr msh mth mnv mns mfa mmo) → va_S A s.heap H locs → W p l e R s m args below meth c H locs cells slots Q (F0 m 10 ls []) := by
          intro n
          induction n with
          | zero => intro x39 f40 f41 ls H locs _ h; exact absurd h (Nat.not_lt_zero _)
          | succ n ihI42 =>
            intro x39 f40 f41 ls H locs vc hmI42 hl hP hD hS
            have vc := vcs x39 f40 f41 vc
            refine lv_iload_n hx hb d_Mo_decideAll_10 rfl (lv_at hl 3 rfl) ?_
            refine lv_if_lt (tgt := 66) hx hb d_Mo_decideAll_11 (by decide) (fun h => ?_) (fun h => ?_)
            · have vc := vc.1 h
              refine lv_iinc (k := 2) (v := x25 + 1) hx hb d_Mo_decideAll_66 hl rfl rfl (by decide) (lv' := [(2, .int (x25 + 1)), (0, .ref (b 0)), (1, .int x), (3, .int x39)]) rfl (fun ls hl => ?_)
              refine lv_goto (tgt := 2) hx hb d_Mo_decideAll_69 (by decide) ?_
              exact ihI28 (x25 + 1) f40 f41 ls H locs vc.1 (Nat.lt_of_lt_of_le vc.2 (Nat.le_of_lt_succ hmI28)) (lv_sub hl [1, 2, 0] rfl) hP hD hS
            · have vc := vc.2 h
              refine lv_iconst (v := 0) hx hb d_Mo_decideAll_14 (by decide) ?_
              refine lv_istore hx hb d_Mo_decideAll_15 hl (by decide) (lv' := [(4, .int 0), (0, .ref (b 0)), (1, .int x), (2, .int x25), (3, .int x39)]) rfl (fun ls hl => ?_)
              obtain ⟨I49, mI49, vc0, vcs⟩ := vc
              have lI49 : ∀ n : Nat, ∀ (x46 : Int32) (f47 : Nat → Int32) (f48 : Nat → Int32) (ls : Array Slot) (H : Heap) (locs : List Loc), I49 x46 f47 f48 → mI49 x46 f47 f48 < n → lv_has ls 5 [(0, .ref (b 0)), (1, .int x), (2, .int x25), (3, .int x39), (4, .int x46)] → va_P D vwCl (wM b cI cJ cZ mki msz mle mel mme mal mic mil mio mab mae msa mlc mli mna f47 f48 mch mre mlv mwr msh mth mnv mns mfa mmo) H → va_D A (wM b cI cJ cZ mki msz mle mel mme mal mic mil mio mab mae msa mlc mli mna f47 f48 mch mre mlv mwr msh mth mnv mns mfa mmo) → va_S A s.heap H locs → W p l e R s m args below meth c H locs cells slots Q (F0 m 17 ls []) := by
                intro n
                induction n with
                | zero => intro x46 f47 f48 ls H locs _ h; exact absurd h (Nat.not_lt_zero _)
                | succ n ihI49 =>
                  intro x46 f47 f48 ls H locs vc hmI49 hl hP hD hS
                  have vc := vcs x46 f47 f48 vc
                  refine lv_iload hx hb d_Mo_decideAll_17 (lv_at hl 4 rfl) ?_
                  refine lv_aload_n hx hb d_Mo_decideAll_19 rfl (lv_at hl 0 rfl) ?_
                  refine va_get (D := D) (ci := 6) (v := .int mns) (C := R_Mo) (T := F_Mo) (N := 27) hx hb hts in_Mo hown hK hP 0 rfl rfl 13 (by decide) (hts _ fl_Mo_128) (fun _ h => h) rfl d_Mo_decideAll_20 ?_
                  refine lv_icmp_ge (tgt := 60) hx hb d_Mo_decideAll_23 (by decide) (fun h => ?_) (fun h => ?_)
                  · have vc := vc.1 h
                    refine lv_iinc (k := 3) (v := x39 + (-1)) hx hb d_Mo_decideAll_60 hl rfl rfl (by decide) (lv' := [(3, .int (x39 + (-1))), (0, .ref (b 0)), (1, .int x), (2, .int x25), (4, .int x46)]) rfl (fun ls hl => ?_)
                    refine lv_goto (tgt := 10) hx hb d_Mo_decideAll_63 (by decide) ?_
                    exact ihI42 (x39 + (-1)) f47 f48 ls H locs vc.1 (Nat.lt_of_lt_of_le vc.2 (Nat.le_of_lt_succ hmI42)) (lv_sub hl [1, 2, 3, 0] rfl) hP hD hS
                  · have vc := vc.2 h
                    refine lv_aload_n hx hb d_Mo_decideAll_26 rfl (lv_at hl 0 rfl) ?_
                    refine va_get (D := D) (ci := 6) (v := .ref (b 19)) (C := R_Mo) (T := F_Mo) (N := 27) hx hb hts in_Mo hown hK hP 0 rfl rfl 21 (by decide) (hts _ fl_Mo_66) (fun _ h => h) rfl d_Mo_decideAll_27 ?_
                    refine lv_iload hx hb d_Mo_decideAll_30 (lv_at hl 4 rfl) ?_
                    obtain ⟨vcb, vc⟩ := vc
                    refine va_zald hx hb hK hP 19 2 rfl rfl vcb d_Mo_decideAll_32 ?_
                    refine lv_if_eq (tgt := 54) hx hb d_Mo_decideAll_33 (by decide) (fun h => ?_) (fun h => ?_)
                    · have vc := vc.1 h
                      refine lv_iinc (k := 4) (v := x46 + 1) hx hb d_Mo_decideAll_54 hl rfl rfl (by decide) (lv' := [(4, .int (x46 + 1)), (0, .ref (b 0)), (1, .int x), (2, .int x25), (3, .int x39)]) rfl (fun ls hl => ?_)
                      refine lv_goto (tgt := 17) hx hb d_Mo_decideAll_57 (by decide) ?_
                      exact ihI49 (x46 + 1) f47 f48 ls H locs vc.1 (Nat.lt_of_lt_of_le vc.2 (Nat.le_of_lt_succ hmI49)) (lv_sub hl [1, 2, 3, 4, 0] rfl) hP hD hS
                    · have vc := vc.2 h
                      refine lv_aload_n hx hb d_Mo_decideAll_36 rfl (lv_at hl 0 rfl) ?_
                      refine va_get (D := D) (ci := 6) (v := .ref (b 20)) (C := R_Mo) (T := F_Mo) (N := 27) hx hb hts in_Mo hown hK hP 0 rfl rfl 22 (by decide) (hts _ fl_Mo_69) (fun _ h => h) rfl d_Mo_decideAll_37 ?_
                      refine lv_iload hx hb d_Mo_decideAll_40 (lv_at hl 4 rfl) ?_
                      obtain ⟨vcb, vc⟩ := vc
                      refine va_iald hx hb hK hP 20 0 rfl rfl vcb d_Mo_decideAll_42 ?_
                      refine lv_iload_n hx hb d_Mo_decideAll_43 rfl (lv_at hl 3 rfl) ?_
                      refine lv_icmp_ne (tgt := 54) hx hb d_Mo_decideAll_44 (by decide) (fun h => ?_) (fun h => ?_)
                      · have vc := vc.1 h
                        refine lv_iinc (k := 4) (v := x46 + 1) hx hb d_Mo_decideAll_54 hl rfl rfl (by decide) (lv' := [(4, .int (x46 + 1)), (0, .ref (b 0)), (1, .int x), (2, .int x25), (3, .int x39)]) rfl (fun ls hl => ?_)
                        refine lv_goto (tgt := 17) hx hb d_Mo_decideAll_57 (by decide) ?_
                        exact ihI49 (x46 + 1) f47 f48 ls H locs vc.1 (Nat.lt_of_lt_of_le vc.2 (Nat.le_of_lt_succ hmI49)) (lv_sub hl [1, 2, 3, 4, 0] rfl) hP hD hS
                      · have vc := vc.2 h
                        refine lv_aload_n hx hb d_Mo_decideAll_47 rfl (lv_at hl 0 rfl) ?_
                        refine lv_iload hx hb d_Mo_decideAll_48 (lv_at hl 4 rfl) ?_
                        refine lv_iload_n hx hb d_Mo_decideAll_50 rfl (lv_at hl 2 rfl) ?_
                        obtain ⟨hpre, vc⟩ := vc
                        refine wc_V (As := [.int x46, .int x25]) (rest := []) (wr := ([] : va_W)) S (c_Mo_decide l D b cI cJ cZ mki msz mle mel mme mal mic mil mio mab mae msa mlc mli mna f47 f48 mch mre mlv mwr msh mth mnv mns mfa mmo x46 x25 hpre) k_Mo_decide i_Mo_decide e_Mo_decide o_Mo ml_Mo_248 hd_Mo_decide (Nat.le_trans (by decide) hRf) (Nat.le_trans (by decide) hRl) hRc (va_recv hK hP (q0 := 0) (ci := 6) rfl rfl) hK hP hD hS hA [0, 1, 2, 3, 4, 5, 6, 7, 8, 9, 10, 11, 12, 13, 14, 15, 16, 17, 18, 19, 20, 21, 22] [] rfl rfl rfl (by decide) (by decide) (by decide) hl.1 rfl (Nat.le_of_ble_eq_true rfl) d_Mo_decideAll_51 (fun u H locs hu hP hD hS => ?_)
                        obtain ⟨f50, f51⟩ := u
                        have vc := vc f50 f51 hu
                        clear hu
                        have hP : va_P D vwCl (wM b cI cJ cZ mki msz mle mel mme mal mic mil mio mab mae msa mlc mli mna f50 f51 mch mre mlv mwr msh mth mnv mns mfa mmo) H := hP
                        have hD : va_D A (wM b cI cJ cZ mki msz mle mel mme mal mic mil mio mab mae msa mlc mli mna f50 f51 mch mre mlv mwr msh mth mnv mns mfa mmo) := hD
                        refine lv_iinc (k := 4) (v := x46 + 1) hx hb d_Mo_decideAll_54 hl rfl rfl (by decide) (lv' := [(4, .int (x46 + 1)), (0, .ref (b 0)), (1, .int x), (2, .int x25), (3, .int x39)]) rfl (fun ls hl => ?_)
                        refine lv_goto (tgt := 17) hx hb d_Mo_decideAll_57 (by decide) ?_
                        exact ihI49 (x46 + 1) f50 f51 ls H locs vc.1 (Nat.lt_of_lt_of_le vc.2 (Nat.le_of_lt_succ hmI49)) (lv_sub hl [1, 2, 3, 4, 0] rfl) hP hD hS
              exact lI49 _ 0 f40 f41 ls H locs vc0 (Nat.lt_succ_self _) (lv_sub hl [1, 2, 3, 4, 0] rfl) hP hD hS
        exact lI42 _ 26 f26 f27 ls H locs vc0 (Nat.lt_succ_self _) (lv_sub hl [1, 2, 3, 0] rfl) hP hD hS
  exact lI28 _ 0 mva mma ls H locs vc0 (Nat.lt_succ_self _) (lv_sub hl [1, 2, 0] rfl) hP hD hS
set_option maxHeartbeats 4000000 in
theorem v_Mo_decideAll (mki : Nat → Int32) (msz : Nat → Int64) (mle : Nat → Int32) (mel : Nat → Int32) (mme : Nat → Int32) (mal : Nat → Int32) (mic : Nat → Int32) (mil : Nat → Int32) (mio : Nat → Int32) (mab : Nat → Int32) (mae : Nat → Int32) (msa : Nat → Int32) (mlc : Nat → Int32) (mli : Nat → Int32) (mna : Nat → Int32) (mva : Nat → Int32) (mma : Nat → Int32) (mch : Nat → Int32) (mre : Nat → Int32) (mlv : Nat → Int32) (mwr : Nat → Int64) (msh : Nat → Int32) (mth : Int32) (mnv : Int32) (mns : Int32) (mfa : Int32) (mmo : Int32) (x : Int32) (hpre : (∃ n0 m0 s0 v0 : Nat, mnv = nI n0 ∧ mns = nI m0 ∧ MSOK mki msz mle mel mme mic mio msa mlc mli mna mva n0 m0 ∧ (v0 < n0 ∧ x = nI v0) ∧ OrdOK msa mlc mli mna mre mlv m0)) : V_Mo_decideAll mki msz mle mel mme mal mic mil mio mab mae msa mlc mli mna mva mma mch mre mlv mwr msh mth mnv mns mfa mmo x (fun mki' msz' mle' mel' mme' mal' mic' mil' mio' mab' mae' msa' mlc' mli' mna' mva' mma' mch' mre' mlv' mwr' msh' mth' mnv' mns' mfa' mmo' => (((∀ j, j < 960 → mva' j = 0 ∨ mva' j = 1) ∧ ∀ n : Nat, mnv = nI n → n ≤ 40 → ∀ s w, ¬ mre s = 0 → s < 24 → w ≤ x.toNatClampNeg → Fixed (gM mki msz mle mel mme mal mic mil mio mab mae msa mlc mli mna mva' mma' n) s w ∧ (mva' (40 * s + w) = 0 → mma' (40 * s + w) = 0))) ∧ mki' = mki ∧ msz' = msz ∧ mle' = mle ∧ mel' = mel ∧ mme' = mme ∧ mal' = mal ∧ mic' = mic ∧ mil' = mil ∧ mio' = mio ∧ mab' = mab ∧ mae' = mae ∧ msa' = msa ∧ mlc' = mlc ∧ mli' = mli ∧ mna' = mna ∧ mch' = mch ∧ mre' = mre ∧ mlv' = mlv ∧ mwr' = mwr ∧ msh' = msh ∧ mth' = mth ∧ mnv' = mnv ∧ mns' = mns ∧ mfa' = mfa ∧ mmo' = mmo) := by
  have main : ∀ post : (Nat → Int32) → (Nat → Int64) → (Nat → Int32) → (Nat → Int32) → (Nat → Int32) → (Nat → Int32) → (Nat → Int32) → (Nat → Int32) → (Nat → Int32) → (Nat → Int32) → (Nat → Int32) → (Nat → Int32) → (Nat → Int32) → (Nat → Int32) → (Nat → Int32) → (Nat → Int32) → (Nat → Int32) → (Nat → Int32) → (Nat → Int32) → (Nat → Int32) → (Nat → Int64) → (Nat → Int32) → Int32 → Int32 → Int32 → Int32 → Int32 → Prop, (∀ mki' msz' mle' mel' mme' mal' mic' mil' mio' mab' mae' msa' mlc' mli' mna' mva' mma' mch' mre' mlv' mwr' msh' mth' mnv' mns' mfa' mmo', (fun mki' msz' mle' mel' mme' mal' mic' mil' mio' mab' mae' msa' mlc' mli' mna' mva' mma' mch' mre' mlv' mwr' msh' mth' mnv' mns' mfa' mmo' => (((∀ j, j < 960 → mva' j = 0 ∨ mva' j = 1) ∧ ∀ n : Nat, mnv = nI n → n ≤ 40 → ∀ s w, ¬ mre s = 0 → s < 24 → w ≤ x.toNatClampNeg → Fixed (gM mki msz mle mel mme mal mic mil mio mab mae msa mlc mli mna mva' mma' n) s w ∧ (mva' (40 * s + w) = 0 → mma' (40 * s + w) = 0))) ∧ mki' = mki ∧ msz' = msz ∧ mle' = mle ∧ mel' = mel ∧ mme' = mme ∧ mal' = mal ∧ mic' = mic ∧ mil' = mil ∧ mio' = mio ∧ mab' = mab ∧ mae' = mae ∧ msa' = msa ∧ mlc' = mlc ∧ mli' = mli ∧ mna' = mna ∧ mch' = mch ∧ mre' = mre ∧ mlv' = mlv ∧ mwr' = mwr ∧ msh' = msh ∧ mth' = mth ∧ mnv' = mnv ∧ mns' = mns ∧ mfa' = mfa ∧ mmo' = mmo) mki' msz' mle' mel' mme' mal' mic' mil' mio' mab' mae' msa' mlc' mli' mna' mva' mma' mch' mre' mlv' mwr' msh' mth' mnv' mns' mfa' mmo' → post mki' msz' mle' mel' mme' mal' mic' mil' mio' mab' mae' msa' mlc' mli' mna' mva' mma' mch' mre' mlv' mwr' msh' mth' mnv' mns' mfa' mmo') → V_Mo_decideAll mki msz mle mel mme mal mic mil mio mab mae msa mlc mli mna mva mma mch mre mlv mwr msh mth mnv mns mfa mmo x post := by
    intro post hpost
    unfold V_Mo_decideAll
    obtain ⟨n0, m0, s0, v0, hnv, hns, hS, ⟨hv, rfl⟩, hOrd⟩ := hpre
    have hm24 := hS.2.2.1
    have hn40 := hS.1.1
    have cv : (nI v0).toNatClampNeg = v0 := nI_clamp (by omega)
    simp only [cv] at hpost ⊢
    generalize hGM : (fun f g : Nat → Int32 => gM mki msz mle mel mme mal mic mil mio mab mae msa mlc mli mna f g n0) = GM
    have hgm : ∀ f g, GM f g = gM mki msz mle mel mme mal mic mil mio mab mae msa mlc mli mna f g n0 := fun f g => by rw [← hGM]
    have hO : ∀ f g f' g', Oth (GM f g) (GM f' g') := fun f g f' g' => by rw [hgm, hgm]; exact ⟨_, _, rfl⟩
    have hLd : ∀ f g, LdOK (gRu (GM f g)) (gLe (GM f g)) (gLi (GM f g)) (gBn (GM f g)) m0 := fun f g => by rw [hgm]; exact hS.2.2.2.2.1
    have hLs : ∀ f g s k i, s < 24 → k < 4 → i < (gLe (GM f g) (s * 4 + k)).toNatClampNeg → ∃ q, q < m0 ∧ gLi (GM f g) ((s * 4 + k) * 3 + i) = nI q := fun f g => by rw [hgm]; exact hS.2.2.2.2.2.2.2.1
    have ipb : ∀ f g s x, s < 24 → IPc (GM f g) s x → x < m0 ∧ bt (sLIP msa mlc mli mna s) x = true := fun f g s x hs hx => by
      have := IPc_bit hm24 (hLd f g) (hLs f g) hs hx; rw [hgm] at this; exact this
    have elb : ∀ f g s x, s < 24 → ELc (GM f g) s x → x < m0 ∧ bt (sLIP msa mlc mli mna s ||| sLEW msa mlc mli mna s) x = true := fun f g s x hs hx => by
      have := ELc_bit hm24 (hLd f g) (hLs f g) hs hx; rw [hgm] at this; exact this
    have ptl : ∀ f g v i, v < 40 → gPb (GM f g) v i → gPt (GM f g) v i < v := fun f g v i hv40 hb => by
      rw [hgm] at hb ⊢
      obtain ⟨_, ⟨L, hL, eL⟩, hpart, hmem, _⟩ := hS.1.2.2 v hv40
      have cL : (mle v).toNatClampNeg ≤ 8 := by rw [eL, nI_clamp (by omega)]; exact hL
      have hb' : mpb mki mle mme v i := hb
      rcases mpb_k hb' with h4 | h5
      · have hi := (mpb_r hv40 h4 cL i).mp hb'
        show mpt mki mle mel mme v i < v
        rw [mpt_r hv40 h4 cL hi]
        obtain ⟨p, hp, e⟩ := hpart i hi
        rw [e, nI_clamp (by omega)]; exact hp
      · have hm := (mpb_m hv40 h5 hb'.1).mp hb'
        show mpt mki mle mel mme v i < v
        rw [mpt_m hv40 h5 hb'.1 hm]
        obtain ⟨p, hp, e⟩ := okx_nn (hmem i hb'.1) hm
        rw [e, nI_clamp (by omega)]; exact hp
    have gA : ∀ f g x w, (gVa (GM f g) x w ↔ ¬ f (40 * x + w) = 0) := fun f g x w => by rw [hgm]; exact Iff.rfl
    have gMm : ∀ f g x w i, (gMk (GM f g) x w i ↔ ¬ f (40 * x + w) = 0 ∧ bt (g (40 * x + w)) i = true) := fun f g x w i => by rw [hgm]; exact Iff.rfl
    have eB : ∀ f g, gPb (GM f g) = mpb mki mle mme := fun f g => by rw [hgm]; rfl
    have eT : ∀ f g f' g', gPt (GM f g) = gPt (GM f' g') := fun f g f' g' => by rw [hgm, hgm]; rfl
    generalize hDI : (fun (D : Nat → Nat → Prop) (f g : Nat → Int32) => (∀ j, j < 960 → f j = 0 ∨ f j = 1) ∧ ∀ x w, ¬ mre x = 0 → x < 24 → w < 40 → D x w → Fixed (GM f g) x w ∧ (f (40 * x + w) = 0 → g (40 * x + w) = 0)) = DI
    have hdi : ∀ D f g, DI D f g ↔ (∀ j, j < 960 → f j = 0 ∨ f j = 1) ∧ ∀ x w, ¬ mre x = 0 → x < 24 → w < 40 → D x w → Fixed (GM f g) x w ∧ (f (40 * x + w) = 0 → g (40 * x + w) = 0) := fun D f g => by rw [← hDI]
    have mono : ∀ D D' f g, DI D f g → (∀ x w, ¬ mre x = 0 → x < 24 → w < 40 → D' x w → D x w) → DI D' f g := fun D D' f g h hd => by
      rw [hdi] at h ⊢; exact ⟨h.1, fun x w h1 h2 h3 h4 => h.2 x w h1 h2 h3 (hd x w h1 h2 h3 h4)⟩
    have step : ∀ (D : Nat → Nat → Prop) (f g f' g' : Nat → Int32) (s v : Nat), DI D f g → ¬ mre s = 0 → s < 24 → v < n0 →
        (∀ x, lvl mlv s < lvl mlv x → D x v) → (∀ x w, w < v → D x w) → (∀ x w, D x w → w < v ∨ (w = v ∧ lvl mlv s ≤ lvl mlv x ∧ x ≠ s)) →
        (∃ (b : Bool) (z : Int32), f' = upd f (40 * s + v) (bI b) ∧ g' = upd g (40 * s + v) (if b = true then z else 0) ∧ ∀ G : Sp, G = gM mki msz mle mel mme mal mic mil mio mab mae msa mlc mli mna f g n0 → (b = true ↔ ∀ k, k < 36 → ¬ Bad G s v k) ∧ ∀ i, i < 32 → (bt z i = true ↔ (((ruH G s 27 ∧ gK G v = 5) ∨ (ruH G s 28 ∧ gK G v = 4)) ∧ gPb G v i) ∨ (¬ ((ruH G s 27 ∧ gK G v = 5) ∨ (ruH G s 28 ∧ gK G v = 4)) ∧ Mrk0 G s v i))) →
        DI (fun x w => D x w ∨ (x = s ∧ w = v)) f' g' := fun D f g f' g' s v hD hre hs hvn hA hB hC hpd => by
      obtain ⟨b, z, rfl, rfl, hG⟩ := hpd
      obtain ⟨hb, hz⟩ := hG (GM f g) (hgm f g)
      rw [hdi] at hD ⊢
      have off : ∀ x w, x < 24 → w < 40 → ¬ (x = s ∧ w = v) → 40 * x + w ≠ 40 * s + v := fun x w h1 h2 h3 e => h3 (by omega)
      have ag : ∀ x w, x < 24 → w < 40 → ¬ (x = s ∧ w = v) → (gVa (GM f g) x w ↔ gVa (GM (upd f (40 * s + v) (bI b)) (upd g (40 * s + v) (if b = true then z else 0))) x w) ∧ ∀ i, (gMk (GM f g) x w i ↔ gMk (GM (upd f (40 * s + v) (bI b)) (upd g (40 * s + v) (if b = true then z else 0))) x w i) := fun x w h1 h2 h3 => by
        refine ⟨?_, fun i => ?_⟩
        · rw [gA, gA, upd_ne (off x w h1 h2 h3)]
        · rw [gMm, gMm, upd_ne (off x w h1 h2 h3), upd_ne (off x w h1 h2 h3)]
      refine ⟨fun j hj => ?_, fun x w h1 h2 h3 h4 => ?_⟩
      · by_cases e : j = 40 * s + v
        · subst e; rw [upd_at]; cases b
          · exact Or.inl rfl
          · exact Or.inr rfl
        · rw [upd_ne e]; exact hD.1 j hj
      · by_cases e : x = s ∧ w = v
        · obtain ⟨rfl, rfl⟩ := e
          refine ⟨Fixed.decide (hO _ _ _ _) hb hz (fun i q => by rw [eB] at q; exact q.1) ?_ (fun i => ?_) (fun y hy => ?_) (fun y i hy hi hpb => ?_) (fun y hy i q => ?_), fun q => by rw [upd_at] at q ⊢; cases b; exact rfl; exact absurd q (by decide)⟩
          · rw [gA, upd_at]; cases b <;> decide
          · rw [gMm, upd_at, upd_at]; cases b
            · exact ⟨fun q => absurd rfl q.1, fun q => absurd q.1 (by decide)⟩
            · exact ⟨fun q => ⟨rfl, q.2⟩, fun q => ⟨by decide, q.2⟩⟩
          · obtain ⟨a1, a2⟩ := ipb f g x y h2 hy
            refine ag y w (by omega) h3 (fun q => ?_)
            have := hOrd.2.2.1 x y h2 h1 a2
            rw [q.1] at this; exact absurd this (Nat.lt_irrefl _)
          · obtain ⟨a1, a2⟩ := elb f g x y h2 hy
            have := ptl f g w i h3 hpb
            exact (ag y _ (by omega) (by omega) (fun q => by omega)).1
          · obtain ⟨a1, a2⟩ := ipb f g x y h2 hy
            have hl := hOrd.2.2.1 x y h2 h1 a2
            have hry := (hOrd.2.1 x y h2 h1 (LIP_LAN a2)).2
            exact (hD.2 y w hry (by omega) h3 (hA y hl)).1.2.2 i q
        · have hd : D x w := h4.resolve_right e
          have hc := hC x w hd
          refine ⟨Fixed.oth (hO _ _ _ _) (fun y hy => ?_) (fun y i hy hi hpb => ?_) (ag x w h2 h3 e) (hD.2 x w h1 h2 h3 hd).1, fun q => by rw [upd_ne (off x w h2 h3 e)] at q ⊢; exact (hD.2 x w h1 h2 h3 hd).2 q⟩
          · obtain ⟨a1, a2⟩ := ipb f g x y h2 hy
            refine ag y w (by omega) h3 (fun q => ?_)
            have := hOrd.2.2.1 x y h2 h1 a2
            rw [q.1] at this
            rcases hc with hc | hc
            · omega
            · omega
          · obtain ⟨a1, a2⟩ := elb f g x y h2 hy
            have hlt := ptl f g w i h3 hpb
            refine (ag y _ (by omega) (by omega) (fun q => ?_)).1
            rcases hc with hc | hc
            · omega
            · omega
    have lv24 : ∀ t, t < 24 → lvl mlv t ≤ 24 ∧ mlv t = nI (lvl mlv t) := fun t ht => by
      obtain ⟨c, hc, e⟩ := hOrd.2.2.2 t ht
      rw [lvl_nI e (by omega)]; exact ⟨hc, e⟩
    refine ⟨fun xv f g => ∃ v, v ≤ v0 + 1 ∧ xv = nI v ∧ DI (fun _ w => w < v) f g, fun xv _ _ => v0 + 1 - xv.toInt.toNat, ⟨0, Nat.zero_le _, rfl, (hdi _ _ _).mpr ⟨hS.2.2.2.2.2.2.2.2, fun _ _ _ _ _ q => absurd q (Nat.not_lt_zero _)⟩⟩, ?_⟩
    rintro xv f g ⟨v, hv1, rfl, hI⟩
    have hlt : nI v0 < nI v ↔ v0 < v := nI_ltI (by omega) (by omega)
    rw [hlt]
    refine ⟨fun h => (hpost _ _ _ _ _ _ _ _ _ _ _ _ _ _ _ _ _ _ _ _ _ _ _ _ _ _ _ ⟨⟨((hdi _ _ _).mp hI).1, fun n1 e hn1 s w h1 h2 h3 => ?_⟩, rfl, rfl, rfl, rfl, rfl, rfl, rfl, rfl, rfl, rfl, rfl, rfl, rfl, rfl, rfl, rfl, rfl, rfl, rfl, rfl, rfl, rfl, rfl, rfl, rfl⟩), fun h => ?_⟩
    · rw [hnv, nI_eq (by omega) (by omega)] at e
      subst e
      have := ((hdi _ _ _).mp hI).2 s w h1 h2 (by omega) (by omega)
      rw [hgm] at this; exact this
    have mu1 := fill_mu (N := v0 + 1) (k := v) (by omega) (by omega)
    refine ⟨fun xl f g => ∃ q, q ≤ 27 ∧ xl = nI q - 1 ∧ DI (fun x w => w < v ∨ (w = v ∧ q ≤ lvl mlv x)) f g, fun xl _ _ => (xl + 1).toInt.toNat, ⟨27, Nat.le_refl _, rfl, mono _ _ _ _ hI (fun x w _ hx _ q => q.elim id (fun q => by have := (lv24 x hx).1; omega))⟩, ?_⟩
    rintro xl f2 g2 ⟨q, hq, rfl, hI2⟩
    rw [m1_lt (by omega)]
    refine ⟨fun h2 => ⟨⟨v + 1, by omega, nI_1 v, mono _ _ _ _ hI2 (fun x w _ _ _ z => ?_)⟩, mu1⟩, fun h2 => ?_⟩
    · subst h2; rcases Nat.lt_or_ge w v with w' | w'
      · exact Or.inl w'
      · exact Or.inr ⟨by omega, Nat.zero_le _⟩
    rw [m1_nI q (by omega)]
    have hx2 : nI (q - 1) + (-1) = nI (q - 1) - 1 := by rw [← Int32.sub_eq_add_neg]
    have mu2 : (nI (q - 1) - 1 + 1).toInt.toNat < (nI (q - 1) + 1).toInt.toNat := by
      rw [Int32.sub_add_cancel, nI_1, nI_toInt (by omega), nI_toInt (by omega)]; omega
    rw [hx2]
    refine ⟨fun xs f g => ∃ s, s ≤ m0 ∧ xs = nI s ∧ DI (fun x w => w < v ∨ (w = v ∧ (q ≤ lvl mlv x ∨ (lvl mlv x = q - 1 ∧ x < s)))) f g, fun xs _ _ => m0 - xs.toInt.toNat, ⟨0, Nat.zero_le _, rfl, mono _ _ _ _ hI2 (fun x w _ _ _ z => z.elim Or.inl (fun z => Or.inr ⟨z.1, z.2.elim id (fun z => absurd z.2 (Nat.not_lt_zero _))⟩))⟩, ?_⟩
    rintro xs f3 g3 ⟨s, hs, rfl, hI3⟩
    have hns3 : mns ≤ nI s ↔ nI m0 ≤ nI s := by rw [hns]
    rw [hns3]
    refine ⟨fun h3 => ?_, fun h3 => ?_⟩
    · obtain rfl := (fill_end (N := m0) h3 (by omega) hs).symm
      refine ⟨⟨q - 1, by omega, rfl, mono _ _ _ _ hI3 (fun x w h1 h2 _ z => z.elim Or.inl (fun z => Or.inr ⟨z.1, ?_⟩))⟩, mu2⟩
      by_cases e : lvl mlv x = q - 1
      · exact Or.inr ⟨e, hOrd.1 x h2 h1⟩
      · exact Or.inl (by omega)
    · have hs2 := fill_step (N := m0) h3 (by omega) hs
      have mu3 := fill_mu (N := m0) hs2 (by omega)
      have cs : (nI s).toNatClampNeg = s := nI_clamp (by omega)
      have vs : vp_in (nI s) 24 := vp_in_nI (by omega) (by decide)
      rw [cs]
      have hlv : mlv s = nI (q - 1) ↔ lvl mlv s = q - 1 := by
        rw [(lv24 s (by omega)).2, nI_eq (by have := (lv24 s (by omega)).1; omega) (by omega)]
      rw [hlv]
      have keep : (¬ mre s = 0 → ¬ lvl mlv s = q - 1) → DI (fun x w => w < v ∨ (w = v ∧ (q ≤ lvl mlv x ∨ (lvl mlv x = q - 1 ∧ x < s + 1)))) f3 g3 := fun hno => mono _ _ _ _ hI3 (fun x w h1 h2 _ z => z.elim Or.inl (fun z => Or.inr ⟨z.1, z.2.elim Or.inl (fun z2 => Or.inr ⟨z2.1, ?_⟩)⟩))
      · refine ⟨vs, fun h4 => ⟨⟨s + 1, hs2, nI_1 s, keep (fun w => absurd h4 w)⟩, mu3⟩, fun h4 => ⟨vs, fun h5 => ⟨⟨s + 1, hs2, nI_1 s, keep (fun _ => h5)⟩, mu3⟩, fun h5 => ⟨⟨n0, m0, s, v, hnv, hns, ⟨hS.1, hS.2.1, hS.2.2.1, hS.2.2.2.1, hS.2.2.2.2.1, hS.2.2.2.2.2.1, hS.2.2.2.2.2.2.1, hS.2.2.2.2.2.2.2.1, ((hdi _ _ _).mp hI3).1⟩, hs2, by omega, rfl, rfl⟩, fun f4 g4 hpd => ⟨⟨s + 1, hs2, nI_1 s, ?_⟩, mu3⟩⟩⟩⟩
        have cn : mnv.toNatClampNeg = n0 := by rw [hnv]; exact nI_clamp (by omega)
        have cvv : (nI v).toNatClampNeg = v := nI_clamp (by omega)
        rw [cn, cvv] at hpd
        refine mono _ _ _ _ (step _ f3 g3 f4 g4 s v hI3 h4 (by omega) (by omega) (fun x hx => Or.inr ⟨rfl, Or.inl (by omega)⟩) (fun x w hw => Or.inl hw) (fun x w z => ?_) hpd) (fun x w h1 h2 _ z => ?_)
        · rcases z with z | ⟨z1, z2 | ⟨z2, z3⟩⟩
          · exact Or.inl z
          · exact Or.inr ⟨z1, by omega, fun e => by rw [e] at z2; omega⟩
          · exact Or.inr ⟨z1, by omega, by omega⟩
        · rcases z with z | ⟨z1, z2 | ⟨z2, z3⟩⟩
          · exact Or.inl (Or.inl z)
          · exact Or.inl (Or.inr ⟨z1, Or.inl z2⟩)
          · by_cases e : x = s
            · exact Or.inr ⟨e, z1⟩
            · exact Or.inl (Or.inr ⟨z1, Or.inr ⟨z2, by omega⟩⟩)
      · by_cases e : x = s
        · subst e; exact absurd z2.1 (hno h1)
        · omega
  exact main _ (fun _ _ _ _ _ _ _ _ _ _ _ _ _ _ _ _ _ _ _ _ _ _ _ _ _ _ _ h => h)
theorem c_Mo_decideAll (l : Launch) (D : va_G) (b : Nat → Nat) (cI cJ cZ : ClassId) (mki : Nat → Int32) (msz : Nat → Int64) (mle : Nat → Int32) (mel : Nat → Int32) (mme : Nat → Int32) (mal : Nat → Int32) (mic : Nat → Int32) (mil : Nat → Int32) (mio : Nat → Int32) (mab : Nat → Int32) (mae : Nat → Int32) (msa : Nat → Int32) (mlc : Nat → Int32) (mli : Nat → Int32) (mna : Nat → Int32) (mva : Nat → Int32) (mma : Nat → Int32) (mch : Nat → Int32) (mre : Nat → Int32) (mlv : Nat → Int32) (mwr : Nat → Int64) (msh : Nat → Int32) (mth : Int32) (mnv : Int32) (mns : Int32) (mfa : Int32) (mmo : Int32) (x : Int32) (hpre : (∃ n0 m0 s0 v0 : Nat, mnv = nI n0 ∧ mns = nI m0 ∧ MSOK mki msz mle mel mme mic mio msa mlc mli mna mva n0 m0 ∧ (v0 < n0 ∧ x = nI v0) ∧ OrdOK msa mlc mli mna mre mlv m0)) : Wm (S := (Nat → Int32) × (Nat → Int32)) l y_Mo_decideAll b_Mo_decideAll 5 none 7 167 [.ref (b 0), .int x] D (tyA cI cJ cZ) (wM b cI cJ cZ mki msz mle mel mme mal mic mil mio mab mae msa mlc mli mna mva mma mch mre mlv mwr msh mth mnv mns mfa mmo) (fun uu => ((∀ j, j < 960 → uu.1 j = 0 ∨ uu.1 j = 1) ∧ ∀ n : Nat, mnv = nI n → n ≤ 40 → ∀ s w, ¬ mre s = 0 → s < 24 → w ≤ x.toNatClampNeg → Fixed (gM mki msz mle mel mme mal mic mil mio mab mae msa mlc mli mna uu.1 uu.2 n) s w ∧ (uu.1 (40 * s + w) = 0 → uu.2 (40 * s + w) = 0))) (fun uu => none) (fun uu => (wM b cI cJ cZ mki msz mle mel mme mal mic mil mio mab mae msa mlc mli mna uu.1 uu.2 mch mre mlv mwr msh mth mnv mns mfa mmo)) :=
  wm_v (by decide) (Nat.le_of_ble_eq_true rfl) (fun p e s m below meth c ls Q A S hK hP hD hA hS hl hret => g_Mo_decideAll S (Nat.le_refl _) (Nat.le_refl _) ⟨Nat.le_refl _, Nat.le_refl _⟩ D b cI cJ cZ mki msz mle mel mme mal mic mil mio mab mae msa mlc mli mna mva mma mch mre mlv mwr msh mth mnv mns mfa mmo x hK hP hD hA hS hl (v_Mo_decideAll mki msz mle mel mme mal mic mil mio mab mae msa mlc mli mna mva mma mch mre mlv mwr msh mth mnv mns mfa mmo x hpre) (fun mki' msz' mle' mel' mme' mal' mic' mil' mio' mab' mae' msa' mlc' mli' mna' mva' mma' mch' mre' mlv' mwr' msh' mth' mnv' mns' mfa' mmo' ls1 pc H1 locs1 hd hv hP1 hD1 hS1 => by obtain ⟨hp, rfl, rfl, rfl, rfl, rfl, rfl, rfl, rfl, rfl, rfl, rfl, rfl, rfl, rfl, rfl, rfl, rfl, rfl, rfl, rfl, rfl, rfl, rfl, rfl, rfl⟩ := hv; exact hret (mva', mma') ls1 pc H1 locs1 hd hp hP1 hD1 hS1))
theorem hd_Mo_decideAll : y_Mo_decideAll.cls ≠ "java/lang/invoke/MethodHandle" ∧ y_Mo_decideAll.cls ≠ "java/lang/invoke/VarHandle" ∧ (parseMethodDescriptor y_Mo_decideAll.desc).map (fun d => d.parameters.length) = some 1 := ⟨by decide, by decide, by decide +kernel⟩
