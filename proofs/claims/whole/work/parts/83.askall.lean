def LI (G : Sp) (s v k x w : Nat) : Prop := (k < 3 ∧ AskL G s v k x w) ∨ (k = 3 ∧ gK G v = 4 ∧ ∃ i, i < lsL G s 3 ∧ gPb G v i ∧ x = lsV G s 3 i ∧ w = gPt G v i)
def NI (G : Sp) (s v n x w : Nat) : Prop := gK G v = 5 ∧ gPb G v n ∧ ((nmH G s 0 n ∧ x = nmV G s 0 n ∧ w = gPt G v n) ∨ (nmH G s 1 n ∧ x = nmV G s 1 n ∧ w = v))
theorem Ask_iff {G : Sp} {s v x w : Nat} (h12 : ∀ i, gPb G v i → i < 12) : Ask G s v x w ↔
    ((((((((((AskS G s v 17 x w ∨ AskS G s v 18 x w) ∨ (trn G s v 19 ∧ AskS G s v 19 x w)) ∨ (trn G s v 20 ∧ AskS G s v 20 x w)) ∨ AskS G s v 21 x w) ∨
      (gK G v = 4 ∧ ruH G s 22 ∧ x = ruV G s 22 ∧ ∃ i, gPb G v i ∧ lsL G s 3 ≤ i ∧ w = gPt G v i)) ∨ (gK G v = 4 ∧ ruH G s 23 ∧ x = ruV G s 23 ∧ ∃ i, gPb G v i ∧ w = gPt G v i)) ∨
      (gK G v = 5 ∧ ruH G s 26 ∧ x = ruV G s 26 ∧ ∃ i, gPb G v i ∧ ¬ nmH G s 0 i ∧ w = gPt G v i)) ∨ (gK G v = 5 ∧ ruH G s 27 ∧ x = ruV G s 27 ∧ ∃ i, gPb G v i ∧ ¬ Mrk0 G s v i ∧ w = gPt G v i)) ∨
      (gK G v = 4 ∧ ruH G s 28 ∧ x = ruV G s 28 ∧ ∃ i, gPb G v i ∧ ¬ Mrk0 G s v i ∧ w = gPt G v i)) ∨ (∃ k, k < 4 ∧ LI G s v k x w)) ∨ ∃ n, n < 12 ∧ NI G s v n x w := by
  constructor
  · rintro ((q | q | q | q | q | q | q | q) | ⟨h4, ⟨i, q1, q2, q3, ⟨q4, q5⟩ | ⟨q4, q5, q6⟩⟩ | ⟨q1, q2, i, _, q3, q4⟩ | ⟨q1, q2, i, _, q3, q4, q5⟩⟩ | ⟨h5, ⟨n, q1, q2, q3 | ⟨q3, q4, q5, q6⟩ | q3⟩ | ⟨q1, q2, i, _, q3, q4, q5⟩⟩)
    · exact Or.inl (Or.inl (Or.inl (Or.inl (Or.inl (Or.inl (Or.inl (Or.inl (Or.inl (Or.inl (Or.inl q))))))))))
    · exact Or.inl (Or.inl (Or.inl (Or.inl (Or.inl (Or.inl (Or.inl (Or.inl (Or.inl (Or.inl (Or.inr q))))))))))
    · exact Or.inl (Or.inl (Or.inl (Or.inl (Or.inl (Or.inl (Or.inl (Or.inl (Or.inl (Or.inr q)))))))))
    · exact Or.inl (Or.inl (Or.inl (Or.inl (Or.inl (Or.inl (Or.inl (Or.inl (Or.inr q))))))))
    · exact Or.inl (Or.inl (Or.inl (Or.inl (Or.inl (Or.inl (Or.inl (Or.inr q)))))))
    · exact Or.inl (Or.inr ⟨0, by decide, Or.inl ⟨by decide, q⟩⟩)
    · exact Or.inl (Or.inr ⟨1, by decide, Or.inl ⟨by decide, q⟩⟩)
    · exact Or.inl (Or.inr ⟨2, by decide, Or.inl ⟨by decide, q⟩⟩)
    · exact Or.inl (Or.inr ⟨3, by decide, Or.inr ⟨rfl, h4, i, q4, q2, q5, q3⟩⟩)
    · exact Or.inl (Or.inl (Or.inl (Or.inl (Or.inl (Or.inl (Or.inr ⟨h4, q5, q6, i, q2, q4, q3⟩))))))
    · exact Or.inl (Or.inl (Or.inl (Or.inl (Or.inl (Or.inr ⟨h4, q1, q2, i, q3, q4⟩)))))
    · exact Or.inl (Or.inl (Or.inr ⟨h4, q1, q2, i, q3, q4, q5⟩))
    · exact Or.inr ⟨n, q1, h5, q2, Or.inl q3⟩
    · exact Or.inl (Or.inl (Or.inl (Or.inl (Or.inr ⟨h5, q4, q5, n, q2, q3, q6⟩))))
    · exact Or.inr ⟨n, q1, h5, q2, Or.inr q3⟩
    · exact Or.inl (Or.inl (Or.inl (Or.inr ⟨h5, q1, q2, i, q3, q4, q5⟩)))
  · rintro (((((((((((q | q) | q) | q) | q) | ⟨h4, q1, q2, i, q3, q4, q5⟩) | ⟨h4, q1, q2, i, q3, q4⟩) | ⟨h5, q1, q2, i, q3, q4, q5⟩) | ⟨h5, q1, q2, i, q3, q4, q5⟩) | ⟨h4, q1, q2, i, q3, q4, q5⟩) | ⟨k, hk, ⟨hk3, q⟩ | ⟨rfl, h4, i, q1, q2, q3, q4⟩⟩) | ⟨n, hn, h5, q1, q2 | q2⟩)
    · exact Or.inl (Or.inl q)
    · exact Or.inl (Or.inr (Or.inl q))
    · exact Or.inl (Or.inr (Or.inr (Or.inl q)))
    · exact Or.inl (Or.inr (Or.inr (Or.inr (Or.inl q))))
    · exact Or.inl (Or.inr (Or.inr (Or.inr (Or.inr (Or.inl q)))))
    · exact Or.inr (Or.inl ⟨h4, Or.inl ⟨i, h12 i q3, q3, q5, Or.inr ⟨q4, q1, q2⟩⟩⟩)
    · exact Or.inr (Or.inl ⟨h4, Or.inr (Or.inl ⟨q1, q2, i, h12 i q3, q3, q4⟩)⟩)
    · exact Or.inr (Or.inr ⟨h5, Or.inl ⟨i, h12 i q3, q3, Or.inr (Or.inl ⟨q4, q1, q2, q5⟩)⟩⟩)
    · exact Or.inr (Or.inr ⟨h5, Or.inr ⟨q1, q2, i, h12 i q3, q3, q4, q5⟩⟩)
    · exact Or.inr (Or.inl ⟨h4, Or.inr (Or.inr ⟨q1, q2, i, h12 i q3, q3, q4, q5⟩)⟩)
    · exact AskL_Ask hk3 q
    · exact Or.inr (Or.inl ⟨h4, Or.inl ⟨i, h12 i q2, q2, q4, Or.inl ⟨q1, q3⟩⟩⟩)
    · exact Or.inr (Or.inr ⟨h5, Or.inl ⟨n, hn, q1, Or.inl q2⟩⟩)
    · exact Or.inr (Or.inr ⟨h5, Or.inl ⟨n, hn, q1, Or.inr (Or.inr q2)⟩⟩)
theorem nI_of_eq {z : Int32} {x' n : Nat} (hn : n < 2 ^ 31) (hx : x' < 2 ^ 31) (e : z = nI n) : z = nI x' ↔ x' = n := by
  rw [e, nI_eq hn hx]; exact eq_comm
theorem neg_nI {x' : Nat} (hx : x' < 2 ^ 31) : ¬ ((-1 : Int32) = nI x') := fun e => absurd (e ▸ neg1_lt : nI x' < 0) (nI_pos hx)
def V_Mo_askAll (mki : Nat → Int32) (msz : Nat → Int64) (mle : Nat → Int32) (mel : Nat → Int32) (mme : Nat → Int32) (mal : Nat → Int32) (mic : Nat → Int32) (mil : Nat → Int32) (mio : Nat → Int32) (mab : Nat → Int32) (mae : Nat → Int32) (msa : Nat → Int32) (mlc : Nat → Int32) (mli : Nat → Int32) (mna : Nat → Int32) (mva : Nat → Int32) (mma : Nat → Int32) (mch : Nat → Int32) (mre : Nat → Int32) (mlv : Nat → Int32) (mwr : Nat → Int64) (msh : Nat → Int32) (mth : Int32) (mnv : Int32) (mns : Int32) (mfa : Int32) (mmo : Int32) (x : Int32) (y : Int32) (post : (Nat → Int32) → (Nat → Int64) → (Nat → Int32) → (Nat → Int32) → (Nat → Int32) → (Nat → Int32) → (Nat → Int32) → (Nat → Int32) → (Nat → Int32) → (Nat → Int32) → (Nat → Int32) → (Nat → Int32) → (Nat → Int32) → (Nat → Int32) → (Nat → Int32) → (Nat → Int32) → (Nat → Int32) → (Nat → Int32) → (Nat → Int32) → (Nat → Int32) → (Nat → Int64) → (Nat → Int32) → Int32 → Int32 → Int32 → Int32 → Int32 → Prop) : Prop :=
  (vp_in ((40 * x) + y) 960 ∧ (vp_in (29 * x + 17) 696 ∧ ((okx (msa (29 * x + 17 : Int32).toNatClampNeg) 24 ∧ okx y 40) ∧ (∀ (f1 : Nat → Int32), (ASK (msa (29 * x + 17 : Int32).toNatClampNeg) y (mch ((40 * x) + y : Int32).toNatClampNeg) mch f1) → (vp_in (29 * x + 18) 696 ∧ ((okx (msa (29 * x + 18 : Int32).toNatClampNeg) 24 ∧ okx y 40) ∧ (∀ (f2 : Nat → Int32), (ASK (msa (29 * x + 18 : Int32).toNatClampNeg) y (mch ((40 * x) + y : Int32).toNatClampNeg) f1 f2) → ((∃ n0 m0 s0 v0 : Nat, mnv = nI n0 ∧ mns = nI m0 ∧ MSOK mki msz mle mel mme mic mio msa mlc mli mna mva n0 m0 ∧ (s0 < m0 ∧ v0 < n0 ∧ x = nI s0 ∧ y = nI v0) ∧ ∃ k0 : Nat, k0 < 36 ∧ 19 = nI k0) ∧ (∀ (t3 : Bool), ((∀ G : Sp, G = gM mki msz mle mel mme mal mic mil mio mab mae msa mlc mli mna mva mma mnv.toNatClampNeg → (t3 = true ↔ trn G x.toNatClampNeg y.toNatClampNeg (19 : Int32).toNatClampNeg))) → (∃ J4 : Int32 → Prop, (((bI t3) = 0 → J4 (-1)) ∧ (¬ (bI t3) = 0 → (vp_in (29 * x + 19) 696 ∧ J4 (msa (29 * x + 19 : Int32).toNatClampNeg)))) ∧ (∀ (x5 : Int32), J4 x5 → ((okx x5 24 ∧ okx y 40) ∧ (∀ (f6 : Nat → Int32), (ASK x5 y (mch ((40 * x) + y : Int32).toNatClampNeg) f2 f6) → ((∃ n0 m0 s0 v0 : Nat, mnv = nI n0 ∧ mns = nI m0 ∧ MSOK mki msz mle mel mme mic mio msa mlc mli mna mva n0 m0 ∧ (s0 < m0 ∧ v0 < n0 ∧ x = nI s0 ∧ y = nI v0) ∧ ∃ k0 : Nat, k0 < 36 ∧ 20 = nI k0) ∧ (∀ (t7 : Bool), ((∀ G : Sp, G = gM mki msz mle mel mme mal mic mil mio mab mae msa mlc mli mna mva mma mnv.toNatClampNeg → (t7 = true ↔ trn G x.toNatClampNeg y.toNatClampNeg (20 : Int32).toNatClampNeg))) → (∃ J8 : Int32 → Prop, (((bI t7) = 0 → J8 (-1)) ∧ (¬ (bI t7) = 0 → (vp_in (29 * x + 20) 696 ∧ J8 (msa (29 * x + 20 : Int32).toNatClampNeg)))) ∧ (∀ (x9 : Int32), J8 x9 → ((okx x9 24 ∧ okx y 40) ∧ (∀ (f10 : Nat → Int32), (ASK x9 y (mch ((40 * x) + y : Int32).toNatClampNeg) f6 f10) → (vp_in (29 * x + 21) 696 ∧ ((okx (msa (29 * x + 21 : Int32).toNatClampNeg) 24 ∧ okx y 40) ∧ (∀ (f11 : Nat → Int32), (ASK (msa (29 * x + 21 : Int32).toNatClampNeg) y (mch ((40 * x) + y : Int32).toNatClampNeg) f10 f11) → (vp_in (29 * x + 22) 696 ∧ (vp_in (4 * x + 32 - 29) 96 ∧ ((∃ v0 c0 : Nat, v0 < 40 ∧ y = nI v0 ∧ okx (msa (29 * x + 22 : Int32).toNatClampNeg) 24 ∧ mch ((40 * x) + y : Int32).toNatClampNeg = nI c0 ∧ c0 < 2 ^ 30 ∧ MVOK mki msz mle mel mme 40) ∧ (∀ (f12 : Nat → Int32), ((∀ (f0 : Nat → Int32) (D0 : Nat → Nat → Prop) (c0 : Nat), mch ((40 * x) + y : Int32).toNatClampNeg = nI c0 → c0 < 2 ^ 30 → (∀ q, q < 960 → ∃ e, e < 2 ^ 30 ∧ f0 q = nI e) → AkI D0 c0 f0 f11 → AkI (fun x1 w1 => D0 x1 w1 ∨ (msa (29 * x + 22 : Int32).toNatClampNeg = nI x1 ∧ mki y.toNatClampNeg = 4 ∧ ∃ i, i < (mle y.toNatClampNeg).toNatClampNeg ∧ bt ((-1) <<< ((mlc (4 * x + 32 - 29 : Int32).toNatClampNeg) &&& 31)) i = true ∧ mel (8 * y.toNatClampNeg + i) = nI w1)) c0 f0 f12)) → (vp_in (29 * x + 23) 696 ∧ ((∃ v0 c0 : Nat, v0 < 40 ∧ y = nI v0 ∧ okx (msa (29 * x + 23 : Int32).toNatClampNeg) 24 ∧ mch ((40 * x) + y : Int32).toNatClampNeg = nI c0 ∧ c0 < 2 ^ 30 ∧ MVOK mki msz mle mel mme 40) ∧ (∀ (f13 : Nat → Int32), ((∀ (f0 : Nat → Int32) (D0 : Nat → Nat → Prop) (c0 : Nat), mch ((40 * x) + y : Int32).toNatClampNeg = nI c0 → c0 < 2 ^ 30 → (∀ q, q < 960 → ∃ e, e < 2 ^ 30 ∧ f0 q = nI e) → AkI D0 c0 f0 f12 → AkI (fun x1 w1 => D0 x1 w1 ∨ (msa (29 * x + 23 : Int32).toNatClampNeg = nI x1 ∧ mki y.toNatClampNeg = 4 ∧ ∃ i, i < (mle y.toNatClampNeg).toNatClampNeg ∧ bt (-1) i = true ∧ mel (8 * y.toNatClampNeg + i) = nI w1)) c0 f0 f13)) → (vp_in (29 * x + 26) 696 ∧ ((∃ n0 m0 s0 v0 : Nat, mnv = nI n0 ∧ mns = nI m0 ∧ MSOK mki msz mle mel mme mic mio msa mlc mli mna mva n0 m0 ∧ s0 < m0 ∧ v0 < n0 ∧ x = nI s0 ∧ y = nI v0) ∧ (∀ (x14 : Int32), ((∀ i, i < 32 → (bt x14 i = true ↔ i < 12 ∧ mki y.toNatClampNeg = 5 ∧ ¬ mme (12 * y.toNatClampNeg + i) < 0 ∧ mna ((x.toNatClampNeg * 3 + 0) * 12 + i) < 0))) → ((∃ v0 c0 : Nat, v0 < 40 ∧ y = nI v0 ∧ okx (msa (29 * x + 26 : Int32).toNatClampNeg) 24 ∧ mch ((40 * x) + y : Int32).toNatClampNeg = nI c0 ∧ c0 < 2 ^ 30 ∧ MVOK mki msz mle mel mme 40) ∧ (∀ (f15 : Nat → Int32), ((∀ (f0 : Nat → Int32) (D0 : Nat → Nat → Prop) (c0 : Nat), mch ((40 * x) + y : Int32).toNatClampNeg = nI c0 → c0 < 2 ^ 30 → (∀ q, q < 960 → ∃ e, e < 2 ^ 30 ∧ f0 q = nI e) → AkI D0 c0 f0 f13 → AkI (fun x1 w1 => D0 x1 w1 ∨ (msa (29 * x + 26 : Int32).toNatClampNeg = nI x1 ∧ mki y.toNatClampNeg = 5 ∧ ∃ i, i < 12 ∧ bt x14 i = true ∧ mme (12 * y.toNatClampNeg + i) = nI w1)) c0 f0 f15)) → (vp_in (29 * x + 27) 696 ∧ ((∃ n0 m0 s0 v0 : Nat, mnv = nI n0 ∧ mns = nI m0 ∧ MSOK mki msz mle mel mme mic mio msa mlc mli mna mva n0 m0 ∧ s0 < m0 ∧ v0 < n0 ∧ x = nI s0 ∧ y = nI v0) ∧ (∀ (x16 : Int32), ((∀ G : Sp, G = gM mki msz mle mel mme mal mic mil mio mab mae msa mlc mli mna mva mma mnv.toNatClampNeg → ∀ i, i < 32 → (bt x16 i = true ↔ Mrk0 G x.toNatClampNeg y.toNatClampNeg i))) → ((∃ v0 c0 : Nat, v0 < 40 ∧ y = nI v0 ∧ okx (msa (29 * x + 27 : Int32).toNatClampNeg) 24 ∧ mch ((40 * x) + y : Int32).toNatClampNeg = nI c0 ∧ c0 < 2 ^ 30 ∧ MVOK mki msz mle mel mme 40) ∧ (∀ (f17 : Nat → Int32), ((∀ (f0 : Nat → Int32) (D0 : Nat → Nat → Prop) (c0 : Nat), mch ((40 * x) + y : Int32).toNatClampNeg = nI c0 → c0 < 2 ^ 30 → (∀ q, q < 960 → ∃ e, e < 2 ^ 30 ∧ f0 q = nI e) → AkI D0 c0 f0 f15 → AkI (fun x1 w1 => D0 x1 w1 ∨ (msa (29 * x + 27 : Int32).toNatClampNeg = nI x1 ∧ mki y.toNatClampNeg = 5 ∧ ∃ i, i < 12 ∧ bt (x16 ^^^ (-1)) i = true ∧ mme (12 * y.toNatClampNeg + i) = nI w1)) c0 f0 f17)) → (vp_in (29 * x + 28) 696 ∧ ((∃ n0 m0 s0 v0 : Nat, mnv = nI n0 ∧ mns = nI m0 ∧ MSOK mki msz mle mel mme mic mio msa mlc mli mna mva n0 m0 ∧ s0 < m0 ∧ v0 < n0 ∧ x = nI s0 ∧ y = nI v0) ∧ (∀ (x18 : Int32), ((∀ G : Sp, G = gM mki msz mle mel mme mal mic mil mio mab mae msa mlc mli mna mva mma mnv.toNatClampNeg → ∀ i, i < 32 → (bt x18 i = true ↔ Mrk0 G x.toNatClampNeg y.toNatClampNeg i))) → ((∃ v0 c0 : Nat, v0 < 40 ∧ y = nI v0 ∧ okx (msa (29 * x + 28 : Int32).toNatClampNeg) 24 ∧ mch ((40 * x) + y : Int32).toNatClampNeg = nI c0 ∧ c0 < 2 ^ 30 ∧ MVOK mki msz mle mel mme 40) ∧ (∀ (f19 : Nat → Int32), ((∀ (f0 : Nat → Int32) (D0 : Nat → Nat → Prop) (c0 : Nat), mch ((40 * x) + y : Int32).toNatClampNeg = nI c0 → c0 < 2 ^ 30 → (∀ q, q < 960 → ∃ e, e < 2 ^ 30 ∧ f0 q = nI e) → AkI D0 c0 f0 f17 → AkI (fun x1 w1 => D0 x1 w1 ∨ (msa (29 * x + 28 : Int32).toNatClampNeg = nI x1 ∧ mki y.toNatClampNeg = 4 ∧ ∃ i, i < (mle y.toNatClampNeg).toNatClampNeg ∧ bt (x18 ^^^ (-1)) i = true ∧ mel (8 * y.toNatClampNeg + i) = nI w1)) c0 f0 f19)) → (∃ (I29 : Int32 → (Nat → Int32) → Prop) (mI29 : Int32 → (Nat → Int32) → Nat), I29 29 f19 ∧ (∀ (x27 : Int32) (f28 : Nat → Int32), I29 x27 f28 → ((33 ≤ x27 → (∃ (I37 : Int32 → (Nat → Int32) → Prop) (mI37 : Int32 → (Nat → Int32) → Nat), I37 0 f28 ∧ (∀ (x35 : Int32) (f36 : Nat → Int32), I37 x35 f36 → ((12 ≤ x35 → post mki msz mle mel mme mal mic mil mio mab mae msa mlc mli mna mva mma f36 mre mlv mwr msh mth mnv mns mfa mmo) ∧ (¬ 12 ≤ x35 → (vp_in (36 * x + 12 * (33 - 33) + x35) 864 ∧ ((vp_in y 40 ∧ vp_in (12 * y + x35) 480) ∧ ((okx (mna (36 * x + 12 * (33 - 33) + x35 : Int32).toNatClampNeg) 24 ∧ okx (if mki y.toNatClampNeg = 5 then mme (12 * y + x35 : Int32).toNatClampNeg else -1) 40) ∧ (∀ (f38 : Nat → Int32), (ASK (mna (36 * x + 12 * (33 - 33) + x35 : Int32).toNatClampNeg) (if mki y.toNatClampNeg = 5 then mme (12 * y + x35 : Int32).toNatClampNeg else -1) (mch ((40 * x) + y : Int32).toNatClampNeg) f36 f38) → ((vp_in y 40 ∧ vp_in (12 * y + x35) 480) ∧ (∃ J39 : Int32 → Prop, (((if mki y.toNatClampNeg = 5 then mme (12 * y + x35 : Int32).toNatClampNeg else -1) < 0 → J39 (-1)) ∧ (¬ (if mki y.toNatClampNeg = 5 then mme (12 * y + x35 : Int32).toNatClampNeg else -1) < 0 → (vp_in (36 * x + 12 * (34 - 33) + x35) 864 ∧ J39 (mna (36 * x + 12 * (34 - 33) + x35 : Int32).toNatClampNeg)))) ∧ (∀ (x40 : Int32), J39 x40 → ((okx x40 24 ∧ okx y 40) ∧ (∀ (f41 : Nat → Int32), (ASK x40 y (mch ((40 * x) + y : Int32).toNatClampNeg) f38 f41) → (I37 (x35 + 1) f41 ∧ mI37 (x35 + 1) f41 < mI37 x35 f36))))))))))))))) ∧ (¬ 33 ≤ x27 → (∃ (I54 : Int32 → (Nat → Int32) → Prop) (mI54 : Int32 → (Nat → Int32) → Nat), I54 0 f28 ∧ (∀ (x52 : Int32) (f53 : Nat → Int32), I54 x52 f53 → (vp_in (4 * x + x27 - 29) 96 ∧ (((mlc (4 * x + x27 - 29 : Int32).toNatClampNeg) ≤ x52 → (I29 (x27 + 1) f53 ∧ mI29 (x27 + 1) f53 < mI29 x27 f28)) ∧ (¬ (mlc (4 * x + x27 - 29 : Int32).toNatClampNeg) ≤ x52 → (∃ J55 : Int32 → Prop, ((x27 < 32 → J55 1) ∧ (¬ x27 < 32 → (vp_in y 40 ∧ (∃ J56 : Prop, ((¬ (mki y.toNatClampNeg) = 4 → J56) ∧ ((mki y.toNatClampNeg) = 4 → (vp_in y 40 ∧ (((mle y.toNatClampNeg) ≤ x52 → J56) ∧ (¬ (mle y.toNatClampNeg) ≤ x52 → J55 1))))) ∧ (J56 → J55 0))))) ∧ (∀ (x58 : Int32), J55 x58 → (∃ J59 : Int32 → Prop, ((x58 = 0 → J59 (-1)) ∧ (¬ x58 = 0 → (vp_in (12 * x + 3 * (x27 - 29) + x52) 288 ∧ J59 (mli (12 * x + 3 * (x27 - 29) + x52 : Int32).toNatClampNeg)))) ∧ (∀ (x60 : Int32), J59 x60 → (∃ J61 : Int32 → Prop, ((32 ≤ x27 → (vp_in ((8 * y) + x52) 320 ∧ J61 (mel ((8 * y) + x52 : Int32).toNatClampNeg))) ∧ (¬ 32 ≤ x27 → J61 y)) ∧ (∀ (x62 : Int32), J61 x62 → ((okx x60 24 ∧ okx x62 40) ∧ (∀ (f63 : Nat → Int32), (ASK x60 x62 (mch ((40 * x) + y : Int32).toNatClampNeg) f53 f63) → (I54 (x52 + 1) f63 ∧ mI54 (x52 + 1) f63 < mI54 x52 f53))))))))))))))))))))))))))))))))))))))))))))))))))))))))))))))
set_option maxHeartbeats 4000000 in
set_option maxRecDepth 100000 in
theorem g_Mo_askAll {p : Program} {l : Launch} {e : Env} {R : Room} {s : State} {m : MethodId} {args : Array Value} {below : List Frame} {meth : Method} {c : Code} {H : Heap} {locs : List Loc} {cells slots : Nat} {Q : State → Prop} {ls : Array Slot} {A : Nat → Prop} (S : CallFix p m c b_Mo_askAll 7 s args W0 R_Mo) (hRf : 4 ≤ R.frames) (hRl : 95 ≤ R.locals) (hRc : cells ≤ R.cells ∧ slots ≤ R.slots) (D : va_G) (b : Nat → Nat) (cI cJ cZ : ClassId) (mki : Nat → Int32) (msz : Nat → Int64) (mle : Nat → Int32) (mel : Nat → Int32) (mme : Nat → Int32) (mal : Nat → Int32) (mic : Nat → Int32) (mil : Nat → Int32) (mio : Nat → Int32) (mab : Nat → Int32) (mae : Nat → Int32) (msa : Nat → Int32) (mlc : Nat → Int32) (mli : Nat → Int32) (mna : Nat → Int32) (mva : Nat → Int32) (mma : Nat → Int32) (mch : Nat → Int32) (mre : Nat → Int32) (mlv : Nat → Int32) (mwr : Nat → Int64) (msh : Nat → Int32) (mth : Int32) (mnv : Int32) (mns : Int32) (mfa : Int32) (mmo : Int32) (x : Int32) (y : Int32) (hK : va_K D vwCl (tyA cI cJ cZ) s) (hP : va_P D vwCl (wM b cI cJ cZ mki msz mle mel mme mal mic mil mio mab mae msa mlc mli mna mva mma mch mre mlv mwr msh mth mnv mns mfa mmo) H) (hD : va_D A (wM b cI cJ cZ mki msz mle mel mme mal mic mil mio mab mae msa mlc mli mna mva mma mch mre mlv mwr msh mth mnv mns mfa mmo)) (hA : ∀ q, s.heap.size ≤ q → A q) (hS : va_S A s.heap H locs) (hl : lv_has ls 7 [(0, .ref (b 0)), (1, .int x), (2, .int y)]) {post : (Nat → Int32) → (Nat → Int64) → (Nat → Int32) → (Nat → Int32) → (Nat → Int32) → (Nat → Int32) → (Nat → Int32) → (Nat → Int32) → (Nat → Int32) → (Nat → Int32) → (Nat → Int32) → (Nat → Int32) → (Nat → Int32) → (Nat → Int32) → (Nat → Int32) → (Nat → Int32) → (Nat → Int32) → (Nat → Int32) → (Nat → Int32) → (Nat → Int32) → (Nat → Int64) → (Nat → Int32) → Int32 → Int32 → Int32 → Int32 → Int32 → Prop} (vc : V_Mo_askAll mki msz mle mel mme mal mic mil mio mab mae msa mlc mli mna mva mma mch mre mlv mwr msh mth mnv mns mfa mmo x y post)
    (hret : ∀ (mki : Nat → Int32) (msz : Nat → Int64) (mle : Nat → Int32) (mel : Nat → Int32) (mme : Nat → Int32) (mal : Nat → Int32) (mic : Nat → Int32) (mil : Nat → Int32) (mio : Nat → Int32) (mab : Nat → Int32) (mae : Nat → Int32) (msa : Nat → Int32) (mlc : Nat → Int32) (mli : Nat → Int32) (mna : Nat → Int32) (mva : Nat → Int32) (mma : Nat → Int32) (mch : Nat → Int32) (mre : Nat → Int32) (mlv : Nat → Int32) (mwr : Nat → Int64) (msh : Nat → Int32) (mth : Int32) (mnv : Int32) (mns : Int32) (mfa : Int32) (mmo : Int32) (ls : Array Slot) (pc : Nat) (H : Heap) (locs : List Loc), decode b_Mo_askAll pc = .ok (.return_, 1) → post mki msz mle mel mme mal mic mil mio mab mae msa mlc mli mna mva mma mch mre mlv mwr msh mth mnv mns mfa mmo → va_P D vwCl (wM b cI cJ cZ mki msz mle mel mme mal mic mil mio mab mae msa mlc mli mna mva mma mch mre mlv mwr msh mth mnv mns mfa mmo) H → va_D A (wM b cI cJ cZ mki msz mle mel mme mal mic mil mio mab mae msa mlc mli mna mva mma mch mre mlv mwr msh mth mnv mns mfa mmo) → va_S A s.heap H locs → W p l e R s m args below meth c H locs cells slots Q (F0 m pc ls [])) : W p l e R s m args below meth c H locs cells slots Q (F0 m 0 ls []) := by
  have hx := S.1
  have hb := S.2.1
  have hown := S.2.2.2.1
  have hts := S.2.2.2.2
  unfold V_Mo_askAll at vc
  refine lv_aload_n hx hb d_Mo_askAll_0 rfl (lv_at hl 0 rfl) ?_
  refine va_get (D := D) (ci := 6) (v := .ref (b 18)) (C := R_Mo) (T := F_Mo) (N := 27) hx hb hts in_Mo hown hK hP 0 rfl rfl 20 (by decide) (hts _ fl_Mo_63) (fun _ h => h) rfl d_Mo_askAll_1 ?_
  refine lv_bipush (v := 40) hx hb d_Mo_askAll_4 (by decide) ?_
  refine lv_iload_n hx hb d_Mo_askAll_6 rfl (lv_at hl 1 rfl) ?_
  refine lv_imul hx hb d_Mo_askAll_7 ?_
  refine lv_iload_n hx hb d_Mo_askAll_8 rfl (lv_at hl 2 rfl) ?_
  refine lv_iadd hx hb d_Mo_askAll_9 ?_
  obtain ⟨vcb, vc⟩ := vc
  refine va_iald hx hb hK hP 18 0 rfl rfl vcb d_Mo_askAll_10 ?_
  refine lv_istore_n hx hb d_Mo_askAll_11 rfl hl (by decide) (lv' := [(3, .int (mch ((40 * x) + y : Int32).toNatClampNeg)), (0, .ref (b 0)), (1, .int x), (2, .int y)]) rfl (fun ls hl => ?_)
  refine lv_aload_n hx hb d_Mo_askAll_12 rfl (lv_at hl 1 rfl) ?_
  refine lv_aload_n hx hb d_Mo_askAll_13 rfl (lv_at hl 1 rfl) ?_
  refine lv_iload_n hx hb d_Mo_askAll_14 rfl (lv_at hl 2 rfl) ?_
  refine lv_bipush (v := 17) hx hb d_Mo_askAll_15 (by decide) ?_
  obtain ⟨hpre, vc⟩ := vc
  refine pc_V (As := [.int x, .int 17]) (rest := [.ref (b 0)]) S (c_Mo_said l D b cI cJ cZ mki msz mle mel mme mal mic mil mio mab mae msa mlc mli mna mva mma mch mre mlv mwr msh mth mnv mns mfa mmo x 17 hpre) wB_blind k_Mo_said i_Mo_said e_Mo_said o_Mo ml_Mo_141 hd_Mo_said (Nat.le_trans (by decide) hRf) (Nat.le_trans (by decide) hRl) hRc (va_recv hK hP (q0 := 0) (ci := 6) rfl rfl) (wB_at hP hK) hl.1 rfl (Nat.le_of_ble_eq_true rfl) d_Mo_askAll_17 ?_
  refine lv_iload_n hx hb d_Mo_askAll_20 rfl (lv_at hl 3 rfl) ?_
  refine lv_iload_n hx hb d_Mo_askAll_21 rfl (lv_at hl 0 rfl) ?_
  obtain ⟨hpre, vc⟩ := vc
  refine wc_V (As := [.int (msa (29 * x + 17 : Int32).toNatClampNeg), .int y, .int (mch ((40 * x) + y : Int32).toNatClampNeg)]) (rest := []) (wr := ([] : va_W)) S (c_Mo_ask l D b cI cJ cZ mki msz mle mel mme mal mic mil mio mab mae msa mlc mli mna mva mma mch mre mlv mwr msh mth mnv mns mfa mmo (msa (29 * x + 17 : Int32).toNatClampNeg) y (mch ((40 * x) + y : Int32).toNatClampNeg) hpre) k_Mo_ask i_Mo_ask e_Mo_ask o_Mo ml_Mo_234 hd_Mo_ask (Nat.le_trans (by decide) hRf) (Nat.le_trans (by decide) hRl) hRc (va_recv hK hP (q0 := 0) (ci := 6) rfl rfl) hK hP hD hS hA [0, 1, 2, 3, 4, 5, 6, 7, 8, 9, 10, 11, 12, 13, 14, 15, 16, 17, 18, 19, 20, 21, 22] [] rfl rfl rfl (by decide) (by decide) (by decide) hl.1 rfl (Nat.le_of_ble_eq_true rfl) d_Mo_askAll_22 (fun f1 H locs hu hP hD hS => ?_)
  have vc := vc f1 hu
  clear hu
  have hP : va_P D vwCl (wM b cI cJ cZ mki msz mle mel mme mal mic mil mio mab mae msa mlc mli mna mva mma f1 mre mlv mwr msh mth mnv mns mfa mmo) H := hP
  have hD : va_D A (wM b cI cJ cZ mki msz mle mel mme mal mic mil mio mab mae msa mlc mli mna mva mma f1 mre mlv mwr msh mth mnv mns mfa mmo) := hD
  refine lv_aload_n hx hb d_Mo_askAll_25 rfl (lv_at hl 1 rfl) ?_
  refine lv_aload_n hx hb d_Mo_askAll_26 rfl (lv_at hl 1 rfl) ?_
  refine lv_iload_n hx hb d_Mo_askAll_27 rfl (lv_at hl 2 rfl) ?_
  refine lv_bipush (v := 18) hx hb d_Mo_askAll_28 (by decide) ?_
  obtain ⟨hpre, vc⟩ := vc
  refine pc_V (As := [.int x, .int 18]) (rest := [.ref (b 0)]) S (c_Mo_said l D b cI cJ cZ mki msz mle mel mme mal mic mil mio mab mae msa mlc mli mna mva mma f1 mre mlv mwr msh mth mnv mns mfa mmo x 18 hpre) wB_blind k_Mo_said i_Mo_said e_Mo_said o_Mo ml_Mo_141 hd_Mo_said (Nat.le_trans (by decide) hRf) (Nat.le_trans (by decide) hRl) hRc (va_recv hK hP (q0 := 0) (ci := 6) rfl rfl) (wB_at hP hK) hl.1 rfl (Nat.le_of_ble_eq_true rfl) d_Mo_askAll_30 ?_
  refine lv_iload_n hx hb d_Mo_askAll_33 rfl (lv_at hl 3 rfl) ?_
  refine lv_iload_n hx hb d_Mo_askAll_34 rfl (lv_at hl 0 rfl) ?_
  obtain ⟨hpre, vc⟩ := vc
  refine wc_V (As := [.int (msa (29 * x + 18 : Int32).toNatClampNeg), .int y, .int (mch ((40 * x) + y : Int32).toNatClampNeg)]) (rest := []) (wr := ([] : va_W)) S (c_Mo_ask l D b cI cJ cZ mki msz mle mel mme mal mic mil mio mab mae msa mlc mli mna mva mma f1 mre mlv mwr msh mth mnv mns mfa mmo (msa (29 * x + 18 : Int32).toNatClampNeg) y (mch ((40 * x) + y : Int32).toNatClampNeg) hpre) k_Mo_ask i_Mo_ask e_Mo_ask o_Mo ml_Mo_234 hd_Mo_ask (Nat.le_trans (by decide) hRf) (Nat.le_trans (by decide) hRl) hRc (va_recv hK hP (q0 := 0) (ci := 6) rfl rfl) hK hP hD hS hA [0, 1, 2, 3, 4, 5, 6, 7, 8, 9, 10, 11, 12, 13, 14, 15, 16, 17, 18, 19, 20, 21, 22] [] rfl rfl rfl (by decide) (by decide) (by decide) hl.1 rfl (Nat.le_of_ble_eq_true rfl) d_Mo_askAll_35 (fun f2 H locs hu hP hD hS => ?_)
  have vc := vc f2 hu
  clear hu
  have hP : va_P D vwCl (wM b cI cJ cZ mki msz mle mel mme mal mic mil mio mab mae msa mlc mli mna mva mma f2 mre mlv mwr msh mth mnv mns mfa mmo) H := hP
  have hD : va_D A (wM b cI cJ cZ mki msz mle mel mme mal mic mil mio mab mae msa mlc mli mna mva mma f2 mre mlv mwr msh mth mnv mns mfa mmo) := hD
  refine lv_aload_n hx hb d_Mo_askAll_38 rfl (lv_at hl 1 rfl) ?_
  refine lv_aload_n hx hb d_Mo_askAll_39 rfl (lv_at hl 1 rfl) ?_
  refine lv_iload_n hx hb d_Mo_askAll_40 rfl (lv_at hl 2 rfl) ?_
  refine lv_iload_n hx hb d_Mo_askAll_41 rfl (lv_at hl 3 rfl) ?_
  refine lv_bipush (v := 19) hx hb d_Mo_askAll_42 (by decide) ?_
  obtain ⟨hpre, vc⟩ := vc
  refine wc_V (As := [.int x, .int y, .int 19]) (rest := [.ref (b 0)]) (wr := ([] : va_W)) S (c_Mo_turns l D b cI cJ cZ mki msz mle mel mme mal mic mil mio mab mae msa mlc mli mna mva mma f2 mre mlv mwr msh mth mnv mns mfa mmo x y 19 hpre) k_Mo_turns i_Mo_turns e_Mo_turns o_Mo ml_Mo_205 hd_Mo_turns (Nat.le_trans (by decide) hRf) (Nat.le_trans (by decide) hRl) hRc (va_recv hK hP (q0 := 0) (ci := 6) rfl rfl) hK hP hD hS hA [0, 1, 2, 3, 4, 5, 6, 7, 8, 9, 10, 11, 12, 13, 14, 15, 16, 17, 18, 19, 20, 21, 22] [] rfl rfl rfl (by decide) (by decide) (by decide) hl.1 rfl (Nat.le_of_ble_eq_true rfl) d_Mo_askAll_44 (fun t3 H locs hu hP hD hS => ?_)
  have vc := vc t3 hu
  clear hu
  have hP : va_P D vwCl (wM b cI cJ cZ mki msz mle mel mme mal mic mil mio mab mae msa mlc mli mna mva mma f2 mre mlv mwr msh mth mnv mns mfa mmo) H := hP
  have hD : va_D A (wM b cI cJ cZ mki msz mle mel mme mal mic mil mio mab mae msa mlc mli mna mva mma f2 mre mlv mwr msh mth mnv mns mfa mmo) := hD
  obtain ⟨J4, vc, vc2⟩ := vc
  have jJ4 : ∀ (x5 : Int32) (ls : Array Slot) (H : Heap) (locs : List Loc), J4 x5 → lv_has ls 7 [(0, .ref (b 0)), (1, .int x), (2, .int y), (3, .int (mch ((40 * x) + y : Int32).toNatClampNeg))] → va_P D vwCl (wM b cI cJ cZ mki msz mle mel mme mal mic mil mio mab mae msa mlc mli mna mva mma f2 mre mlv mwr msh mth mnv mns mfa mmo) H → va_D A (wM b cI cJ cZ mki msz mle mel mme mal mic mil mio mab mae msa mlc mli mna mva mma f2 mre mlv mwr msh mth mnv mns mfa mmo) → va_S A s.heap H locs → W p l e R s m args below meth c H locs cells slots Q (F0 m 61 ls [.int x5, .ref (b 0)]) := by
    intro x5 ls H locs vc hl hP hD hS
    have vc := vc2 x5 vc
    refine lv_iload_n hx hb d_Mo_askAll_61 rfl (lv_at hl 2 rfl) ?_
    refine lv_iload_n hx hb d_Mo_askAll_62 rfl (lv_at hl 3 rfl) ?_
    obtain ⟨hpre, vc⟩ := vc
    refine wc_V (As := [.int x5, .int y, .int (mch ((40 * x) + y : Int32).toNatClampNeg)]) (rest := []) (wr := ([] : va_W)) S (c_Mo_ask l D b cI cJ cZ mki msz mle mel mme mal mic mil mio mab mae msa mlc mli mna mva mma f2 mre mlv mwr msh mth mnv mns mfa mmo x5 y (mch ((40 * x) + y : Int32).toNatClampNeg) hpre) k_Mo_ask i_Mo_ask e_Mo_ask o_Mo ml_Mo_234 hd_Mo_ask (Nat.le_trans (by decide) hRf) (Nat.le_trans (by decide) hRl) hRc (va_recv hK hP (q0 := 0) (ci := 6) rfl rfl) hK hP hD hS hA [0, 1, 2, 3, 4, 5, 6, 7, 8, 9, 10, 11, 12, 13, 14, 15, 16, 17, 18, 19, 20, 21, 22] [] rfl rfl rfl (by decide) (by decide) (by decide) hl.1 rfl (Nat.le_of_ble_eq_true rfl) d_Mo_askAll_63 (fun f6 H locs hu hP hD hS => ?_)
    have vc := vc f6 hu
    clear hu
    have hP : va_P D vwCl (wM b cI cJ cZ mki msz mle mel mme mal mic mil mio mab mae msa mlc mli mna mva mma f6 mre mlv mwr msh mth mnv mns mfa mmo) H := hP
    have hD : va_D A (wM b cI cJ cZ mki msz mle mel mme mal mic mil mio mab mae msa mlc mli mna mva mma f6 mre mlv mwr msh mth mnv mns mfa mmo) := hD
    refine lv_aload_n hx hb d_Mo_askAll_66 rfl (lv_at hl 0 rfl) ?_
    refine lv_aload_n hx hb d_Mo_askAll_67 rfl (lv_at hl 0 rfl) ?_
    refine lv_iload_n hx hb d_Mo_askAll_68 rfl (lv_at hl 1 rfl) ?_
    refine lv_iload_n hx hb d_Mo_askAll_69 rfl (lv_at hl 2 rfl) ?_
    refine lv_bipush (v := 20) hx hb d_Mo_askAll_70 (by decide) ?_
    obtain ⟨hpre, vc⟩ := vc
    refine wc_V (As := [.int x, .int y, .int 20]) (rest := [.ref (b 0)]) (wr := ([] : va_W)) S (c_Mo_turns l D b cI cJ cZ mki msz mle mel mme mal mic mil mio mab mae msa mlc mli mna mva mma f6 mre mlv mwr msh mth mnv mns mfa mmo x y 20 hpre) k_Mo_turns i_Mo_turns e_Mo_turns o_Mo ml_Mo_205 hd_Mo_turns (Nat.le_trans (by decide) hRf) (Nat.le_trans (by decide) hRl) hRc (va_recv hK hP (q0 := 0) (ci := 6) rfl rfl) hK hP hD hS hA [0, 1, 2, 3, 4, 5, 6, 7, 8, 9, 10, 11, 12, 13, 14, 15, 16, 17, 18, 19, 20, 21, 22] [] rfl rfl rfl (by decide) (by decide) (by decide) hl.1 rfl (Nat.le_of_ble_eq_true rfl) d_Mo_askAll_72 (fun t7 H locs hu hP hD hS => ?_)
    have vc := vc t7 hu
    clear hu
    have hP : va_P D vwCl (wM b cI cJ cZ mki msz mle mel mme mal mic mil mio mab mae msa mlc mli mna mva mma f6 mre mlv mwr msh mth mnv mns mfa mmo) H := hP
    have hD : va_D A (wM b cI cJ cZ mki msz mle mel mme mal mic mil mio mab mae msa mlc mli mna mva mma f6 mre mlv mwr msh mth mnv mns mfa mmo) := hD
    obtain ⟨J8, vc, vc2⟩ := vc
    have jJ8 : ∀ (x9 : Int32) (ls : Array Slot) (H : Heap) (locs : List Loc), J8 x9 → lv_has ls 7 [(0, .ref (b 0)), (1, .int x), (2, .int y), (3, .int (mch ((40 * x) + y : Int32).toNatClampNeg))] → va_P D vwCl (wM b cI cJ cZ mki msz mle mel mme mal mic mil mio mab mae msa mlc mli mna mva mma f6 mre mlv mwr msh mth mnv mns mfa mmo) H → va_D A (wM b cI cJ cZ mki msz mle mel mme mal mic mil mio mab mae msa mlc mli mna mva mma f6 mre mlv mwr msh mth mnv mns mfa mmo) → va_S A s.heap H locs → W p l e R s m args below meth c H locs cells slots Q (F0 m 89 ls [.int x9, .ref (b 0)]) := by
      intro x9 ls H locs vc hl hP hD hS
      have vc := vc2 x9 vc
      refine lv_iload_n hx hb d_Mo_askAll_89 rfl (lv_at hl 2 rfl) ?_
      refine lv_iload_n hx hb d_Mo_askAll_90 rfl (lv_at hl 3 rfl) ?_
      obtain ⟨hpre, vc⟩ := vc
      refine wc_V (As := [.int x9, .int y, .int (mch ((40 * x) + y : Int32).toNatClampNeg)]) (rest := []) (wr := ([] : va_W)) S (c_Mo_ask l D b cI cJ cZ mki msz mle mel mme mal mic mil mio mab mae msa mlc mli mna mva mma f6 mre mlv mwr msh mth mnv mns mfa mmo x9 y (mch ((40 * x) + y : Int32).toNatClampNeg) hpre) k_Mo_ask i_Mo_ask e_Mo_ask o_Mo ml_Mo_234 hd_Mo_ask (Nat.le_trans (by decide) hRf) (Nat.le_trans (by decide) hRl) hRc (va_recv hK hP (q0 := 0) (ci := 6) rfl rfl) hK hP hD hS hA [0, 1, 2, 3, 4, 5, 6, 7, 8, 9, 10, 11, 12, 13, 14, 15, 16, 17, 18, 19, 20, 21, 22] [] rfl rfl rfl (by decide) (by decide) (by decide) hl.1 rfl (Nat.le_of_ble_eq_true rfl) d_Mo_askAll_91 (fun f10 H locs hu hP hD hS => ?_)
      have vc := vc f10 hu
      clear hu
      have hP : va_P D vwCl (wM b cI cJ cZ mki msz mle mel mme mal mic mil mio mab mae msa mlc mli mna mva mma f10 mre mlv mwr msh mth mnv mns mfa mmo) H := hP
      have hD : va_D A (wM b cI cJ cZ mki msz mle mel mme mal mic mil mio mab mae msa mlc mli mna mva mma f10 mre mlv mwr msh mth mnv mns mfa mmo) := hD
      refine lv_aload_n hx hb d_Mo_askAll_94 rfl (lv_at hl 0 rfl) ?_
      refine lv_aload_n hx hb d_Mo_askAll_95 rfl (lv_at hl 0 rfl) ?_
      refine lv_iload_n hx hb d_Mo_askAll_96 rfl (lv_at hl 1 rfl) ?_
      refine lv_bipush (v := 21) hx hb d_Mo_askAll_97 (by decide) ?_
      obtain ⟨hpre, vc⟩ := vc
      refine pc_V (As := [.int x, .int 21]) (rest := [.ref (b 0)]) S (c_Mo_said l D b cI cJ cZ mki msz mle mel mme mal mic mil mio mab mae msa mlc mli mna mva mma f10 mre mlv mwr msh mth mnv mns mfa mmo x 21 hpre) wB_blind k_Mo_said i_Mo_said e_Mo_said o_Mo ml_Mo_141 hd_Mo_said (Nat.le_trans (by decide) hRf) (Nat.le_trans (by decide) hRl) hRc (va_recv hK hP (q0 := 0) (ci := 6) rfl rfl) (wB_at hP hK) hl.1 rfl (Nat.le_of_ble_eq_true rfl) d_Mo_askAll_99 ?_
      refine lv_iload_n hx hb d_Mo_askAll_102 rfl (lv_at hl 2 rfl) ?_
      refine lv_iload_n hx hb d_Mo_askAll_103 rfl (lv_at hl 3 rfl) ?_
      obtain ⟨hpre, vc⟩ := vc
      refine wc_V (As := [.int (msa (29 * x + 21 : Int32).toNatClampNeg), .int y, .int (mch ((40 * x) + y : Int32).toNatClampNeg)]) (rest := []) (wr := ([] : va_W)) S (c_Mo_ask l D b cI cJ cZ mki msz mle mel mme mal mic mil mio mab mae msa mlc mli mna mva mma f10 mre mlv mwr msh mth mnv mns mfa mmo (msa (29 * x + 21 : Int32).toNatClampNeg) y (mch ((40 * x) + y : Int32).toNatClampNeg) hpre) k_Mo_ask i_Mo_ask e_Mo_ask o_Mo ml_Mo_234 hd_Mo_ask (Nat.le_trans (by decide) hRf) (Nat.le_trans (by decide) hRl) hRc (va_recv hK hP (q0 := 0) (ci := 6) rfl rfl) hK hP hD hS hA [0, 1, 2, 3, 4, 5, 6, 7, 8, 9, 10, 11, 12, 13, 14, 15, 16, 17, 18, 19, 20, 21, 22] [] rfl rfl rfl (by decide) (by decide) (by decide) hl.1 rfl (Nat.le_of_ble_eq_true rfl) d_Mo_askAll_104 (fun f11 H locs hu hP hD hS => ?_)
      have vc := vc f11 hu
      clear hu
      have hP : va_P D vwCl (wM b cI cJ cZ mki msz mle mel mme mal mic mil mio mab mae msa mlc mli mna mva mma f11 mre mlv mwr msh mth mnv mns mfa mmo) H := hP
      have hD : va_D A (wM b cI cJ cZ mki msz mle mel mme mal mic mil mio mab mae msa mlc mli mna mva mma f11 mre mlv mwr msh mth mnv mns mfa mmo) := hD
      refine lv_aload_n hx hb d_Mo_askAll_107 rfl (lv_at hl 0 rfl) ?_
      refine lv_aload_n hx hb d_Mo_askAll_108 rfl (lv_at hl 0 rfl) ?_
      refine lv_iload_n hx hb d_Mo_askAll_109 rfl (lv_at hl 1 rfl) ?_
      refine lv_bipush (v := 22) hx hb d_Mo_askAll_110 (by decide) ?_
      obtain ⟨hpre, vc⟩ := vc
      refine pc_V (As := [.int x, .int 22]) (rest := [.ref (b 0)]) S (c_Mo_said l D b cI cJ cZ mki msz mle mel mme mal mic mil mio mab mae msa mlc mli mna mva mma f11 mre mlv mwr msh mth mnv mns mfa mmo x 22 hpre) wB_blind k_Mo_said i_Mo_said e_Mo_said o_Mo ml_Mo_141 hd_Mo_said (Nat.le_trans (by decide) hRf) (Nat.le_trans (by decide) hRl) hRc (va_recv hK hP (q0 := 0) (ci := 6) rfl rfl) (wB_at hP hK) hl.1 rfl (Nat.le_of_ble_eq_true rfl) d_Mo_askAll_112 ?_
      refine lv_iload_n hx hb d_Mo_askAll_115 rfl (lv_at hl 2 rfl) ?_
      refine lv_iconst (v := (-1)) hx hb d_Mo_askAll_116 (by decide) ?_
      refine lv_aload_n hx hb d_Mo_askAll_117 rfl (lv_at hl 0 rfl) ?_
      refine lv_iload_n hx hb d_Mo_askAll_118 rfl (lv_at hl 1 rfl) ?_
      refine lv_bipush (v := 32) hx hb d_Mo_askAll_119 (by decide) ?_
      obtain ⟨hpre, vc⟩ := vc
      refine pc_V (As := [.int x, .int 32]) (rest := [.int (-1), .int y, .int (msa (29 * x + 22 : Int32).toNatClampNeg), .ref (b 0)]) S (c_Mo_many l D b cI cJ cZ mki msz mle mel mme mal mic mil mio mab mae msa mlc mli mna mva mma f11 mre mlv mwr msh mth mnv mns mfa mmo x 32 hpre) wB_blind k_Mo_many i_Mo_many e_Mo_many o_Mo ml_Mo_148 hd_Mo_many (Nat.le_trans (by decide) hRf) (Nat.le_trans (by decide) hRl) hRc (va_recv hK hP (q0 := 0) (ci := 6) rfl rfl) (wB_at hP hK) hl.1 rfl (Nat.le_of_ble_eq_true rfl) d_Mo_askAll_121 ?_
      refine lv_ishl hx hb d_Mo_askAll_124 ?_
      refine lv_iload_n hx hb d_Mo_askAll_125 rfl (lv_at hl 3 rfl) ?_
      obtain ⟨hpre, vc⟩ := vc
      refine wc_V (As := [.int (msa (29 * x + 22 : Int32).toNatClampNeg), .int y, .int ((-1) <<< ((mlc (4 * x + 32 - 29 : Int32).toNatClampNeg) &&& 31)), .int (mch ((40 * x) + y : Int32).toNatClampNeg)]) (rest := []) (wr := ([] : va_W)) S (c_Mo_askElements l D b cI cJ cZ mki msz mle mel mme mal mic mil mio mab mae msa mlc mli mna mva mma f11 mre mlv mwr msh mth mnv mns mfa mmo (msa (29 * x + 22 : Int32).toNatClampNeg) y ((-1) <<< ((mlc (4 * x + 32 - 29 : Int32).toNatClampNeg) &&& 31)) (mch ((40 * x) + y : Int32).toNatClampNeg) hpre) k_Mo_askElements i_Mo_askElements e_Mo_askElements o_Mo ml_Mo_238 hd_Mo_askElements (Nat.le_trans (by decide) hRf) (Nat.le_trans (by decide) hRl) hRc (va_recv hK hP (q0 := 0) (ci := 6) rfl rfl) hK hP hD hS hA [0, 1, 2, 3, 4, 5, 6, 7, 8, 9, 10, 11, 12, 13, 14, 15, 16, 17, 18, 19, 20, 21, 22] [] rfl rfl rfl (by decide) (by decide) (by decide) hl.1 rfl (Nat.le_of_ble_eq_true rfl) d_Mo_askAll_126 (fun f12 H locs hu hP hD hS => ?_)
      have vc := vc f12 hu
      clear hu
      have hP : va_P D vwCl (wM b cI cJ cZ mki msz mle mel mme mal mic mil mio mab mae msa mlc mli mna mva mma f12 mre mlv mwr msh mth mnv mns mfa mmo) H := hP
      have hD : va_D A (wM b cI cJ cZ mki msz mle mel mme mal mic mil mio mab mae msa mlc mli mna mva mma f12 mre mlv mwr msh mth mnv mns mfa mmo) := hD
      refine lv_aload_n hx hb d_Mo_askAll_129 rfl (lv_at hl 0 rfl) ?_
      refine lv_aload_n hx hb d_Mo_askAll_130 rfl (lv_at hl 0 rfl) ?_
      refine lv_iload_n hx hb d_Mo_askAll_131 rfl (lv_at hl 1 rfl) ?_
      refine lv_bipush (v := 23) hx hb d_Mo_askAll_132 (by decide) ?_
      obtain ⟨hpre, vc⟩ := vc
      refine pc_V (As := [.int x, .int 23]) (rest := [.ref (b 0)]) S (c_Mo_said l D b cI cJ cZ mki msz mle mel mme mal mic mil mio mab mae msa mlc mli mna mva mma f12 mre mlv mwr msh mth mnv mns mfa mmo x 23 hpre) wB_blind k_Mo_said i_Mo_said e_Mo_said o_Mo ml_Mo_141 hd_Mo_said (Nat.le_trans (by decide) hRf) (Nat.le_trans (by decide) hRl) hRc (va_recv hK hP (q0 := 0) (ci := 6) rfl rfl) (wB_at hP hK) hl.1 rfl (Nat.le_of_ble_eq_true rfl) d_Mo_askAll_134 ?_
      refine lv_iload_n hx hb d_Mo_askAll_137 rfl (lv_at hl 2 rfl) ?_
      refine lv_iconst (v := (-1)) hx hb d_Mo_askAll_138 (by decide) ?_
      refine lv_iload_n hx hb d_Mo_askAll_139 rfl (lv_at hl 3 rfl) ?_
      obtain ⟨hpre, vc⟩ := vc
      refine wc_V (As := [.int (msa (29 * x + 23 : Int32).toNatClampNeg), .int y, .int (-1), .int (mch ((40 * x) + y : Int32).toNatClampNeg)]) (rest := []) (wr := ([] : va_W)) S (c_Mo_askElements l D b cI cJ cZ mki msz mle mel mme mal mic mil mio mab mae msa mlc mli mna mva mma f12 mre mlv mwr msh mth mnv mns mfa mmo (msa (29 * x + 23 : Int32).toNatClampNeg) y (-1) (mch ((40 * x) + y : Int32).toNatClampNeg) hpre) k_Mo_askElements i_Mo_askElements e_Mo_askElements o_Mo ml_Mo_238 hd_Mo_askElements (Nat.le_trans (by decide) hRf) (Nat.le_trans (by decide) hRl) hRc (va_recv hK hP (q0 := 0) (ci := 6) rfl rfl) hK hP hD hS hA [0, 1, 2, 3, 4, 5, 6, 7, 8, 9, 10, 11, 12, 13, 14, 15, 16, 17, 18, 19, 20, 21, 22] [] rfl rfl rfl (by decide) (by decide) (by decide) hl.1 rfl (Nat.le_of_ble_eq_true rfl) d_Mo_askAll_140 (fun f13 H locs hu hP hD hS => ?_)
      have vc := vc f13 hu
      clear hu
      have hP : va_P D vwCl (wM b cI cJ cZ mki msz mle mel mme mal mic mil mio mab mae msa mlc mli mna mva mma f13 mre mlv mwr msh mth mnv mns mfa mmo) H := hP
      have hD : va_D A (wM b cI cJ cZ mki msz mle mel mme mal mic mil mio mab mae msa mlc mli mna mva mma f13 mre mlv mwr msh mth mnv mns mfa mmo) := hD
      refine lv_aload_n hx hb d_Mo_askAll_143 rfl (lv_at hl 0 rfl) ?_
      refine lv_aload_n hx hb d_Mo_askAll_144 rfl (lv_at hl 0 rfl) ?_
      refine lv_iload_n hx hb d_Mo_askAll_145 rfl (lv_at hl 1 rfl) ?_
      refine lv_bipush (v := 26) hx hb d_Mo_askAll_146 (by decide) ?_
      obtain ⟨hpre, vc⟩ := vc
      refine pc_V (As := [.int x, .int 26]) (rest := [.ref (b 0)]) S (c_Mo_said l D b cI cJ cZ mki msz mle mel mme mal mic mil mio mab mae msa mlc mli mna mva mma f13 mre mlv mwr msh mth mnv mns mfa mmo x 26 hpre) wB_blind k_Mo_said i_Mo_said e_Mo_said o_Mo ml_Mo_141 hd_Mo_said (Nat.le_trans (by decide) hRf) (Nat.le_trans (by decide) hRl) hRc (va_recv hK hP (q0 := 0) (ci := 6) rfl rfl) (wB_at hP hK) hl.1 rfl (Nat.le_of_ble_eq_true rfl) d_Mo_askAll_148 ?_
      refine lv_iload_n hx hb d_Mo_askAll_151 rfl (lv_at hl 2 rfl) ?_
      refine lv_aload_n hx hb d_Mo_askAll_152 rfl (lv_at hl 0 rfl) ?_
      refine lv_iload_n hx hb d_Mo_askAll_153 rfl (lv_at hl 1 rfl) ?_
      refine lv_iload_n hx hb d_Mo_askAll_154 rfl (lv_at hl 2 rfl) ?_
      obtain ⟨hpre, vc⟩ := vc
      refine wc_V (As := [.int x, .int y]) (rest := [.int y, .int (msa (29 * x + 26 : Int32).toNatClampNeg), .ref (b 0)]) (wr := ([] : va_W)) S (c_Mo_additional l D b cI cJ cZ mki msz mle mel mme mal mic mil mio mab mae msa mlc mli mna mva mma f13 mre mlv mwr msh mth mnv mns mfa mmo x y hpre) k_Mo_additional i_Mo_additional e_Mo_additional o_Mo ml_Mo_199 hd_Mo_additional (Nat.le_trans (by decide) hRf) (Nat.le_trans (by decide) hRl) hRc (va_recv hK hP (q0 := 0) (ci := 6) rfl rfl) hK hP hD hS hA [0, 1, 2, 3, 4, 5, 6, 7, 8, 9, 10, 11, 12, 13, 14, 15, 16, 17, 18, 19, 20, 21, 22] [] rfl rfl rfl (by decide) (by decide) (by decide) hl.1 rfl (Nat.le_of_ble_eq_true rfl) d_Mo_askAll_155 (fun x14 H locs hu hP hD hS => ?_)
      have vc := vc x14 hu
      clear hu
      have hP : va_P D vwCl (wM b cI cJ cZ mki msz mle mel mme mal mic mil mio mab mae msa mlc mli mna mva mma f13 mre mlv mwr msh mth mnv mns mfa mmo) H := hP
      have hD : va_D A (wM b cI cJ cZ mki msz mle mel mme mal mic mil mio mab mae msa mlc mli mna mva mma f13 mre mlv mwr msh mth mnv mns mfa mmo) := hD
      refine lv_iload_n hx hb d_Mo_askAll_158 rfl (lv_at hl 3 rfl) ?_
      obtain ⟨hpre, vc⟩ := vc
      refine wc_V (As := [.int (msa (29 * x + 26 : Int32).toNatClampNeg), .int y, .int x14, .int (mch ((40 * x) + y : Int32).toNatClampNeg)]) (rest := []) (wr := ([] : va_W)) S (c_Mo_askMembers l D b cI cJ cZ mki msz mle mel mme mal mic mil mio mab mae msa mlc mli mna mva mma f13 mre mlv mwr msh mth mnv mns mfa mmo (msa (29 * x + 26 : Int32).toNatClampNeg) y x14 (mch ((40 * x) + y : Int32).toNatClampNeg) hpre) k_Mo_askMembers i_Mo_askMembers e_Mo_askMembers o_Mo ml_Mo_242 hd_Mo_askMembers (Nat.le_trans (by decide) hRf) (Nat.le_trans (by decide) hRl) hRc (va_recv hK hP (q0 := 0) (ci := 6) rfl rfl) hK hP hD hS hA [0, 1, 2, 3, 4, 5, 6, 7, 8, 9, 10, 11, 12, 13, 14, 15, 16, 17, 18, 19, 20, 21, 22] [] rfl rfl rfl (by decide) (by decide) (by decide) hl.1 rfl (Nat.le_of_ble_eq_true rfl) d_Mo_askAll_159 (fun f15 H locs hu hP hD hS => ?_)
      have vc := vc f15 hu
      clear hu
      have hP : va_P D vwCl (wM b cI cJ cZ mki msz mle mel mme mal mic mil mio mab mae msa mlc mli mna mva mma f15 mre mlv mwr msh mth mnv mns mfa mmo) H := hP
      have hD : va_D A (wM b cI cJ cZ mki msz mle mel mme mal mic mil mio mab mae msa mlc mli mna mva mma f15 mre mlv mwr msh mth mnv mns mfa mmo) := hD
      refine lv_aload_n hx hb d_Mo_askAll_162 rfl (lv_at hl 0 rfl) ?_
      refine lv_aload_n hx hb d_Mo_askAll_163 rfl (lv_at hl 0 rfl) ?_
      refine lv_iload_n hx hb d_Mo_askAll_164 rfl (lv_at hl 1 rfl) ?_
      refine lv_bipush (v := 27) hx hb d_Mo_askAll_165 (by decide) ?_
      obtain ⟨hpre, vc⟩ := vc
      refine pc_V (As := [.int x, .int 27]) (rest := [.ref (b 0)]) S (c_Mo_said l D b cI cJ cZ mki msz mle mel mme mal mic mil mio mab mae msa mlc mli mna mva mma f15 mre mlv mwr msh mth mnv mns mfa mmo x 27 hpre) wB_blind k_Mo_said i_Mo_said e_Mo_said o_Mo ml_Mo_141 hd_Mo_said (Nat.le_trans (by decide) hRf) (Nat.le_trans (by decide) hRl) hRc (va_recv hK hP (q0 := 0) (ci := 6) rfl rfl) (wB_at hP hK) hl.1 rfl (Nat.le_of_ble_eq_true rfl) d_Mo_askAll_167 ?_
      refine lv_iload_n hx hb d_Mo_askAll_170 rfl (lv_at hl 2 rfl) ?_
      refine lv_aload_n hx hb d_Mo_askAll_171 rfl (lv_at hl 0 rfl) ?_
      refine lv_iload_n hx hb d_Mo_askAll_172 rfl (lv_at hl 1 rfl) ?_
      refine lv_iload_n hx hb d_Mo_askAll_173 rfl (lv_at hl 2 rfl) ?_
      obtain ⟨hpre, vc⟩ := vc
      refine wc_V (As := [.int x, .int y]) (rest := [.int y, .int (msa (29 * x + 27 : Int32).toNatClampNeg), .ref (b 0)]) (wr := ([] : va_W)) S (c_Mo_marksOf l D b cI cJ cZ mki msz mle mel mme mal mic mil mio mab mae msa mlc mli mna mva mma f15 mre mlv mwr msh mth mnv mns mfa mmo x y hpre) k_Mo_marksOf i_Mo_marksOf e_Mo_marksOf o_Mo ml_Mo_215 hd_Mo_marksOf (Nat.le_trans (by decide) hRf) (Nat.le_trans (by decide) hRl) hRc (va_recv hK hP (q0 := 0) (ci := 6) rfl rfl) hK hP hD hS hA [0, 1, 2, 3, 4, 5, 6, 7, 8, 9, 10, 11, 12, 13, 14, 15, 16, 17, 18, 19, 20, 21, 22] [] rfl rfl rfl (by decide) (by decide) (by decide) hl.1 rfl (Nat.le_of_ble_eq_true rfl) d_Mo_askAll_174 (fun x16 H locs hu hP hD hS => ?_)
      have vc := vc x16 hu
      clear hu
      have hP : va_P D vwCl (wM b cI cJ cZ mki msz mle mel mme mal mic mil mio mab mae msa mlc mli mna mva mma f15 mre mlv mwr msh mth mnv mns mfa mmo) H := hP
      have hD : va_D A (wM b cI cJ cZ mki msz mle mel mme mal mic mil mio mab mae msa mlc mli mna mva mma f15 mre mlv mwr msh mth mnv mns mfa mmo) := hD
      refine lv_iconst (v := (-1)) hx hb d_Mo_askAll_177 (by decide) ?_
      refine lv_ixor hx hb d_Mo_askAll_178 ?_
      refine lv_iload_n hx hb d_Mo_askAll_179 rfl (lv_at hl 3 rfl) ?_
      obtain ⟨hpre, vc⟩ := vc
      refine wc_V (As := [.int (msa (29 * x + 27 : Int32).toNatClampNeg), .int y, .int (x16 ^^^ (-1)), .int (mch ((40 * x) + y : Int32).toNatClampNeg)]) (rest := []) (wr := ([] : va_W)) S (c_Mo_askMembers l D b cI cJ cZ mki msz mle mel mme mal mic mil mio mab mae msa mlc mli mna mva mma f15 mre mlv mwr msh mth mnv mns mfa mmo (msa (29 * x + 27 : Int32).toNatClampNeg) y (x16 ^^^ (-1)) (mch ((40 * x) + y : Int32).toNatClampNeg) hpre) k_Mo_askMembers i_Mo_askMembers e_Mo_askMembers o_Mo ml_Mo_242 hd_Mo_askMembers (Nat.le_trans (by decide) hRf) (Nat.le_trans (by decide) hRl) hRc (va_recv hK hP (q0 := 0) (ci := 6) rfl rfl) hK hP hD hS hA [0, 1, 2, 3, 4, 5, 6, 7, 8, 9, 10, 11, 12, 13, 14, 15, 16, 17, 18, 19, 20, 21, 22] [] rfl rfl rfl (by decide) (by decide) (by decide) hl.1 rfl (Nat.le_of_ble_eq_true rfl) d_Mo_askAll_180 (fun f17 H locs hu hP hD hS => ?_)
      have vc := vc f17 hu
      clear hu
      have hP : va_P D vwCl (wM b cI cJ cZ mki msz mle mel mme mal mic mil mio mab mae msa mlc mli mna mva mma f17 mre mlv mwr msh mth mnv mns mfa mmo) H := hP
      have hD : va_D A (wM b cI cJ cZ mki msz mle mel mme mal mic mil mio mab mae msa mlc mli mna mva mma f17 mre mlv mwr msh mth mnv mns mfa mmo) := hD
      refine lv_aload_n hx hb d_Mo_askAll_183 rfl (lv_at hl 0 rfl) ?_
      refine lv_aload_n hx hb d_Mo_askAll_184 rfl (lv_at hl 0 rfl) ?_
      refine lv_iload_n hx hb d_Mo_askAll_185 rfl (lv_at hl 1 rfl) ?_
      refine lv_bipush (v := 28) hx hb d_Mo_askAll_186 (by decide) ?_
      obtain ⟨hpre, vc⟩ := vc
      refine pc_V (As := [.int x, .int 28]) (rest := [.ref (b 0)]) S (c_Mo_said l D b cI cJ cZ mki msz mle mel mme mal mic mil mio mab mae msa mlc mli mna mva mma f17 mre mlv mwr msh mth mnv mns mfa mmo x 28 hpre) wB_blind k_Mo_said i_Mo_said e_Mo_said o_Mo ml_Mo_141 hd_Mo_said (Nat.le_trans (by decide) hRf) (Nat.le_trans (by decide) hRl) hRc (va_recv hK hP (q0 := 0) (ci := 6) rfl rfl) (wB_at hP hK) hl.1 rfl (Nat.le_of_ble_eq_true rfl) d_Mo_askAll_188 ?_
      refine lv_iload_n hx hb d_Mo_askAll_191 rfl (lv_at hl 2 rfl) ?_
      refine lv_aload_n hx hb d_Mo_askAll_192 rfl (lv_at hl 0 rfl) ?_
      refine lv_iload_n hx hb d_Mo_askAll_193 rfl (lv_at hl 1 rfl) ?_
      refine lv_iload_n hx hb d_Mo_askAll_194 rfl (lv_at hl 2 rfl) ?_
      obtain ⟨hpre, vc⟩ := vc
      refine wc_V (As := [.int x, .int y]) (rest := [.int y, .int (msa (29 * x + 28 : Int32).toNatClampNeg), .ref (b 0)]) (wr := ([] : va_W)) S (c_Mo_marksOf l D b cI cJ cZ mki msz mle mel mme mal mic mil mio mab mae msa mlc mli mna mva mma f17 mre mlv mwr msh mth mnv mns mfa mmo x y hpre) k_Mo_marksOf i_Mo_marksOf e_Mo_marksOf o_Mo ml_Mo_215 hd_Mo_marksOf (Nat.le_trans (by decide) hRf) (Nat.le_trans (by decide) hRl) hRc (va_recv hK hP (q0 := 0) (ci := 6) rfl rfl) hK hP hD hS hA [0, 1, 2, 3, 4, 5, 6, 7, 8, 9, 10, 11, 12, 13, 14, 15, 16, 17, 18, 19, 20, 21, 22] [] rfl rfl rfl (by decide) (by decide) (by decide) hl.1 rfl (Nat.le_of_ble_eq_true rfl) d_Mo_askAll_195 (fun x18 H locs hu hP hD hS => ?_)
      have vc := vc x18 hu
      clear hu
      have hP : va_P D vwCl (wM b cI cJ cZ mki msz mle mel mme mal mic mil mio mab mae msa mlc mli mna mva mma f17 mre mlv mwr msh mth mnv mns mfa mmo) H := hP
      have hD : va_D A (wM b cI cJ cZ mki msz mle mel mme mal mic mil mio mab mae msa mlc mli mna mva mma f17 mre mlv mwr msh mth mnv mns mfa mmo) := hD
      refine lv_iconst (v := (-1)) hx hb d_Mo_askAll_198 (by decide) ?_
      refine lv_ixor hx hb d_Mo_askAll_199 ?_
      refine lv_iload_n hx hb d_Mo_askAll_200 rfl (lv_at hl 3 rfl) ?_
      obtain ⟨hpre, vc⟩ := vc
      refine wc_V (As := [.int (msa (29 * x + 28 : Int32).toNatClampNeg), .int y, .int (x18 ^^^ (-1)), .int (mch ((40 * x) + y : Int32).toNatClampNeg)]) (rest := []) (wr := ([] : va_W)) S (c_Mo_askElements l D b cI cJ cZ mki msz mle mel mme mal mic mil mio mab mae msa mlc mli mna mva mma f17 mre mlv mwr msh mth mnv mns mfa mmo (msa (29 * x + 28 : Int32).toNatClampNeg) y (x18 ^^^ (-1)) (mch ((40 * x) + y : Int32).toNatClampNeg) hpre) k_Mo_askElements i_Mo_askElements e_Mo_askElements o_Mo ml_Mo_238 hd_Mo_askElements (Nat.le_trans (by decide) hRf) (Nat.le_trans (by decide) hRl) hRc (va_recv hK hP (q0 := 0) (ci := 6) rfl rfl) hK hP hD hS hA [0, 1, 2, 3, 4, 5, 6, 7, 8, 9, 10, 11, 12, 13, 14, 15, 16, 17, 18, 19, 20, 21, 22] [] rfl rfl rfl (by decide) (by decide) (by decide) hl.1 rfl (Nat.le_of_ble_eq_true rfl) d_Mo_askAll_201 (fun f19 H locs hu hP hD hS => ?_)
      have vc := vc f19 hu
      clear hu
      have hP : va_P D vwCl (wM b cI cJ cZ mki msz mle mel mme mal mic mil mio mab mae msa mlc mli mna mva mma f19 mre mlv mwr msh mth mnv mns mfa mmo) H := hP
      have hD : va_D A (wM b cI cJ cZ mki msz mle mel mme mal mic mil mio mab mae msa mlc mli mna mva mma f19 mre mlv mwr msh mth mnv mns mfa mmo) := hD
      refine lv_bipush (v := 29) hx hb d_Mo_askAll_204 (by decide) ?_
      refine lv_istore hx hb d_Mo_askAll_206 hl (by decide) (lv' := [(4, .int 29), (0, .ref (b 0)), (1, .int x), (2, .int y), (3, .int (mch ((40 * x) + y : Int32).toNatClampNeg))]) rfl (fun ls hl => ?_)
      obtain ⟨I29, mI29, vc0, vcs⟩ := vc
      have lI29 : ∀ n : Nat, ∀ (x27 : Int32) (f28 : Nat → Int32) (ls : Array Slot) (H : Heap) (locs : List Loc), I29 x27 f28 → mI29 x27 f28 < n → lv_has ls 7 [(0, .ref (b 0)), (1, .int x), (2, .int y), (3, .int (mch ((40 * x) + y : Int32).toNatClampNeg)), (4, .int x27)] → va_P D vwCl (wM b cI cJ cZ mki msz mle mel mme mal mic mil mio mab mae msa mlc mli mna mva mma f28 mre mlv mwr msh mth mnv mns mfa mmo) H → va_D A (wM b cI cJ cZ mki msz mle mel mme mal mic mil mio mab mae msa mlc mli mna mva mma f28 mre mlv mwr msh mth mnv mns mfa mmo) → va_S A s.heap H locs → W p l e R s m args below meth c H locs cells slots Q (F0 m 208 ls []) := by
        intro n
        induction n with
        | zero => intro x27 f28 ls H locs _ h; exact absurd h (Nat.not_lt_zero _)
        | succ n ihI29 =>
          intro x27 f28 ls H locs vc hmI29 hl hP hD hS
          have vc := vcs x27 f28 vc
          refine lv_iload hx hb d_Mo_askAll_208 (lv_at hl 4 rfl) ?_
          refine lv_bipush (v := 33) hx hb d_Mo_askAll_210 (by decide) ?_
          refine lv_icmp_ge (tgt := 323) hx hb d_Mo_askAll_212 (by decide) (fun h => ?_) (fun h => ?_)
          · have vc := vc.1 h
            refine lv_iconst (v := 0) hx hb d_Mo_askAll_323 (by decide) ?_
            refine lv_istore hx hb d_Mo_askAll_324 hl (by decide) (lv' := [(4, .int 0), (0, .ref (b 0)), (1, .int x), (2, .int y), (3, .int (mch ((40 * x) + y : Int32).toNatClampNeg))]) rfl (fun ls hl => ?_)
            obtain ⟨I37, mI37, vc0, vcs⟩ := vc
            have lI37 : ∀ n : Nat, ∀ (x35 : Int32) (f36 : Nat → Int32) (ls : Array Slot) (H : Heap) (locs : List Loc), I37 x35 f36 → mI37 x35 f36 < n → lv_has ls 7 [(0, .ref (b 0)), (1, .int x), (2, .int y), (3, .int (mch ((40 * x) + y : Int32).toNatClampNeg)), (4, .int x35)] → va_P D vwCl (wM b cI cJ cZ mki msz mle mel mme mal mic mil mio mab mae msa mlc mli mna mva mma f36 mre mlv mwr msh mth mnv mns mfa mmo) H → va_D A (wM b cI cJ cZ mki msz mle mel mme mal mic mil mio mab mae msa mlc mli mna mva mma f36 mre mlv mwr msh mth mnv mns mfa mmo) → va_S A s.heap H locs → W p l e R s m args below meth c H locs cells slots Q (F0 m 326 ls []) := by
              intro n
              induction n with
              | zero => intro x35 f36 ls H locs _ h; exact absurd h (Nat.not_lt_zero _)
              | succ n ihI37 =>
                intro x35 f36 ls H locs vc hmI37 hl hP hD hS
                have vc := vcs x35 f36 vc
                refine lv_iload hx hb d_Mo_askAll_326 (lv_at hl 4 rfl) ?_
                refine lv_bipush (v := 12) hx hb d_Mo_askAll_328 (by decide) ?_
                refine lv_icmp_ge (tgt := 389) hx hb d_Mo_askAll_330 (by decide) (fun h => ?_) (fun h => ?_)
                · have vc := vc.1 h
                  exact hret _ _ _ _ _ _ _ _ _ _ _ _ _ _ _ _ _ _ _ _ _ _ _ _ _ _ _ ls _ H locs d_Mo_askAll_389 vc hP hD hS
                · have vc := vc.2 h
                  refine lv_aload_n hx hb d_Mo_askAll_333 rfl (lv_at hl 0 rfl) ?_
                  refine lv_aload_n hx hb d_Mo_askAll_334 rfl (lv_at hl 0 rfl) ?_
                  refine lv_iload_n hx hb d_Mo_askAll_335 rfl (lv_at hl 1 rfl) ?_
                  refine lv_bipush (v := 33) hx hb d_Mo_askAll_336 (by decide) ?_
                  refine lv_iload hx hb d_Mo_askAll_338 (lv_at hl 4 rfl) ?_
                  obtain ⟨hpre, vc⟩ := vc
                  refine pc_V (As := [.int x, .int 33, .int x35]) (rest := [.ref (b 0)]) S (c_Mo_byName l D b cI cJ cZ mki msz mle mel mme mal mic mil mio mab mae msa mlc mli mna mva mma f36 mre mlv mwr msh mth mnv mns mfa mmo x 33 x35 hpre) wB_blind k_Mo_byName i_Mo_byName e_Mo_byName o_Mo ml_Mo_154 hd_Mo_byName (Nat.le_trans (by decide) hRf) (Nat.le_trans (by decide) hRl) hRc (va_recv hK hP (q0 := 0) (ci := 6) rfl rfl) (wB_at hP hK) hl.1 rfl (Nat.le_of_ble_eq_true rfl) d_Mo_askAll_340 ?_
                  refine lv_aload_n hx hb d_Mo_askAll_343 rfl (lv_at hl 0 rfl) ?_
                  refine lv_iload_n hx hb d_Mo_askAll_344 rfl (lv_at hl 2 rfl) ?_
                  refine lv_iload hx hb d_Mo_askAll_345 (lv_at hl 4 rfl) ?_
                  obtain ⟨hpre, vc⟩ := vc
                  refine pc_V (As := [.int y, .int x35]) (rest := [.int (mna (36 * x + 12 * (33 - 33) + x35 : Int32).toNatClampNeg), .ref (b 0)]) S (c_Mo_memberOf l D b cI cJ cZ mki msz mle mel mme mal mic mil mio mab mae msa mlc mli mna mva mma f36 mre mlv mwr msh mth mnv mns mfa mmo y x35 hpre) wB_blind k_Mo_memberOf i_Mo_memberOf e_Mo_memberOf o_Mo ml_Mo_167 hd_Mo_memberOf (Nat.le_trans (by decide) hRf) (Nat.le_trans (by decide) hRl) hRc (va_recv hK hP (q0 := 0) (ci := 6) rfl rfl) (wB_at hP hK) hl.1 rfl (Nat.le_of_ble_eq_true rfl) d_Mo_askAll_347 ?_
                  refine lv_iload_n hx hb d_Mo_askAll_350 rfl (lv_at hl 3 rfl) ?_
                  obtain ⟨hpre, vc⟩ := vc
                  refine wc_V (As := [.int (mna (36 * x + 12 * (33 - 33) + x35 : Int32).toNatClampNeg), .int (if mki y.toNatClampNeg = 5 then mme (12 * y + x35 : Int32).toNatClampNeg else -1), .int (mch ((40 * x) + y : Int32).toNatClampNeg)]) (rest := []) (wr := ([] : va_W)) S (c_Mo_ask l D b cI cJ cZ mki msz mle mel mme mal mic mil mio mab mae msa mlc mli mna mva mma f36 mre mlv mwr msh mth mnv mns mfa mmo (mna (36 * x + 12 * (33 - 33) + x35 : Int32).toNatClampNeg) (if mki y.toNatClampNeg = 5 then mme (12 * y + x35 : Int32).toNatClampNeg else -1) (mch ((40 * x) + y : Int32).toNatClampNeg) hpre) k_Mo_ask i_Mo_ask e_Mo_ask o_Mo ml_Mo_234 hd_Mo_ask (Nat.le_trans (by decide) hRf) (Nat.le_trans (by decide) hRl) hRc (va_recv hK hP (q0 := 0) (ci := 6) rfl rfl) hK hP hD hS hA [0, 1, 2, 3, 4, 5, 6, 7, 8, 9, 10, 11, 12, 13, 14, 15, 16, 17, 18, 19, 20, 21, 22] [] rfl rfl rfl (by decide) (by decide) (by decide) hl.1 rfl (Nat.le_of_ble_eq_true rfl) d_Mo_askAll_351 (fun f38 H locs hu hP hD hS => ?_)
                  have vc := vc f38 hu
                  clear hu
                  have hP : va_P D vwCl (wM b cI cJ cZ mki msz mle mel mme mal mic mil mio mab mae msa mlc mli mna mva mma f38 mre mlv mwr msh mth mnv mns mfa mmo) H := hP
                  have hD : va_D A (wM b cI cJ cZ mki msz mle mel mme mal mic mil mio mab mae msa mlc mli mna mva mma f38 mre mlv mwr msh mth mnv mns mfa mmo) := hD
                  refine lv_aload_n hx hb d_Mo_askAll_354 rfl (lv_at hl 0 rfl) ?_
                  refine lv_aload_n hx hb d_Mo_askAll_355 rfl (lv_at hl 0 rfl) ?_
                  refine lv_iload_n hx hb d_Mo_askAll_356 rfl (lv_at hl 2 rfl) ?_
                  refine lv_iload hx hb d_Mo_askAll_357 (lv_at hl 4 rfl) ?_
                  obtain ⟨hpre, vc⟩ := vc
                  refine pc_V (As := [.int y, .int x35]) (rest := [.ref (b 0)]) S (c_Mo_memberOf l D b cI cJ cZ mki msz mle mel mme mal mic mil mio mab mae msa mlc mli mna mva mma f38 mre mlv mwr msh mth mnv mns mfa mmo y x35 hpre) wB_blind k_Mo_memberOf i_Mo_memberOf e_Mo_memberOf o_Mo ml_Mo_167 hd_Mo_memberOf (Nat.le_trans (by decide) hRf) (Nat.le_trans (by decide) hRl) hRc (va_recv hK hP (q0 := 0) (ci := 6) rfl rfl) (wB_at hP hK) hl.1 rfl (Nat.le_of_ble_eq_true rfl) d_Mo_askAll_359 ?_
                  obtain ⟨J39, vc, vc2⟩ := vc
                  have jJ39 : ∀ (x40 : Int32) (ls : Array Slot) (H : Heap) (locs : List Loc), J39 x40 → lv_has ls 7 [(0, .ref (b 0)), (1, .int x), (2, .int y), (3, .int (mch ((40 * x) + y : Int32).toNatClampNeg)), (4, .int x35)] → va_P D vwCl (wM b cI cJ cZ mki msz mle mel mme mal mic mil mio mab mae msa mlc mli mna mva mma f38 mre mlv mwr msh mth mnv mns mfa mmo) H → va_D A (wM b cI cJ cZ mki msz mle mel mme mal mic mil mio mab mae msa mlc mli mna mva mma f38 mre mlv mwr msh mth mnv mns mfa mmo) → va_S A s.heap H locs → W p l e R s m args below meth c H locs cells slots Q (F0 m 378 ls [.int x40, .ref (b 0)]) := by
                    intro x40 ls H locs vc hl hP hD hS
                    have vc := vc2 x40 vc
                    refine lv_iload_n hx hb d_Mo_askAll_378 rfl (lv_at hl 2 rfl) ?_
                    refine lv_iload_n hx hb d_Mo_askAll_379 rfl (lv_at hl 3 rfl) ?_
                    obtain ⟨hpre, vc⟩ := vc
                    refine wc_V (As := [.int x40, .int y, .int (mch ((40 * x) + y : Int32).toNatClampNeg)]) (rest := []) (wr := ([] : va_W)) S (c_Mo_ask l D b cI cJ cZ mki msz mle mel mme mal mic mil mio mab mae msa mlc mli mna mva mma f38 mre mlv mwr msh mth mnv mns mfa mmo x40 y (mch ((40 * x) + y : Int32).toNatClampNeg) hpre) k_Mo_ask i_Mo_ask e_Mo_ask o_Mo ml_Mo_234 hd_Mo_ask (Nat.le_trans (by decide) hRf) (Nat.le_trans (by decide) hRl) hRc (va_recv hK hP (q0 := 0) (ci := 6) rfl rfl) hK hP hD hS hA [0, 1, 2, 3, 4, 5, 6, 7, 8, 9, 10, 11, 12, 13, 14, 15, 16, 17, 18, 19, 20, 21, 22] [] rfl rfl rfl (by decide) (by decide) (by decide) hl.1 rfl (Nat.le_of_ble_eq_true rfl) d_Mo_askAll_380 (fun f41 H locs hu hP hD hS => ?_)
                    have vc := vc f41 hu
                    clear hu
                    have hP : va_P D vwCl (wM b cI cJ cZ mki msz mle mel mme mal mic mil mio mab mae msa mlc mli mna mva mma f41 mre mlv mwr msh mth mnv mns mfa mmo) H := hP
                    have hD : va_D A (wM b cI cJ cZ mki msz mle mel mme mal mic mil mio mab mae msa mlc mli mna mva mma f41 mre mlv mwr msh mth mnv mns mfa mmo) := hD
                    refine lv_iinc (k := 4) (v := x35 + 1) hx hb d_Mo_askAll_383 hl rfl rfl (by decide) (lv' := [(4, .int (x35 + 1)), (0, .ref (b 0)), (1, .int x), (2, .int y), (3, .int (mch ((40 * x) + y : Int32).toNatClampNeg))]) rfl (fun ls hl => ?_)
                    refine lv_goto (tgt := 326) hx hb d_Mo_askAll_386 (by decide) ?_
                    exact ihI37 (x35 + 1) f41 ls H locs vc.1 (Nat.lt_of_lt_of_le vc.2 (Nat.le_of_lt_succ hmI37)) (lv_sub hl [1, 2, 3, 4, 0] rfl) hP hD hS
                  clear vc2
                  refine lv_if_lt (tgt := 377) hx hb d_Mo_askAll_362 (by decide) (fun h => ?_) (fun h => ?_)
                  · have vc := vc.1 h
                    refine lv_iconst (v := (-1)) hx hb d_Mo_askAll_377 (by decide) ?_
                    exact jJ39 (-1) ls H locs vc (lv_sub hl [0, 1, 2, 3, 4] rfl) hP hD hS
                  · have vc := vc.2 h
                    refine lv_aload_n hx hb d_Mo_askAll_365 rfl (lv_at hl 0 rfl) ?_
                    refine lv_iload_n hx hb d_Mo_askAll_366 rfl (lv_at hl 1 rfl) ?_
                    refine lv_bipush (v := 34) hx hb d_Mo_askAll_367 (by decide) ?_
                    refine lv_iload hx hb d_Mo_askAll_369 (lv_at hl 4 rfl) ?_
                    obtain ⟨hpre, vc⟩ := vc
                    refine pc_V (As := [.int x, .int 34, .int x35]) (rest := [.ref (b 0)]) S (c_Mo_byName l D b cI cJ cZ mki msz mle mel mme mal mic mil mio mab mae msa mlc mli mna mva mma f38 mre mlv mwr msh mth mnv mns mfa mmo x 34 x35 hpre) wB_blind k_Mo_byName i_Mo_byName e_Mo_byName o_Mo ml_Mo_154 hd_Mo_byName (Nat.le_trans (by decide) hRf) (Nat.le_trans (by decide) hRl) hRc (va_recv hK hP (q0 := 0) (ci := 6) rfl rfl) (wB_at hP hK) hl.1 rfl (Nat.le_of_ble_eq_true rfl) d_Mo_askAll_371 ?_
                    refine lv_goto (tgt := 378) hx hb d_Mo_askAll_374 (by decide) ?_
                    exact jJ39 (mna (36 * x + 12 * (34 - 33) + x35 : Int32).toNatClampNeg) ls H locs vc (lv_sub hl [0, 1, 2, 3, 4] rfl) hP hD hS
            exact lI37 _ 0 f28 ls H locs vc0 (Nat.lt_succ_self _) (lv_sub hl [1, 2, 3, 4, 0] rfl) hP hD hS
          · have vc := vc.2 h
            refine lv_iconst (v := 0) hx hb d_Mo_askAll_215 (by decide) ?_
            refine lv_istore hx hb d_Mo_askAll_216 hl (by decide) (lv' := [(5, .int 0), (0, .ref (b 0)), (1, .int x), (2, .int y), (3, .int (mch ((40 * x) + y : Int32).toNatClampNeg)), (4, .int x27)]) rfl (fun ls hl => ?_)
            obtain ⟨I54, mI54, vc0, vcs⟩ := vc
            have lI54 : ∀ n : Nat, ∀ (x52 : Int32) (f53 : Nat → Int32) (ls : Array Slot) (H : Heap) (locs : List Loc), I54 x52 f53 → mI54 x52 f53 < n → lv_has ls 7 [(0, .ref (b 0)), (1, .int x), (2, .int y), (3, .int (mch ((40 * x) + y : Int32).toNatClampNeg)), (4, .int x27), (5, .int x52)] → va_P D vwCl (wM b cI cJ cZ mki msz mle mel mme mal mic mil mio mab mae msa mlc mli mna mva mma f53 mre mlv mwr msh mth mnv mns mfa mmo) H → va_D A (wM b cI cJ cZ mki msz mle mel mme mal mic mil mio mab mae msa mlc mli mna mva mma f53 mre mlv mwr msh mth mnv mns mfa mmo) → va_S A s.heap H locs → W p l e R s m args below meth c H locs cells slots Q (F0 m 218 ls []) := by
              intro n
              induction n with
              | zero => intro x52 f53 ls H locs _ h; exact absurd h (Nat.not_lt_zero _)
              | succ n ihI54 =>
                intro x52 f53 ls H locs vc hmI54 hl hP hD hS
                have vc := vcs x52 f53 vc
                refine lv_iload hx hb d_Mo_askAll_218 (lv_at hl 5 rfl) ?_
                refine lv_aload_n hx hb d_Mo_askAll_220 rfl (lv_at hl 0 rfl) ?_
                refine lv_iload_n hx hb d_Mo_askAll_221 rfl (lv_at hl 1 rfl) ?_
                refine lv_iload hx hb d_Mo_askAll_222 (lv_at hl 4 rfl) ?_
                obtain ⟨hpre, vc⟩ := vc
                refine pc_V (As := [.int x, .int x27]) (rest := [.int x52]) S (c_Mo_many l D b cI cJ cZ mki msz mle mel mme mal mic mil mio mab mae msa mlc mli mna mva mma f53 mre mlv mwr msh mth mnv mns mfa mmo x x27 hpre) wB_blind k_Mo_many i_Mo_many e_Mo_many o_Mo ml_Mo_148 hd_Mo_many (Nat.le_trans (by decide) hRf) (Nat.le_trans (by decide) hRl) hRc (va_recv hK hP (q0 := 0) (ci := 6) rfl rfl) (wB_at hP hK) hl.1 rfl (Nat.le_of_ble_eq_true rfl) d_Mo_askAll_224 ?_
                refine lv_icmp_ge (tgt := 317) hx hb d_Mo_askAll_227 (by decide) (fun h => ?_) (fun h => ?_)
                · have vc := vc.1 h
                  refine lv_iinc (k := 4) (v := x27 + 1) hx hb d_Mo_askAll_317 hl rfl rfl (by decide) (lv' := [(4, .int (x27 + 1)), (0, .ref (b 0)), (1, .int x), (2, .int y), (3, .int (mch ((40 * x) + y : Int32).toNatClampNeg)), (5, .int x52)]) rfl (fun ls hl => ?_)
                  refine lv_goto (tgt := 208) hx hb d_Mo_askAll_320 (by decide) ?_
                  exact ihI29 (x27 + 1) f53 ls H locs vc.1 (Nat.lt_of_lt_of_le vc.2 (Nat.le_of_lt_succ hmI29)) (lv_sub hl [1, 2, 3, 4, 0] rfl) hP hD hS
                · have vc := vc.2 h
                  refine lv_iload hx hb d_Mo_askAll_230 (lv_at hl 4 rfl) ?_
                  refine lv_bipush (v := 32) hx hb d_Mo_askAll_232 (by decide) ?_
                  obtain ⟨J55, vc, vc2⟩ := vc
                  have jJ55 : ∀ (x58 : Int32) (ls : Array Slot) (H : Heap) (locs : List Loc), J55 x58 → lv_has ls 7 [(0, .ref (b 0)), (1, .int x), (2, .int y), (3, .int (mch ((40 * x) + y : Int32).toNatClampNeg)), (4, .int x27), (5, .int x52)] → va_P D vwCl (wM b cI cJ cZ mki msz mle mel mme mal mic mil mio mab mae msa mlc mli mna mva mma f53 mre mlv mwr msh mth mnv mns mfa mmo) H → va_D A (wM b cI cJ cZ mki msz mle mel mme mal mic mil mio mab mae msa mlc mli mna mva mma f53 mre mlv mwr msh mth mnv mns mfa mmo) → va_S A s.heap H locs → W p l e R s m args below meth c H locs cells slots Q (F0 m 263 ls [.int x58]) := by
                    intro x58 ls H locs vc hl hP hD hS
                    have vc := vc2 x58 vc
                    refine lv_istore hx hb d_Mo_askAll_263 hl (by decide) (lv' := [(6, .int x58), (0, .ref (b 0)), (1, .int x), (2, .int y), (3, .int (mch ((40 * x) + y : Int32).toNatClampNeg)), (4, .int x27), (5, .int x52)]) rfl (fun ls hl => ?_)
                    refine lv_aload_n hx hb d_Mo_askAll_265 rfl (lv_at hl 1 rfl) ?_
                    refine lv_iload hx hb d_Mo_askAll_266 (lv_at hl 0 rfl) ?_
                    obtain ⟨J59, vc, vc2⟩ := vc
                    have jJ59 : ∀ (x60 : Int32) (ls : Array Slot) (H : Heap) (locs : List Loc), J59 x60 → lv_has ls 7 [(0, .ref (b 0)), (1, .int x), (2, .int y), (3, .int (mch ((40 * x) + y : Int32).toNatClampNeg)), (4, .int x27), (5, .int x52), (6, .int x58)] → va_P D vwCl (wM b cI cJ cZ mki msz mle mel mme mal mic mil mio mab mae msa mlc mli mna mva mma f53 mre mlv mwr msh mth mnv mns mfa mmo) H → va_D A (wM b cI cJ cZ mki msz mle mel mme mal mic mil mio mab mae msa mlc mli mna mva mma f53 mre mlv mwr msh mth mnv mns mfa mmo) → va_S A s.heap H locs → W p l e R s m args below meth c H locs cells slots Q (F0 m 284 ls [.int x60, .ref (b 0)]) := by
                      intro x60 ls H locs vc hl hP hD hS
                      have vc := vc2 x60 vc
                      refine lv_iload hx hb d_Mo_askAll_284 (lv_at hl 4 rfl) ?_
                      refine lv_bipush (v := 32) hx hb d_Mo_askAll_286 (by decide) ?_
                      obtain ⟨J61, vc, vc2⟩ := vc
                      have jJ61 : ∀ (x62 : Int32) (ls : Array Slot) (H : Heap) (locs : List Loc), J61 x62 → lv_has ls 7 [(0, .ref (b 0)), (1, .int x), (2, .int y), (3, .int (mch ((40 * x) + y : Int32).toNatClampNeg)), (4, .int x27), (5, .int x52), (6, .int x58)] → va_P D vwCl (wM b cI cJ cZ mki msz mle mel mme mal mic mil mio mab mae msa mlc mli mna mva mma f53 mre mlv mwr msh mth mnv mns mfa mmo) H → va_D A (wM b cI cJ cZ mki msz mle mel mme mal mic mil mio mab mae msa mlc mli mna mva mma f53 mre mlv mwr msh mth mnv mns mfa mmo) → va_S A s.heap H locs → W p l e R s m args below meth c H locs cells slots Q (F0 m 307 ls [.int x62, .int x60, .ref (b 0)]) := by
                        intro x62 ls H locs vc hl hP hD hS
                        have vc := vc2 x62 vc
                        refine lv_iload_n hx hb d_Mo_askAll_307 rfl (lv_at hl 3 rfl) ?_
                        obtain ⟨hpre, vc⟩ := vc
                        refine wc_V (As := [.int x60, .int x62, .int (mch ((40 * x) + y : Int32).toNatClampNeg)]) (rest := []) (wr := ([] : va_W)) S (c_Mo_ask l D b cI cJ cZ mki msz mle mel mme mal mic mil mio mab mae msa mlc mli mna mva mma f53 mre mlv mwr msh mth mnv mns mfa mmo x60 x62 (mch ((40 * x) + y : Int32).toNatClampNeg) hpre) k_Mo_ask i_Mo_ask e_Mo_ask o_Mo ml_Mo_234 hd_Mo_ask (Nat.le_trans (by decide) hRf) (Nat.le_trans (by decide) hRl) hRc (va_recv hK hP (q0 := 0) (ci := 6) rfl rfl) hK hP hD hS hA [0, 1, 2, 3, 4, 5, 6, 7, 8, 9, 10, 11, 12, 13, 14, 15, 16, 17, 18, 19, 20, 21, 22] [] rfl rfl rfl (by decide) (by decide) (by decide) hl.1 rfl (Nat.le_of_ble_eq_true rfl) d_Mo_askAll_308 (fun f63 H locs hu hP hD hS => ?_)
                        have vc := vc f63 hu
                        clear hu
                        have hP : va_P D vwCl (wM b cI cJ cZ mki msz mle mel mme mal mic mil mio mab mae msa mlc mli mna mva mma f63 mre mlv mwr msh mth mnv mns mfa mmo) H := hP
                        have hD : va_D A (wM b cI cJ cZ mki msz mle mel mme mal mic mil mio mab mae msa mlc mli mna mva mma f63 mre mlv mwr msh mth mnv mns mfa mmo) := hD
                        refine lv_iinc (k := 5) (v := x52 + 1) hx hb d_Mo_askAll_311 hl rfl rfl (by decide) (lv' := [(5, .int (x52 + 1)), (0, .ref (b 0)), (1, .int x), (2, .int y), (3, .int (mch ((40 * x) + y : Int32).toNatClampNeg)), (4, .int x27), (6, .int x58)]) rfl (fun ls hl => ?_)
                        refine lv_goto (tgt := 218) hx hb d_Mo_askAll_314 (by decide) ?_
                        exact ihI54 (x52 + 1) f63 ls H locs vc.1 (Nat.lt_of_lt_of_le vc.2 (Nat.le_of_lt_succ hmI54)) (lv_sub hl [1, 2, 3, 4, 5, 0] rfl) hP hD hS
                      clear vc2
                      refine lv_icmp_ge (tgt := 295) hx hb d_Mo_askAll_288 (by decide) (fun h => ?_) (fun h => ?_)
                      · have vc := vc.1 h
                        refine lv_aload_n hx hb d_Mo_askAll_295 rfl (lv_at hl 0 rfl) ?_
                        refine va_get (D := D) (ci := 6) (v := .ref (b 4)) (C := R_Mo) (T := F_Mo) (N := 27) hx hb hts in_Mo hown hK hP 0 rfl rfl 5 (by decide) (hts _ fl_Mo_20) (fun _ h => h) rfl d_Mo_askAll_296 ?_
                        refine lv_bipush (v := 8) hx hb d_Mo_askAll_299 (by decide) ?_
                        refine lv_iload_n hx hb d_Mo_askAll_301 rfl (lv_at hl 2 rfl) ?_
                        refine lv_imul hx hb d_Mo_askAll_302 ?_
                        refine lv_iload hx hb d_Mo_askAll_303 (lv_at hl 5 rfl) ?_
                        refine lv_iadd hx hb d_Mo_askAll_305 ?_
                        obtain ⟨vcb, vc⟩ := vc
                        refine va_iald hx hb hK hP 4 0 rfl rfl vcb d_Mo_askAll_306 ?_
                        exact jJ61 (mel ((8 * y) + x52 : Int32).toNatClampNeg) ls H locs vc (lv_sub hl [0, 1, 2, 3, 4, 5, 6] rfl) hP hD hS
                      · have vc := vc.2 h
                        refine lv_iload_n hx hb d_Mo_askAll_291 rfl (lv_at hl 2 rfl) ?_
                        refine lv_goto (tgt := 307) hx hb d_Mo_askAll_292 (by decide) ?_
                        exact jJ61 y ls H locs vc (lv_sub hl [0, 1, 2, 3, 4, 5, 6] rfl) hP hD hS
                    clear vc2
                    refine lv_if_eq (tgt := 283) hx hb d_Mo_askAll_268 (by decide) (fun h => ?_) (fun h => ?_)
                    · have vc := vc.1 h
                      refine lv_iconst (v := (-1)) hx hb d_Mo_askAll_283 (by decide) ?_
                      exact jJ59 (-1) ls H locs vc (lv_sub hl [1, 2, 3, 4, 5, 6, 0] rfl) hP hD hS
                    · have vc := vc.2 h
                      refine lv_aload_n hx hb d_Mo_askAll_271 rfl (lv_at hl 1 rfl) ?_
                      refine lv_iload_n hx hb d_Mo_askAll_272 rfl (lv_at hl 2 rfl) ?_
                      refine lv_iload hx hb d_Mo_askAll_273 (lv_at hl 5 rfl) ?_
                      refine lv_iload hx hb d_Mo_askAll_275 (lv_at hl 6 rfl) ?_
                      obtain ⟨hpre, vc⟩ := vc
                      refine pc_V (As := [.int x, .int x27, .int x52]) (rest := [.ref (b 0)]) S (c_Mo_listed l D b cI cJ cZ mki msz mle mel mme mal mic mil mio mab mae msa mlc mli mna mva mma f53 mre mlv mwr msh mth mnv mns mfa mmo x x27 x52 hpre) wB_blind k_Mo_listed i_Mo_listed e_Mo_listed o_Mo ml_Mo_151 hd_Mo_listed (Nat.le_trans (by decide) hRf) (Nat.le_trans (by decide) hRl) hRc (va_recv hK hP (q0 := 0) (ci := 6) rfl rfl) (wB_at hP hK) hl.1 rfl (Nat.le_of_ble_eq_true rfl) d_Mo_askAll_277 ?_
                      refine lv_goto (tgt := 284) hx hb d_Mo_askAll_280 (by decide) ?_
                      exact jJ59 (mli (12 * x + 3 * (x27 - 29) + x52 : Int32).toNatClampNeg) ls H locs vc (lv_sub hl [1, 2, 3, 4, 5, 6, 0] rfl) hP hD hS
                  clear vc2
                  refine lv_icmp_lt (tgt := 258) hx hb d_Mo_askAll_234 (by decide) (fun h => ?_) (fun h => ?_)
                  · have vc := vc.1 h
                    refine lv_iconst (v := 1) hx hb d_Mo_askAll_258 (by decide) ?_
                    refine lv_goto (tgt := 263) hx hb d_Mo_askAll_259 (by decide) ?_
                    exact jJ55 1 ls H locs vc (lv_sub hl [0, 1, 2, 3, 4, 5] rfl) hP hD hS
                  · have vc := vc.2 h
                    refine lv_aload_n hx hb d_Mo_askAll_237 rfl (lv_at hl 0 rfl) ?_
                    refine va_get (D := D) (ci := 6) (v := .ref (b 1)) (C := R_Mo) (T := F_Mo) (N := 27) hx hb hts in_Mo hown hK hP 0 rfl rfl 2 (by decide) (hts _ fl_Mo_7) (fun _ h => h) rfl d_Mo_askAll_238 ?_
                    refine lv_iload_n hx hb d_Mo_askAll_241 rfl (lv_at hl 2 rfl) ?_
                    obtain ⟨vcb, vc⟩ := vc
                    refine va_iald hx hb hK hP 1 0 rfl rfl vcb d_Mo_askAll_242 ?_
                    refine lv_iconst (v := 4) hx hb d_Mo_askAll_243 (by decide) ?_
                    obtain ⟨J56, vc, vc2⟩ := vc
                    have jJ56 : ∀ (ls : Array Slot) (H : Heap) (locs : List Loc), J56 → lv_has ls 7 [(0, .ref (b 0)), (1, .int x), (2, .int y), (3, .int (mch ((40 * x) + y : Int32).toNatClampNeg)), (4, .int x27), (5, .int x52)] → va_P D vwCl (wM b cI cJ cZ mki msz mle mel mme mal mic mil mio mab mae msa mlc mli mna mva mma f53 mre mlv mwr msh mth mnv mns mfa mmo) H → va_D A (wM b cI cJ cZ mki msz mle mel mme mal mic mil mio mab mae msa mlc mli mna mva mma f53 mre mlv mwr msh mth mnv mns mfa mmo) → va_S A s.heap H locs → W p l e R s m args below meth c H locs cells slots Q (F0 m 262 ls []) := by
                      intro  ls H locs vc hl hP hD hS
                      have vc := vc2  vc
                      refine lv_iconst (v := 0) hx hb d_Mo_askAll_262 (by decide) ?_
                      exact jJ55 0 ls H locs vc (lv_sub hl [0, 1, 2, 3, 4, 5] rfl) hP hD hS
                    clear vc2
                    refine lv_icmp_ne (tgt := 262) hx hb d_Mo_askAll_244 (by decide) (fun h => ?_) (fun h => ?_)
                    · have vc := vc.1 h
                      exact jJ56 ls H locs vc (lv_sub hl [0, 1, 2, 3, 4, 5] rfl) hP hD hS
                    · have vc := vc.2 h
                      refine lv_iload hx hb d_Mo_askAll_247 (lv_at hl 5 rfl) ?_
                      refine lv_aload_n hx hb d_Mo_askAll_249 rfl (lv_at hl 0 rfl) ?_
                      refine va_get (D := D) (ci := 6) (v := .ref (b 3)) (C := R_Mo) (T := F_Mo) (N := 27) hx hb hts in_Mo hown hK hP 0 rfl rfl 4 (by decide) (hts _ fl_Mo_17) (fun _ h => h) rfl d_Mo_askAll_250 ?_
                      refine lv_iload_n hx hb d_Mo_askAll_253 rfl (lv_at hl 2 rfl) ?_
                      obtain ⟨vcb, vc⟩ := vc
                      refine va_iald hx hb hK hP 3 0 rfl rfl vcb d_Mo_askAll_254 ?_
                      refine lv_icmp_ge (tgt := 262) hx hb d_Mo_askAll_255 (by decide) (fun h => ?_) (fun h => ?_)
                      · have vc := vc.1 h
                        exact jJ56 ls H locs vc (lv_sub hl [0, 1, 2, 3, 4, 5] rfl) hP hD hS
                      · have vc := vc.2 h
                        refine lv_iconst (v := 1) hx hb d_Mo_askAll_258 (by decide) ?_
                        refine lv_goto (tgt := 263) hx hb d_Mo_askAll_259 (by decide) ?_
                        exact jJ55 1 ls H locs vc (lv_sub hl [0, 1, 2, 3, 4, 5] rfl) hP hD hS
            exact lI54 _ 0 f28 ls H locs vc0 (Nat.lt_succ_self _) (lv_sub hl [1, 2, 3, 4, 5, 0] rfl) hP hD hS
      exact lI29 _ 29 f19 ls H locs vc0 (Nat.lt_succ_self _) (lv_sub hl [1, 2, 3, 4, 0] rfl) hP hD hS
    clear vc2
    refine lv_if_eq (tgt := 88) hx hb d_Mo_askAll_75 (by decide) (fun h => ?_) (fun h => ?_)
    · have vc := vc.1 h
      refine lv_iconst (v := (-1)) hx hb d_Mo_askAll_88 (by decide) ?_
      exact jJ8 (-1) ls H locs vc (lv_sub hl [0, 1, 2, 3] rfl) hP hD hS
    · have vc := vc.2 h
      refine lv_aload_n hx hb d_Mo_askAll_78 rfl (lv_at hl 0 rfl) ?_
      refine lv_iload_n hx hb d_Mo_askAll_79 rfl (lv_at hl 1 rfl) ?_
      refine lv_bipush (v := 20) hx hb d_Mo_askAll_80 (by decide) ?_
      obtain ⟨hpre, vc⟩ := vc
      refine pc_V (As := [.int x, .int 20]) (rest := [.ref (b 0)]) S (c_Mo_said l D b cI cJ cZ mki msz mle mel mme mal mic mil mio mab mae msa mlc mli mna mva mma f6 mre mlv mwr msh mth mnv mns mfa mmo x 20 hpre) wB_blind k_Mo_said i_Mo_said e_Mo_said o_Mo ml_Mo_141 hd_Mo_said (Nat.le_trans (by decide) hRf) (Nat.le_trans (by decide) hRl) hRc (va_recv hK hP (q0 := 0) (ci := 6) rfl rfl) (wB_at hP hK) hl.1 rfl (Nat.le_of_ble_eq_true rfl) d_Mo_askAll_82 ?_
      refine lv_goto (tgt := 89) hx hb d_Mo_askAll_85 (by decide) ?_
      exact jJ8 (msa (29 * x + 20 : Int32).toNatClampNeg) ls H locs vc (lv_sub hl [0, 1, 2, 3] rfl) hP hD hS
  clear vc2
  refine lv_if_eq (tgt := 60) hx hb d_Mo_askAll_47 (by decide) (fun h => ?_) (fun h => ?_)
  · have vc := vc.1 h
    refine lv_iconst (v := (-1)) hx hb d_Mo_askAll_60 (by decide) ?_
    exact jJ4 (-1) ls H locs vc (lv_sub hl [1, 2, 3, 0] rfl) hP hD hS
  · have vc := vc.2 h
    refine lv_aload_n hx hb d_Mo_askAll_50 rfl (lv_at hl 1 rfl) ?_
    refine lv_iload_n hx hb d_Mo_askAll_51 rfl (lv_at hl 2 rfl) ?_
    refine lv_bipush (v := 19) hx hb d_Mo_askAll_52 (by decide) ?_
    obtain ⟨hpre, vc⟩ := vc
    refine pc_V (As := [.int x, .int 19]) (rest := [.ref (b 0)]) S (c_Mo_said l D b cI cJ cZ mki msz mle mel mme mal mic mil mio mab mae msa mlc mli mna mva mma f2 mre mlv mwr msh mth mnv mns mfa mmo x 19 hpre) wB_blind k_Mo_said i_Mo_said e_Mo_said o_Mo ml_Mo_141 hd_Mo_said (Nat.le_trans (by decide) hRf) (Nat.le_trans (by decide) hRl) hRc (va_recv hK hP (q0 := 0) (ci := 6) rfl rfl) (wB_at hP hK) hl.1 rfl (Nat.le_of_ble_eq_true rfl) d_Mo_askAll_54 ?_
    refine lv_goto (tgt := 61) hx hb d_Mo_askAll_57 (by decide) ?_
    exact jJ4 (msa (29 * x + 19 : Int32).toNatClampNeg) ls H locs vc (lv_sub hl [1, 2, 3, 0] rfl) hP hD hS
set_option maxHeartbeats 4000000 in
theorem v_Mo_askAll (mki : Nat → Int32) (msz : Nat → Int64) (mle : Nat → Int32) (mel : Nat → Int32) (mme : Nat → Int32) (mal : Nat → Int32) (mic : Nat → Int32) (mil : Nat → Int32) (mio : Nat → Int32) (mab : Nat → Int32) (mae : Nat → Int32) (msa : Nat → Int32) (mlc : Nat → Int32) (mli : Nat → Int32) (mna : Nat → Int32) (mva : Nat → Int32) (mma : Nat → Int32) (mch : Nat → Int32) (mre : Nat → Int32) (mlv : Nat → Int32) (mwr : Nat → Int64) (msh : Nat → Int32) (mth : Int32) (mnv : Int32) (mns : Int32) (mfa : Int32) (mmo : Int32) (x : Int32) (y : Int32) (hpre : (∃ n0 m0 s0 v0 : Nat, mnv = nI n0 ∧ mns = nI m0 ∧ MSOK mki msz mle mel mme mic mio msa mlc mli mna mva n0 m0 ∧ (s0 < m0 ∧ v0 < n0 ∧ x = nI s0 ∧ y = nI v0) ∧ ∀ q, q < 960 → ∃ e, e < 2 ^ 30 ∧ mch q = nI e)) : V_Mo_askAll mki msz mle mel mme mal mic mil mio mab mae msa mlc mli mna mva mma mch mre mlv mwr msh mth mnv mns mfa mmo x y (fun mki' msz' mle' mel' mme' mal' mic' mil' mio' mab' mae' msa' mlc' mli' mna' mva' mma' mch' mre' mlv' mwr' msh' mth' mnv' mns' mfa' mmo' => ((∀ G : Sp, G = gM mki msz mle mel mme mal mic mil mio mab mae msa mlc mli mna mva mma mnv.toNatClampNeg → ∀ c : Nat, mch (40 * x.toNatClampNeg + y.toNatClampNeg) = nI c → c < 2 ^ 30 → (∀ q, q < 960 → ∃ e, e < 2 ^ 30 ∧ mch q = nI e) → AkI (Ask G x.toNatClampNeg y.toNatClampNeg) c mch mch')) ∧ mki' = mki ∧ msz' = msz ∧ mle' = mle ∧ mel' = mel ∧ mme' = mme ∧ mal' = mal ∧ mic' = mic ∧ mil' = mil ∧ mio' = mio ∧ mab' = mab ∧ mae' = mae ∧ msa' = msa ∧ mlc' = mlc ∧ mli' = mli ∧ mna' = mna ∧ mva' = mva ∧ mma' = mma ∧ mre' = mre ∧ mlv' = mlv ∧ mwr' = mwr ∧ msh' = msh ∧ mth' = mth ∧ mnv' = mnv ∧ mns' = mns ∧ mfa' = mfa ∧ mmo' = mmo) := by
  have main : ∀ post : (Nat → Int32) → (Nat → Int64) → (Nat → Int32) → (Nat → Int32) → (Nat → Int32) → (Nat → Int32) → (Nat → Int32) → (Nat → Int32) → (Nat → Int32) → (Nat → Int32) → (Nat → Int32) → (Nat → Int32) → (Nat → Int32) → (Nat → Int32) → (Nat → Int32) → (Nat → Int32) → (Nat → Int32) → (Nat → Int32) → (Nat → Int32) → (Nat → Int32) → (Nat → Int64) → (Nat → Int32) → Int32 → Int32 → Int32 → Int32 → Int32 → Prop, (∀ mki' msz' mle' mel' mme' mal' mic' mil' mio' mab' mae' msa' mlc' mli' mna' mva' mma' mch' mre' mlv' mwr' msh' mth' mnv' mns' mfa' mmo', (fun mki' msz' mle' mel' mme' mal' mic' mil' mio' mab' mae' msa' mlc' mli' mna' mva' mma' mch' mre' mlv' mwr' msh' mth' mnv' mns' mfa' mmo' => ((∀ G : Sp, G = gM mki msz mle mel mme mal mic mil mio mab mae msa mlc mli mna mva mma mnv.toNatClampNeg → ∀ c : Nat, mch (40 * x.toNatClampNeg + y.toNatClampNeg) = nI c → c < 2 ^ 30 → (∀ q, q < 960 → ∃ e, e < 2 ^ 30 ∧ mch q = nI e) → AkI (Ask G x.toNatClampNeg y.toNatClampNeg) c mch mch')) ∧ mki' = mki ∧ msz' = msz ∧ mle' = mle ∧ mel' = mel ∧ mme' = mme ∧ mal' = mal ∧ mic' = mic ∧ mil' = mil ∧ mio' = mio ∧ mab' = mab ∧ mae' = mae ∧ msa' = msa ∧ mlc' = mlc ∧ mli' = mli ∧ mna' = mna ∧ mva' = mva ∧ mma' = mma ∧ mre' = mre ∧ mlv' = mlv ∧ mwr' = mwr ∧ msh' = msh ∧ mth' = mth ∧ mnv' = mnv ∧ mns' = mns ∧ mfa' = mfa ∧ mmo' = mmo) mki' msz' mle' mel' mme' mal' mic' mil' mio' mab' mae' msa' mlc' mli' mna' mva' mma' mch' mre' mlv' mwr' msh' mth' mnv' mns' mfa' mmo' → post mki' msz' mle' mel' mme' mal' mic' mil' mio' mab' mae' msa' mlc' mli' mna' mva' mma' mch' mre' mlv' mwr' msh' mth' mnv' mns' mfa' mmo') → V_Mo_askAll mki msz mle mel mme mal mic mil mio mab mae msa mlc mli mna mva mma mch mre mlv mwr msh mth mnv mns mfa mmo x y post := by
    intro post hpost
    unfold V_Mo_askAll
    obtain ⟨n0, m0, s0, v0, hnv, hns, hS, ⟨hs, hv, rfl, rfl⟩, hmch⟩ := hpre
    have hm24 := hS.2.2.1
    have hn40 := hS.1.1
    have hs24 : s0 < 24 := by omega
    have hv40 : v0 < 40 := by omega
    have cs : (nI s0).toNatClampNeg = s0 := nI_clamp (by omega)
    have cv : (nI v0).toNatClampNeg = v0 := nI_clamp (by omega)
    have cn : mnv.toNatClampNeg = n0 := by rw [hnv]; exact nI_clamp (by omega)
    have hxv : vp_in (nI v0) 40 := vp_in_nI hv40 (by decide)
    obtain ⟨⟨kd, hkd, ekd⟩, ⟨L, hL, eL⟩, hpart, hmem, htxt⟩ := hS.1.2.2 v0 hv40
    have cL : (nI L).toNatClampNeg = L := nI_clamp (by omega)
    have hL8 : (mle v0).toNatClampNeg ≤ 8 := by rw [eL, cL]; exact hL
    have cP : (nI (40 * s0 + v0)).toNatClampNeg = 40 * s0 + v0 := nI_clamp (by omega)
    have hP : vp_in (nI (40 * s0 + v0)) 960 := vp_in_nI (by omega) (by decide)
    obtain ⟨c0, hc0, ec0⟩ := hmch (40 * s0 + v0) (by omega)
    have e17 : 29 * nI s0 + 17 = nI (s0 * 29 + 17) := jx29 (k := 17)
    have e18 : 29 * nI s0 + 18 = nI (s0 * 29 + 18) := jx29 (k := 18)
    have e19 : 29 * nI s0 + 19 = nI (s0 * 29 + 19) := jx29 (k := 19)
    have e20 : 29 * nI s0 + 20 = nI (s0 * 29 + 20) := jx29 (k := 20)
    have e21 : 29 * nI s0 + 21 = nI (s0 * 29 + 21) := jx29 (k := 21)
    have e22 : 29 * nI s0 + 22 = nI (s0 * 29 + 22) := jx29 (k := 22)
    have e23 : 29 * nI s0 + 23 = nI (s0 * 29 + 23) := jx29 (k := 23)
    have e26 : 29 * nI s0 + 26 = nI (s0 * 29 + 26) := jx29 (k := 26)
    have e27 : 29 * nI s0 + 27 = nI (s0 * 29 + 27) := jx29 (k := 27)
    have e28 : 29 * nI s0 + 28 = nI (s0 * 29 + 28) := jx29 (k := 28)
    have e32 : 4 * nI s0 + 32 - 29 = nI (s0 * 4 + 3) := jx4 (k := 3)
    have cc : ∀ k, k < 29 → (nI (s0 * 29 + k)).toNatClampNeg = s0 * 29 + k := fun k hk => nI_clamp (by omega)
    have c4 : (nI (s0 * 4 + 3)).toNatClampNeg = s0 * 4 + 3 := nI_clamp (by omega)
    have vi : ∀ k, k < 29 → vp_in (nI (s0 * 29 + k)) 696 := fun k hk => vp_in_nI (by omega) (by decide)
    obtain ⟨p, hp3, ep⟩ := hS.2.2.2.1 (s0 * 4 + 3) (by omega)
    have cp : (nI p).toNatClampNeg = p := nI_clamp (by omega)
    have c1920 : (19 : Int32).toNatClampNeg = 19 ∧ (20 : Int32).toNatClampNeg = 20 := ⟨rfl, rfl⟩
    simp only [cs, cv, cn, jx40, cP, ec0, e17, e18, e19, e20, e21, e22, e23, e26, e27, e28, e32, cc 17 (by decide), cc 18 (by decide), cc 19 (by decide), cc 20 (by decide), cc 21 (by decide), cc 22 (by decide), cc 23 (by decide), cc 26 (by decide), cc 27 (by decide), cc 28 (by decide), c4, eL, cL, ep, c1920.1, c1920.2] at hpost ⊢
    have gH : ∀ G, (G = gM mki msz mle mel mme mal mic mil mio mab mae msa mlc mli mna mva mma n0) → ∀ k, (ruH G s0 k ↔ ¬ msa (s0 * 29 + k) < 0) := fun G hG k => by unfold ruH; rw [(gM_eq hG).2.2.2.1]
    have gV : ∀ G, (G = gM mki msz mle mel mme mal mic mil mio mab mae msa mlc mli mna mva mma n0) → ∀ k, ruV G s0 k = (msa (s0 * 29 + k)).toNatClampNeg := fun G hG k => by unfold ruV; rw [(gM_eq hG).2.2.2.1]
    have gB : ∀ G, (G = gM mki msz mle mel mme mal mic mil mio mab mae msa mlc mli mna mva mma n0) → gPb G = mpb mki mle mme := fun G hG => (gM_eq hG).2.1
    have gT : ∀ G, (G = gM mki msz mle mel mme mal mic mil mio mab mae msa mlc mli mna mva mma n0) → gPt G = mpt mki mle mel mme := fun G hG => (gM_eq hG).2.2.1
    have gKk : ∀ G, (G = gM mki msz mle mel mme mal mic mil mio mab mae msa mlc mli mna mva mma n0) → gK G = mki := fun G hG => (gM_eq hG).1
    have gA : ∀ G, (G = gM mki msz mle mel mme mal mic mil mio mab mae msa mlc mli mna mva mma n0) → ∀ x w, (gVa G x w ↔ ¬ mva (40 * x + w) = 0) := fun G hG x w => by rw [(gM_eq hG).2.2.2.2.2.2.2.2.1]
    have row : ∀ G, (G = gM mki msz mle mel mme mal mic mil mio mab mae msa mlc mli mna mva mma n0) → mki v0 = 4 → ∀ i, (gPb G v0 i ↔ i < L) ∧ (i < L → gPt G v0 i = (mel (8 * v0 + i)).toNatClampNeg) := fun G hG h4 i => by
      rw [gB G hG, gT G hG, mpb_r hv40 h4 hL8, eL, cL]
      exact ⟨Iff.rfl, fun h => mpt_r hv40 h4 hL8 (by rw [eL, cL]; exact h)⟩
    have mem : ∀ G, (G = gM mki msz mle mel mme mal mic mil mio mab mae msa mlc mli mna mva mma n0) → mki v0 = 5 → ∀ i, i < 12 → (gPb G v0 i ↔ ¬ mme (12 * v0 + i) < 0) ∧ (¬ mme (12 * v0 + i) < 0 → gPt G v0 i = (mme (12 * v0 + i)).toNatClampNeg) := fun G hG h5 i hi => by
      rw [gB G hG, gT G hG, mpb_m hv40 h5 hi]
      exact ⟨Iff.rfl, fun h => mpt_m hv40 h5 hi h⟩
    have ox : ∀ k, 17 ≤ k → k < 29 → k ≠ 24 → k ≠ 25 → okx (msa (s0 * 29 + k)) 24 := fun k h1 h2 h3 h4 => ((hS.2.2.2.2.1 s0 hs24).1 k h1 h2 h3 h4).mono hm24
    have ov : okx (nI v0) 40 := Or.inr ⟨v0, hv40, rfl⟩
    have hV40 : MVOK mki msz mle mel mme 40 := ⟨Nat.le_refl _, hS.1.2⟩
    have ap : ∀ k, 17 ≤ k → k < 29 → k ≠ 24 → k ≠ 25 → ∃ v1 c1 : Nat, v1 < 40 ∧ nI v0 = nI v1 ∧ okx (msa (s0 * 29 + k)) 24 ∧ nI c0 = nI c1 ∧ c1 < 2 ^ 30 ∧ MVOK mki msz mle mel mme 40 := fun k h1 h2 h3 h4 => ⟨v0, c0, hv40, rfl, ox k h1 h2 h3 h4, rfl, hc0, hV40⟩
    have hvn : ∀ x', x' < 40 → (nI v0 = nI x' ↔ x' = v0) := fun x' h => nI_of_eq (by omega) (by omega) rfl
    have rk : ∀ G, (G = gM mki msz mle mel mme mal mic mil mio mab mae msa mlc mli mna mva mma n0) → ∀ k, 17 ≤ k → k < 29 → k ≠ 24 → k ≠ 25 → ∀ x', x' < 24 → (msa (s0 * 29 + k) = nI x' ↔ ruH G s0 k ∧ x' = ruV G s0 k) := fun G hG k h1 h2 h3 h4 x' hx' => by
      rw [gH G hG, gV G hG]
      rcases ox k h1 h2 h3 h4 with e | ⟨q, hq, e⟩
      · rw [e]; exact ⟨fun w => absurd w (neg_nI (by omega)), fun w => absurd neg1_lt w.1⟩
      · rw [e, nI_eq (by omega) (by omega), nI_clamp (show q < 2 ^ 31 by omega)]
        exact ⟨fun w => ⟨nI_pos (by omega), w.symm⟩, fun w => w.2.symm⟩
    have aS : ∀ G, (G = gM mki msz mle mel mme mal mic mil mio mab mae msa mlc mli mna mva mma n0) → ∀ k, 17 ≤ k → k < 29 → k ≠ 24 → k ≠ 25 → ∀ x' w', x' < 24 → w' < 40 → ((msa (s0 * 29 + k) = nI x' ∧ nI v0 = nI w') ↔ AskS G s0 v0 k x' w') := fun G hG k h1 h2 h3 h4 x' w' hx' hw' => by
      unfold AskS; rw [rk G hG k h1 h2 h3 h4 x' hx', hvn w' hw', and_assoc]
    have elw : ∀ G, (G = gM mki msz mle mel mme mal mic mil mio mab mae msa mlc mli mna mva mma n0) → mki v0 = 4 → ∀ i, i < L → ∀ w', w' < 40 → (mel (8 * v0 + i) = nI w' ↔ w' = gPt G v0 i) := fun G hG h4 i hi w' hw' => by
      obtain ⟨q, hq, e⟩ := hpart i (by rw [eL, cL]; exact hi)
      rw [(row G hG h4 i).2 hi, e, nI_clamp (show q < 2 ^ 31 by omega), nI_eq (by omega) (by omega)]; exact eq_comm
    have mew : ∀ G, (G = gM mki msz mle mel mme mal mic mil mio mab mae msa mlc mli mna mva mma n0) → mki v0 = 5 → ∀ i, i < 12 → ∀ w', w' < 40 → (mme (12 * v0 + i) = nI w' ↔ gPb G v0 i ∧ w' = gPt G v0 i) := fun G hG h5 i hi w' hw' => by
      rw [(mem G hG h5 i hi).1]
      rcases hmem i hi with e | ⟨q, hq, e⟩
      · rw [e]; exact ⟨fun w => absurd w (neg_nI (by omega)), fun w => absurd neg1_lt w.1⟩
      · have hn : ¬ mme (12 * v0 + i) < 0 := by rw [e]; exact nI_pos (by omega)
        rw [(mem G hG h5 i hi).2 hn, e, nI_clamp (show q < 2 ^ 31 by omega), nI_eq (by omega) (by omega)]
        exact ⟨fun w => ⟨nI_pos (by omega), w.symm⟩, fun w => w.2.symm⟩
    have elP : ∀ G, (G = gM mki msz mle mel mme mal mic mil mio mab mae msa mlc mli mna mva mma n0) → ∀ k, 17 ≤ k → k < 29 → k ≠ 24 → k ≠ 25 → ∀ (bits : Int32) (C : Nat → Prop), (∀ i, i < L → (bt bits i = true ↔ C i)) → ∀ x' w', x' < 24 → w' < 40 → ((msa (s0 * 29 + k) = nI x' ∧ mki v0 = 4 ∧ ∃ i, i < L ∧ bt bits i = true ∧ mel (8 * v0 + i) = nI w') ↔ (gK G v0 = 4 ∧ ruH G s0 k ∧ x' = ruV G s0 k ∧ ∃ i, gPb G v0 i ∧ C i ∧ w' = gPt G v0 i)) := fun G hG k h1 h2 h3 h4 bits C hC x' w' hx' hw' => by
      rw [rk G hG k h1 h2 h3 h4 x' hx', gKk G hG]
      constructor
      · rintro ⟨⟨q1, q2⟩, q3, i, q4, q5, q6⟩
        exact ⟨q3, q1, q2, i, (row G hG q3 i).1.mpr q4, (hC i q4).mp q5, (elw G hG q3 i q4 w' hw').mp q6⟩
      · rintro ⟨q3, q1, q2, i, q4, q5, q6⟩
        have q4 := (row G hG q3 i).1.mp q4
        exact ⟨⟨q1, q2⟩, q3, i, q4, (hC i q4).mpr q5, (elw G hG q3 i q4 w' hw').mpr q6⟩
    have meP : ∀ G, (G = gM mki msz mle mel mme mal mic mil mio mab mae msa mlc mli mna mva mma n0) → ∀ k, 17 ≤ k → k < 29 → k ≠ 24 → k ≠ 25 → ∀ (bits : Int32) (C : Nat → Prop), (mki v0 = 5 → ∀ i, i < 12 → gPb G v0 i → (bt bits i = true ↔ C i)) → ∀ x' w', x' < 24 → w' < 40 → ((msa (s0 * 29 + k) = nI x' ∧ mki v0 = 5 ∧ ∃ i, i < 12 ∧ bt bits i = true ∧ mme (12 * v0 + i) = nI w') ↔ (gK G v0 = 5 ∧ ruH G s0 k ∧ x' = ruV G s0 k ∧ ∃ i, gPb G v0 i ∧ C i ∧ w' = gPt G v0 i)) := fun G hG k h1 h2 h3 h4 bits C hC x' w' hx' hw' => by
      rw [rk G hG k h1 h2 h3 h4 x' hx', gKk G hG]
      constructor
      · rintro ⟨⟨q1, q2⟩, q3, i, q4, q5, q6⟩
        have q6 := (mew G hG q3 i q4 w' hw').mp q6
        exact ⟨q3, q1, q2, i, q6.1, (hC q3 i q4 q6.1).mp q5, q6.2⟩
      · rintro ⟨q3, q1, q2, i, q4, q5, q6⟩
        have hi : i < 12 := by rw [gB G hG] at q4; exact q4.1
        exact ⟨⟨q1, q2⟩, q3, i, hi, (hC q3 i hi q4).mpr q5, (mew G hG q3 i hi w' hw').mpr ⟨q4, q6⟩⟩
    refine ⟨hP, vi 17 (by decide), ⟨ox 17 (by decide) (by decide) (by decide) (by decide), ov⟩, fun f1 k1 => ?_⟩
    have H1 : ∀ G, (G = gM mki msz mle mel mme mal mic mil mio mab mae msa mlc mli mna mva mma n0) → AkI (fun x w => AskS G s0 v0 17 x w) c0 mch f1 := fun G hG => AkI.step (AkI.start (D := fun _ _ => False) (fun _ _ q => q)) hmch hc0 k1 (ox 17 (by decide) (by decide) (by decide) (by decide)) ov (fun x' w' hx' hw' => by rw [aS G hG 17 (by decide) (by decide) (by decide) (by decide) x' w' hx' hw']; simp)
    refine ⟨vi 18 (by decide), ⟨ox 18 (by decide) (by decide) (by decide) (by decide), ov⟩, fun f2 k2 => ?_⟩
    have H2 : ∀ G, (G = gM mki msz mle mel mme mal mic mil mio mab mae msa mlc mli mna mva mma n0) → AkI (fun x w => AskS G s0 v0 17 x w ∨ AskS G s0 v0 18 x w) c0 mch f2 := fun G hG => AkI.step (H1 G hG) hmch hc0 k2 (ox 18 (by decide) (by decide) (by decide) (by decide)) ov (fun x' w' hx' hw' => by rw [aS G hG 18 (by decide) (by decide) (by decide) (by decide) x' w' hx' hw'])
    refine ⟨⟨n0, m0, s0, v0, hnv, hns, hS, ⟨hs, hv, rfl, rfl⟩, 19, by decide, rfl⟩, fun t19 ht19 => ?_⟩
    have tsel : ∀ (t : Bool) (k : Nat), 17 ≤ k → k < 24 → okx (if t = true then msa (s0 * 29 + k) else -1) 24 ∧ ∀ G, (G = gM mki msz mle mel mme mal mic mil mio mab mae msa mlc mli mna mva mma n0) → (t = true ↔ trn G s0 v0 k) → ∀ x' w', x' < 24 → w' < 40 → (((if t = true then msa (s0 * 29 + k) else -1) = nI x' ∧ nI v0 = nI w') ↔ (trn G s0 v0 k ∧ AskS G s0 v0 k x' w')) := fun t k h1 h2 => by
      cases t
      · refine ⟨Or.inl rfl, fun G hG ht x' w' hx' hw' => ⟨fun q => absurd q.1 (neg_nI (by omega)), fun q => absurd (ht.mpr q.1) (by decide)⟩⟩
      · refine ⟨ox k h1 (by omega) (by omega) (by omega), fun G hG ht x' w' hx' hw' => ?_⟩
        rw [if_pos rfl, aS G hG k h1 (by omega) (by omega) (by omega) x' w' hx' hw']
        exact ⟨fun q => ⟨ht.mp rfl, q⟩, fun q => q.2⟩
    refine ⟨fun z => z = if t19 = true then msa (s0 * 29 + 19) else -1, ⟨fun h => by rw [bI0.mp h]; rfl, fun h => ⟨vi 19 (by decide), by rw [bI_ne.mp h]; rfl⟩⟩, ?_⟩
    rintro _ rfl
    refine ⟨⟨(tsel t19 19 (by decide) (by decide)).1, ov⟩, fun f3 k3 => ?_⟩
    have H3 : ∀ G, (G = gM mki msz mle mel mme mal mic mil mio mab mae msa mlc mli mna mva mma n0) → AkI (fun x w => (AskS G s0 v0 17 x w ∨ AskS G s0 v0 18 x w) ∨ (trn G s0 v0 19 ∧ AskS G s0 v0 19 x w)) c0 mch f3 := fun G hG => AkI.step (H2 G hG) hmch hc0 k3 (tsel t19 19 (by decide) (by decide)).1 ov (fun x' w' hx' hw' => by rw [(tsel t19 19 (by decide) (by decide)).2 G hG (ht19 G hG) x' w' hx' hw'])
    refine ⟨⟨n0, m0, s0, v0, hnv, hns, hS, ⟨hs, hv, rfl, rfl⟩, 20, by decide, rfl⟩, fun t20 ht20 => ?_⟩
    refine ⟨fun z => z = if t20 = true then msa (s0 * 29 + 20) else -1, ⟨fun h => by rw [bI0.mp h]; rfl, fun h => ⟨vi 20 (by decide), by rw [bI_ne.mp h]; rfl⟩⟩, ?_⟩
    rintro _ rfl
    refine ⟨⟨(tsel t20 20 (by decide) (by decide)).1, ov⟩, fun f4 k4 => ?_⟩
    have H4 : ∀ G, (G = gM mki msz mle mel mme mal mic mil mio mab mae msa mlc mli mna mva mma n0) → AkI (fun x w => ((AskS G s0 v0 17 x w ∨ AskS G s0 v0 18 x w) ∨ (trn G s0 v0 19 ∧ AskS G s0 v0 19 x w)) ∨ (trn G s0 v0 20 ∧ AskS G s0 v0 20 x w)) c0 mch f4 := fun G hG => AkI.step (H3 G hG) hmch hc0 k4 (tsel t20 20 (by decide) (by decide)).1 ov (fun x' w' hx' hw' => by rw [(tsel t20 20 (by decide) (by decide)).2 G hG (ht20 G hG) x' w' hx' hw'])
    refine ⟨vi 21 (by decide), ⟨ox 21 (by decide) (by decide) (by decide) (by decide), ov⟩, fun f5 k5 => ?_⟩
    have H5 := fun G (hG : G = gM mki msz mle mel mme mal mic mil mio mab mae msa mlc mli mna mva mma n0) => AkI.step (D' := fun x w => (((AskS G s0 v0 17 x w ∨ AskS G s0 v0 18 x w) ∨ (trn G s0 v0 19 ∧ AskS G s0 v0 19 x w)) ∨ (trn G s0 v0 20 ∧ AskS G s0 v0 20 x w)) ∨ AskS G s0 v0 21 x w) (H4 G hG) hmch hc0 k5 (ox 21 (by decide) (by decide) (by decide) (by decide)) ov (fun x' w' hx' hw' => by rw [aS G hG 21 (by decide) (by decide) (by decide) (by decide) x' w' hx' hw'])
    refine ⟨vi 22 (by decide), vp_in_nI (by omega) (by decide), ap 22 (by decide) (by decide) (by decide) (by decide), fun f6 k6 => ?_⟩
    have H6 := fun G (hG : G = gM mki msz mle mel mme mal mic mil mio mab mae msa mlc mli mna mva mma n0) => (k6 mch _ c0 rfl hc0 hmch (H5 G hG)).same (fun x' w' hx' hw' => or_congr_right (elP G hG 22 (by decide) (by decide) (by decide) (by decide) _ (fun i => lsL G s0 3 ≤ i) (fun i hi => by
      have hls : lsL G s0 3 = p := by unfold lsL; rw [(gM_eq hG).2.2.2.2.1, ep, cp]
      rw [b_m1s p (by omega) i (by omega), decide_eq_true_eq, hls]) x' w' hx' hw'))
    refine ⟨vi 23 (by decide), ap 23 (by decide) (by decide) (by decide) (by decide), fun f7 k7 => ?_⟩
    have H7 := fun G (hG : G = gM mki msz mle mel mme mal mic mil mio mab mae msa mlc mli mna mva mma n0) => (k7 mch _ c0 rfl hc0 hmch (H6 G hG)).same (D' := fun x w => _ ∨ (gK G v0 = 4 ∧ ruH G s0 23 ∧ x = ruV G s0 23 ∧ ∃ i, gPb G v0 i ∧ w = gPt G v0 i)) (fun x' w' hx' hw' => or_congr_right ((elP G hG 23 (by decide) (by decide) (by decide) (by decide) (-1) (fun _ => True) (fun i hi => ⟨fun _ => trivial, fun _ => b_m1 i (by omega)⟩) x' w' hx' hw').trans ⟨fun ⟨q1, q2, q3, i, q4, _, q5⟩ => ⟨q1, q2, q3, i, q4, q5⟩, fun ⟨q1, q2, q3, i, q4, q5⟩ => ⟨q1, q2, q3, i, q4, trivial, q5⟩⟩))
    refine ⟨vi 26 (by decide), ⟨n0, m0, s0, v0, hnv, hns, hS, hs, hv, rfl, rfl⟩, fun ad had => ⟨ap 26 (by decide) (by decide) (by decide) (by decide), fun f8 k8 => ?_⟩⟩
    have H8 := fun G (hG : G = gM mki msz mle mel mme mal mic mil mio mab mae msa mlc mli mna mva mma n0) => (k8 mch _ c0 rfl hc0 hmch (H7 G hG)).same (fun x' w' hx' hw' => or_congr_right (meP G hG 26 (by decide) (by decide) (by decide) (by decide) _ (fun i => ¬ nmH G s0 0 i) (fun h5 i hi hb => by
      have hnm : nmH G s0 0 i ↔ ¬ mna ((s0 * 3 + 0) * 12 + i) < 0 := by unfold nmH; rw [(gM_eq hG).2.2.2.2.2.2.1]
      rw [had i (by omega), hnm, Classical.not_not]
      exact ⟨fun q => q.2.2.2, fun q => ⟨hi, h5, (mem G hG h5 i hi).1.mp hb, q⟩⟩) x' w' hx' hw'))
    refine ⟨vi 27 (by decide), ⟨n0, m0, s0, v0, hnv, hns, hS, hs, hv, rfl, rfl⟩, fun mk1 hmk1 => ⟨ap 27 (by decide) (by decide) (by decide) (by decide), fun f9 k9 => ?_⟩⟩
    have hinv : ∀ (mk : Int32), (∀ G : Sp, G = gM mki msz mle mel mme mal mic mil mio mab mae msa mlc mli mna mva mma n0 → ∀ i, i < 32 → (bt mk i = true ↔ Mrk0 G s0 v0 i)) → ∀ G, (G = gM mki msz mle mel mme mal mic mil mio mab mae msa mlc mli mna mva mma n0) → ∀ i, i < 32 → (bt (mk ^^^ (-1)) i = true ↔ ¬ Mrk0 G s0 v0 i) := fun mk hmk G hG i hi => by
      rw [b_inv _ hi, ← hmk G hG i hi]
      cases bt mk i <;> simp
    have H9 := fun G (hG : G = gM mki msz mle mel mme mal mic mil mio mab mae msa mlc mli mna mva mma n0) => (k9 mch _ c0 rfl hc0 hmch (H8 G hG)).same (fun x' w' hx' hw' => or_congr_right (meP G hG 27 (by decide) (by decide) (by decide) (by decide) _ (fun i => ¬ Mrk0 G s0 v0 i) (fun h5 i hi hb => hinv mk1 hmk1 G hG i (by omega)) x' w' hx' hw'))
    refine ⟨vi 28 (by decide), ⟨n0, m0, s0, v0, hnv, hns, hS, hs, hv, rfl, rfl⟩, fun mk2 hmk2 => ⟨ap 28 (by decide) (by decide) (by decide) (by decide), fun f10 k10 => ?_⟩⟩
    have H10 := fun G (hG : G = gM mki msz mle mel mme mal mic mil mio mab mae msa mlc mli mna mva mma n0) => (k10 mch _ c0 rfl hc0 hmch (H9 G hG)).same (fun x' w' hx' hw' => or_congr_right (elP G hG 28 (by decide) (by decide) (by decide) (by decide) _ (fun i => ¬ Mrk0 G s0 v0 i) (fun i hi => hinv mk2 hmk2 G hG i (by omega)) x' w' hx' hw'))
    clear H1 H2 H3 H4 H5 H6 H7 H8 H9 k1 k2 k3 k4 k5 k6 k7 k8 k9 k10
    generalize hDD : (fun (G : Sp) (x w : Nat) => ((((((((AskS G s0 v0 17 x w ∨ AskS G s0 v0 18 x w) ∨ (trn G s0 v0 19 ∧ AskS G s0 v0 19 x w)) ∨ (trn G s0 v0 20 ∧ AskS G s0 v0 20 x w)) ∨ AskS G s0 v0 21 x w) ∨ (gK G v0 = 4 ∧ ruH G s0 22 ∧ x = ruV G s0 22 ∧ ∃ i, gPb G v0 i ∧ lsL G s0 3 ≤ i ∧ w = gPt G v0 i)) ∨ (gK G v0 = 4 ∧ ruH G s0 23 ∧ x = ruV G s0 23 ∧ ∃ i, gPb G v0 i ∧ w = gPt G v0 i)) ∨ (gK G v0 = 5 ∧ ruH G s0 26 ∧ x = ruV G s0 26 ∧ ∃ i, gPb G v0 i ∧ ¬ nmH G s0 0 i ∧ w = gPt G v0 i)) ∨ (gK G v0 = 5 ∧ ruH G s0 27 ∧ x = ruV G s0 27 ∧ ∃ i, gPb G v0 i ∧ ¬ Mrk0 G s0 v0 i ∧ w = gPt G v0 i)) ∨ (gK G v0 = 4 ∧ ruH G s0 28 ∧ x = ruV G s0 28 ∧ ∃ i, gPb G v0 i ∧ ¬ Mrk0 G s0 v0 i ∧ w = gPt G v0 i)) = DD
    have H : ∀ G, (G = gM mki msz mle mel mme mal mic mil mio mab mae msa mlc mli mna mva mma n0) → AkI (DD G) c0 mch f10 := fun G hG => by rw [← hDD]; exact H10 G hG
    clear H10
    have hF : ∀ G, (G = gM mki msz mle mel mme mal mic mil mio mab mae msa mlc mli mna mva mma n0) → ∀ x w, Ask G s0 v0 x w ↔ (DD G x w ∨ ∃ k, k < 4 ∧ LI G s0 v0 k x w) ∨ ∃ n, n < 12 ∧ NI G s0 v0 n x w := fun G hG x w => by rw [← hDD]; exact Ask_iff (fun i q => by rw [gB G hG] at q; exact q.1)
    clear hDD
    refine ⟨fun xk f => ∃ j, j ≤ 4 ∧ xk = nI (29 + j) ∧ ∀ G, (G = gM mki msz mle mel mme mal mic mil mio mab mae msa mlc mli mna mva mma n0) → AkI (fun x w => DD G x w ∨ ∃ k, k < j ∧ LI G s0 v0 k x w) c0 mch f, fun xk _ => 33 - xk.toInt.toNat, ⟨0, by decide, rfl, fun G hG => (H G hG).same (fun x w _ _ => ⟨Or.inl, fun q => q.elim id (fun ⟨k, q, _⟩ => absurd q (Nat.not_lt_zero _))⟩)⟩, ?_⟩
    rintro xk f11 ⟨j, hj, rfl, hI⟩
    refine ⟨fun h => ?_, fun h => ?_⟩
    · obtain rfl : j = 4 := by have := fill_end (N := 33) h (by decide) (by omega); omega
      refine ⟨fun xn f => ∃ j, j ≤ 12 ∧ xn = nI j ∧ ∀ G, (G = gM mki msz mle mel mme mal mic mil mio mab mae msa mlc mli mna mva mma n0) → AkI (fun x w => (DD G x w ∨ ∃ k, k < 4 ∧ LI G s0 v0 k x w) ∨ ∃ n, n < j ∧ NI G s0 v0 n x w) c0 mch f, fun xn _ => 12 - xn.toInt.toNat, ⟨0, by decide, rfl, fun G hG => (hI G hG).same (fun x w _ _ => ⟨Or.inl, fun q => q.elim id (fun ⟨k, q, _⟩ => absurd q (Nat.not_lt_zero _))⟩)⟩, ?_⟩
      rintro xn f12 ⟨j, hj, rfl, hI⟩
      refine ⟨fun h2 => ?_, fun h2 => ?_⟩
      · obtain rfl := fill_end (N := 12) h2 (by decide) hj
        refine (hpost _ _ _ _ _ _ _ _ _ _ _ _ _ _ _ _ _ _ _ _ _ _ _ _ _ _ _ ⟨fun G hG c1 e hc1 _ => ?_, rfl, rfl, rfl, rfl, rfl, rfl, rfl, rfl, rfl, rfl, rfl, rfl, rfl, rfl, rfl, rfl, rfl, rfl, rfl, rfl, rfl, rfl, rfl, rfl, rfl, rfl⟩)
        rw [nI_eq (by omega) (by omega)] at e
        subst e
        exact (hI G hG).same (fun x w _ _ => (hF G hG x w).symm)
      · have hj2 := fill_step (N := 12) h2 (by decide) hj
        have mu := fill_mu (N := 12) hj2 (by decide)
        have c12 : (nI (12 * v0 + j)).toNatClampNeg = 12 * v0 + j := nI_clamp (by omega)
        have c36 : (nI ((s0 * 3 + 0) * 12 + j)).toNatClampNeg = (s0 * 3 + 0) * 12 + j := nI_clamp (by omega)
        have c36' : (nI ((s0 * 3 + 1) * 12 + j)).toNatClampNeg = (s0 * 3 + 1) * 12 + j := nI_clamp (by omega)
        have o0 := ((hS.2.2.2.2.1 s0 hs24).2.2 0 j (by decide) hj2).mono hm24
        have o1 := ((hS.2.2.2.2.1 s0 hs24).2.2 1 j (by decide) hj2).mono hm24
        have om : okx (if mki v0 = 5 then mme (12 * v0 + j) else -1) 40 := by split; exact (hmem j hj2).mono (by omega); exact Or.inl rfl
        have hvi : vp_in (nI v0) 40 ∧ vp_in (nI (12 * v0 + j)) 480 := ⟨hxv, vp_in_nI (by omega) (by decide)⟩
        have gN : ∀ G, (G = gM mki msz mle mel mme mal mic mil mio mab mae msa mlc mli mna mva mma n0) → gBn G = mna := fun G hG => (gM_eq hG).2.2.2.2.2.2.1
        have nk : ∀ G, (G = gM mki msz mle mel mme mal mic mil mio mab mae msa mlc mli mna mva mma n0) → ∀ k, k < 2 → ∀ x', x' < 24 → (mna ((s0 * 3 + k) * 12 + j) = nI x' ↔ nmH G s0 k j ∧ x' = nmV G s0 k j) := fun G hG k hk x' hx' => by
          unfold nmH nmV; rw [gN G hG]
          rcases (hS.2.2.2.2.1 s0 hs24).2.2 k j hk hj2 with e | ⟨q, hq, e⟩
          · rw [e]; exact ⟨fun w => absurd w (neg_nI (by omega)), fun w => absurd neg1_lt w.1⟩
          · rw [e, nI_eq (by omega) (by omega), nI_clamp (show q < 2 ^ 31 by omega)]
            exact ⟨fun w => ⟨nI_pos (by omega), w.symm⟩, fun w => w.2.symm⟩
        rw [jx12v, c12, jx36, c36, jx36', c36']
        refine ⟨vp_in_nI (by omega) (by decide), hvi, ⟨o0, om⟩, fun f13 k13 => ⟨hvi, fun z => okx z 24 ∧ ∀ G, (G = gM mki msz mle mel mme mal mic mil mio mab mae msa mlc mli mna mva mma n0) → ∀ x' w', x' < 24 → w' < 40 → ((z = nI x' ∧ nI v0 = nI w') ↔ (gK G v0 = 5 ∧ gPb G v0 j ∧ nmH G s0 1 j ∧ x' = nmV G s0 1 j ∧ w' = v0)), ⟨fun h3 => ⟨Or.inl rfl, fun G hG x' w' hx' hw' => ⟨fun q => absurd q.1 (neg_nI (by omega)), fun q => ?_⟩⟩, fun h3 => ⟨vp_in_nI (by omega) (by decide), o1, fun G hG x' w' hx' hw' => ?_⟩⟩, fun z hz => ⟨⟨hz.1, ov⟩, fun f14 k14 => ⟨⟨j + 1, hj2, nI_1 j, fun G hG => ?_⟩, mu⟩⟩⟩⟩
        · rw [ite5] at h3
          have h5 : mki v0 = 5 := by rw [← gKk G hG]; exact q.1
          exact absurd ⟨h5, (mem G hG h5 j hj2).1.mp q.2.1⟩ h3
        · rw [ite5] at h3
          obtain ⟨h5, hnn⟩ := Classical.not_not.mp h3
          rw [nk G hG 1 (by decide) x' hx', hvn w' hw', gKk G hG]
          exact ⟨fun q => ⟨h5, (mem G hG h5 j hj2).1.mpr hnn, q.1.1, q.1.2, q.2⟩, fun q => ⟨⟨q.2.2.1, q.2.2.2.1⟩, q.2.2.2.2⟩⟩
        · have s1 := AkI.step (D' := fun x w => ((DD G x w ∨ ∃ k, k < 4 ∧ LI G s0 v0 k x w) ∨ ∃ n, n < j ∧ NI G s0 v0 n x w) ∨ (gK G v0 = 5 ∧ gPb G v0 j ∧ nmH G s0 0 j ∧ x = nmV G s0 0 j ∧ w = gPt G v0 j)) (hI G hG) hmch hc0 k13 o0 om (fun x' w' hx' hw' => by
            refine or_congr_right ?_
            rw [nk G hG 0 (by decide) x' hx', gKk G hG]
            by_cases h5 : mki v0 = 5
            · rw [if_pos h5, mew G hG h5 j hj2 w' hw']
              exact ⟨fun q => ⟨⟨q.2.2.1, q.2.2.2.1⟩, q.2.1, q.2.2.2.2⟩, fun q => ⟨h5, q.2.1, q.1.1, q.1.2, q.2.2⟩⟩
            · rw [if_neg h5]
              exact ⟨fun q => absurd q.1 h5, fun q => absurd q.2 (neg_nI (by omega))⟩)
          refine AkI.step s1 hmch hc0 k14 hz.1 ov (fun x' w' hx' hw' => ?_)
          rw [hz.2 G hG x' w' hx' hw', ex_succ (j := j), or_assoc (a := (DD G x' w' ∨ ∃ k, k < 4 ∧ LI G s0 v0 k x' w') ∨ ∃ n, n < j ∧ NI G s0 v0 n x' w'), or_assoc (a := DD G x' w' ∨ ∃ k, k < 4 ∧ LI G s0 v0 k x' w')]
          refine or_congr_right (or_congr_right ?_)
          unfold NI
          constructor
          · rintro ⟨q1, q2, q3 | q3⟩
            · exact Or.inl ⟨q1, q2, q3⟩
            · exact Or.inr ⟨q1, q2, q3⟩
          · rintro (⟨q1, q2, q3⟩ | ⟨q1, q2, q3⟩)
            · exact ⟨q1, q2, Or.inl q3⟩
            · exact ⟨q1, q2, Or.inr q3⟩
    · have hj2 : j < 4 := by have := fill_step (N := 33) h (by decide) (by omega); omega
      obtain ⟨K, hK3, eK⟩ := hS.2.2.2.1 (s0 * 4 + j) (by omega)
      have c4j : (nI (s0 * 4 + j)).toNatClampNeg = s0 * 4 + j := nI_clamp (by omega)
      have cK : (nI K).toNatClampNeg = K := nI_clamp (by omega)
      have l32 : nI (29 + j) < 32 ↔ 29 + j < 32 := nI_ltR (n := 32) (by decide) (by omega)
      have g32 : (32 : Int32) ≤ nI (29 + j) ↔ 32 ≤ 29 + j := nI_leL (n := 32) (by decide) (by omega)
      have hls : ∀ G, (G = gM mki msz mle mel mme mal mic mil mio mab mae msa mlc mli mna mva mma n0) → lsL G s0 j = K := fun G hG => by unfold lsL; rw [(gM_eq hG).2.2.2.2.1, eK, cK]
      refine ⟨fun xi f => ∃ a, a ≤ K ∧ xi = nI a ∧ ∀ G, (G = gM mki msz mle mel mme mal mic mil mio mab mae msa mlc mli mna mva mma n0) → AkI (fun x w => (DD G x w ∨ ∃ k, k < j ∧ LI G s0 v0 k x w) ∨ ∃ i, i < a ∧ x = lsV G s0 j i ∧ ((j < 3 ∧ w = v0) ∨ (j = 3 ∧ gK G v0 = 4 ∧ gPb G v0 i ∧ w = gPt G v0 i))) c0 mch f, fun xi _ => K - xi.toInt.toNat, ⟨0, Nat.zero_le _, rfl, fun G hG => (hI G hG).same (fun x w _ _ => ⟨Or.inl, fun q => q.elim id (fun ⟨k, q, _⟩ => absurd q (Nat.not_lt_zero _))⟩)⟩, ?_⟩
      rintro xi f12 ⟨a, ha, rfl, hI2⟩
      rw [jx4, c4j, eK, l32, g32]
      refine ⟨vp_in_nI (by omega) (by decide), fun h2 => ?_, fun h2 => ?_⟩
      · obtain rfl := (fill_end (N := K) h2 (by omega) ha).symm
        refine ⟨⟨j + 1, hj2, nI_1 _, fun G hG => (hI2 G hG).same (fun x w _ _ => ?_)⟩, fill_mu (N := 33) (k := 29 + j) (by omega) (by decide)⟩
        rw [ex_succ (j := j), or_assoc]
        refine or_congr_right (or_congr_right ?_)
        unfold LI AskL
        rw [hls G hG]
        constructor
        · rintro ⟨i, q1, q2, ⟨q3, q4⟩ | ⟨q3, q4, q5, q6⟩⟩
          · exact Or.inl ⟨q3, q4, i, q1, q2⟩
          · subst q3; exact Or.inr ⟨rfl, q4, i, by rw [hls G hG]; exact q1, q5, q2, q6⟩
        · rintro (⟨q3, q4, i, q1, q2⟩ | ⟨q3, q4, i, q1, q5, q2, q6⟩)
          · exact ⟨i, q1, q2, Or.inl ⟨q3, q4⟩⟩
          · subst q3; rw [hls G hG] at q1; exact ⟨i, q1, q2, Or.inr ⟨rfl, q4, q5, q6⟩⟩
      · have ha2 := fill_step (N := K) h2 (by omega) ha
        have mu := fill_mu (N := K) ha2 (by omega)
        have c12 : (nI ((s0 * 4 + j) * 3 + a)).toNatClampNeg = (s0 * 4 + j) * 3 + a := nI_clamp (by omega)
        have c8 : (nI (8 * v0 + a)).toNatClampNeg = 8 * v0 + a := nI_clamp (by omega)
        obtain ⟨x0, hx, ex⟩ := hS.2.2.2.2.2.2.2.1 s0 j a hs24 (by omega) (by rw [eK, cK]; exact ha2)
        have hlv : ∀ G, (G = gM mki msz mle mel mme mal mic mil mio mab mae msa mlc mli mna mva mma n0) → lsV G s0 j a = x0 := fun G hG => by unfold lsV; rw [(gM_eq hG).2.2.2.2.2.1, ex]; exact nI_clamp (by omega)
        have hLa : nI L ≤ nI a ↔ L ≤ a := nI_leI (by omega) (by omega)
        rw [jx12, c12, ex, jx8v, c8, hLa]
        refine ⟨fun z => ∃ b : Bool, z = bI b ∧ (b = true ↔ 29 + j < 32 ∨ (mki v0 = 4 ∧ a < L)), ⟨fun h3 => ⟨true, rfl, ⟨fun _ => Or.inl h3, fun _ => rfl⟩⟩, fun h3 => ⟨hxv, ¬ (mki v0 = 4 ∧ a < L), ⟨fun h4 q => h4 q.1, fun h4 => ⟨hxv, fun h5 q => by omega, fun h5 => ⟨true, rfl, ⟨fun _ => Or.inr ⟨h4, by omega⟩, fun _ => rfl⟩⟩⟩⟩, fun h4 => ⟨false, rfl, ⟨fun q => absurd q (by decide), fun q => q.elim (fun q => absurd q h3) (fun q => absurd q h4)⟩⟩⟩⟩, ?_⟩
        rintro _ ⟨b, rfl, hb⟩
        refine ⟨fun z => z = if b = true then nI x0 else -1, ⟨fun h3 => by rw [bI0.mp h3]; rfl, fun h3 => ⟨vp_in_nI (by omega) (by decide), by rw [bI_ne.mp h3]; rfl⟩⟩, ?_⟩
        rintro _ rfl
        refine ⟨fun z => z = if 32 ≤ 29 + j then mel (8 * v0 + a) else nI v0, ⟨fun h3 => ⟨vp_in_nI (by omega) (by decide), by rw [if_pos h3]⟩, fun h3 => by rw [if_neg h3]⟩, ?_⟩
        rintro _ rfl
        have oz : okx (if b = true then nI x0 else -1) 24 := by split; exact Or.inr ⟨x0, by omega, rfl⟩; exact Or.inl rfl
        have ow : okx (if 32 ≤ 29 + j then mel (8 * v0 + a) else nI v0) 40 := by
          split
          · obtain ⟨q, hq, e, _⟩ := vp_nat (hS.1.2.1 (8 * v0 + a) (by omega)) (by decide)
            exact Or.inr ⟨q, hq, e⟩
          · exact ov
        refine ⟨⟨oz, ow⟩, fun f13 k13 => ⟨⟨a + 1, ha2, nI_1 a, fun G hG => AkI.step (hI2 G hG) hmch hc0 k13 oz ow (fun x' w' hx' hw' => ?_)⟩, mu⟩⟩
        rw [ex_succ (j := a), or_assoc (a := DD G x' w' ∨ ∃ k, k < j ∧ LI G s0 v0 k x' w'), hlv G hG]
        refine or_congr_right (or_congr_right ?_)
        rw [gKk G hG]
        by_cases h3 : 29 + j < 32
        · rw [hb.mpr (Or.inl h3), if_pos rfl, if_neg (show ¬ 32 ≤ 29 + j by omega), nI_of_eq (by omega) (by omega) rfl, hvn w' hw']
          exact ⟨fun q => ⟨q.1, q.2.elim (fun q => q.2) (fun q => by omega)⟩, fun q => ⟨q.1, Or.inl ⟨by omega, q.2⟩⟩⟩
        · rw [if_pos (show 32 ≤ 29 + j by omega)]
          by_cases h4 : mki v0 = 4 ∧ a < L
          · rw [hb.mpr (Or.inr h4), if_pos rfl, nI_of_eq (by omega) (by omega) rfl, elw G hG h4.1 a h4.2 w' hw']
            exact ⟨fun q => ⟨q.1, q.2.elim (fun q => by omega) (fun q => q.2.2.2)⟩, fun q => ⟨q.1, Or.inr ⟨by omega, h4.1, (row G hG h4.1 a).1.mpr h4.2, q.2⟩⟩⟩
          · have hbf : b = false := by
              cases e : b
              · rfl
              · exact absurd (hb.mp e) (fun q => q.elim h3 h4)
            rw [hbf, if_neg (by decide)]
            exact ⟨fun q => q.2.elim (fun q => by omega) (fun q => absurd ⟨q.2.1, (row G hG q.2.1 a).1.mp q.2.2.1⟩ h4), fun q => absurd q.1 (neg_nI (by omega))⟩
  exact main _ (fun _ _ _ _ _ _ _ _ _ _ _ _ _ _ _ _ _ _ _ _ _ _ _ _ _ _ _ h => h)
theorem c_Mo_askAll (l : Launch) (D : va_G) (b : Nat → Nat) (cI cJ cZ : ClassId) (mki : Nat → Int32) (msz : Nat → Int64) (mle : Nat → Int32) (mel : Nat → Int32) (mme : Nat → Int32) (mal : Nat → Int32) (mic : Nat → Int32) (mil : Nat → Int32) (mio : Nat → Int32) (mab : Nat → Int32) (mae : Nat → Int32) (msa : Nat → Int32) (mlc : Nat → Int32) (mli : Nat → Int32) (mna : Nat → Int32) (mva : Nat → Int32) (mma : Nat → Int32) (mch : Nat → Int32) (mre : Nat → Int32) (mlv : Nat → Int32) (mwr : Nat → Int64) (msh : Nat → Int32) (mth : Int32) (mnv : Int32) (mns : Int32) (mfa : Int32) (mmo : Int32) (x : Int32) (y : Int32) (hpre : (∃ n0 m0 s0 v0 : Nat, mnv = nI n0 ∧ mns = nI m0 ∧ MSOK mki msz mle mel mme mic mio msa mlc mli mna mva n0 m0 ∧ (s0 < m0 ∧ v0 < n0 ∧ x = nI s0 ∧ y = nI v0) ∧ ∀ q, q < 960 → ∃ e, e < 2 ^ 30 ∧ mch q = nI e)) : Wm (S := (Nat → Int32)) l y_Mo_askAll b_Mo_askAll 7 none 4 95 [.ref (b 0), .int x, .int y] D (tyA cI cJ cZ) (wM b cI cJ cZ mki msz mle mel mme mal mic mil mio mab mae msa mlc mli mna mva mma mch mre mlv mwr msh mth mnv mns mfa mmo) (fun uu => (∀ G : Sp, G = gM mki msz mle mel mme mal mic mil mio mab mae msa mlc mli mna mva mma mnv.toNatClampNeg → ∀ c : Nat, mch (40 * x.toNatClampNeg + y.toNatClampNeg) = nI c → c < 2 ^ 30 → (∀ q, q < 960 → ∃ e, e < 2 ^ 30 ∧ mch q = nI e) → AkI (Ask G x.toNatClampNeg y.toNatClampNeg) c mch uu)) (fun uu => none) (fun uu => (wM b cI cJ cZ mki msz mle mel mme mal mic mil mio mab mae msa mlc mli mna mva mma uu mre mlv mwr msh mth mnv mns mfa mmo)) :=
  wm_v (by decide) (Nat.le_of_ble_eq_true rfl) (fun p e s m below meth c ls Q A S hK hP hD hA hS hl hret => g_Mo_askAll S (Nat.le_refl _) (Nat.le_refl _) ⟨Nat.le_refl _, Nat.le_refl _⟩ D b cI cJ cZ mki msz mle mel mme mal mic mil mio mab mae msa mlc mli mna mva mma mch mre mlv mwr msh mth mnv mns mfa mmo x y hK hP hD hA hS hl (v_Mo_askAll mki msz mle mel mme mal mic mil mio mab mae msa mlc mli mna mva mma mch mre mlv mwr msh mth mnv mns mfa mmo x y hpre) (fun mki' msz' mle' mel' mme' mal' mic' mil' mio' mab' mae' msa' mlc' mli' mna' mva' mma' mch' mre' mlv' mwr' msh' mth' mnv' mns' mfa' mmo' ls1 pc H1 locs1 hd hv hP1 hD1 hS1 => by obtain ⟨hp, rfl, rfl, rfl, rfl, rfl, rfl, rfl, rfl, rfl, rfl, rfl, rfl, rfl, rfl, rfl, rfl, rfl, rfl, rfl, rfl, rfl, rfl, rfl, rfl, rfl, rfl⟩ := hv; exact hret mch' ls1 pc H1 locs1 hd hp hP1 hD1 hS1))
theorem hd_Mo_askAll : y_Mo_askAll.cls ≠ "java/lang/invoke/MethodHandle" ∧ y_Mo_askAll.cls ≠ "java/lang/invoke/VarHandle" ∧ (parseMethodDescriptor y_Mo_askAll.desc).map (fun d => d.parameters.length) = some 2 := ⟨by decide, by decide, by decide +kernel⟩
