def F4 (G : Sp) (s v i : Nat) : Prop := (gK G v = 4 ∧ (MrkEl G s v i ∨ MrkCo G s v i)) ∨ (gK G v = 5 ∧ gPb G v i ∧ (nmH G s 0 i ∨ ruH G s 26))
theorem Mrk0_iff {G : Sp} {s v i : Nat} (h12 : ∀ i, gPb G v i → i < 12) : Mrk0 G s v i ↔ ((((F4 G s v i ∨ MrkS G s v 18 i) ∨ MrkS G s v 21 i) ∨ ((trn G s v 19 ∧ MrkS G s v 19 i) ∨ (trn G s v 20 ∧ MrkS G s v 20 i))) ∨ ∃ k, k < 3 ∧ MrkL G s v k i) ∨ ∃ n, n < 12 ∧ gK G v = 5 ∧ gPb G v n ∧ nmH G s 1 n ∧ gMk G (nmV G s 1 n) v i := by
  unfold Mrk0 MrkIn F4 MrkMe
  constructor
  · rintro ((q | q | q | q | q | q | q) | ⟨q1, q2⟩ | ⟨q1, n, q2, q3, ⟨q4, q5⟩ | q4⟩)
    · exact Or.inl (Or.inl (Or.inl (Or.inl (Or.inr q))))
    · exact Or.inl (Or.inl (Or.inr (Or.inl q)))
    · exact Or.inl (Or.inl (Or.inr (Or.inr q)))
    · exact Or.inl (Or.inl (Or.inl (Or.inr q)))
    · exact Or.inl (Or.inr ⟨0, by decide, q⟩)
    · exact Or.inl (Or.inr ⟨1, by decide, q⟩)
    · exact Or.inl (Or.inr ⟨2, by decide, q⟩)
    · exact Or.inl (Or.inl (Or.inl (Or.inl (Or.inl (Or.inl ⟨q1, q2⟩)))))
    · subst q4; exact Or.inl (Or.inl (Or.inl (Or.inl (Or.inl (Or.inr ⟨q1, q3, q5⟩)))))
    · exact Or.inr ⟨n, q2, q1, q3, q4⟩
  · rintro ((((((q | ⟨q1, q2, q3⟩) | q) | q) | (q | q)) | ⟨k, hk, q⟩) | ⟨n, q1, q2, q3, q4⟩)
    · exact Or.inr (Or.inl q)
    · exact Or.inr (Or.inr ⟨q1, i, h12 i q2, q2, Or.inl ⟨rfl, q3⟩⟩)
    · exact Or.inl (Or.inl q)
    · exact Or.inl (Or.inr (Or.inr (Or.inr (Or.inl q))))
    · exact Or.inl (Or.inr (Or.inl q))
    · exact Or.inl (Or.inr (Or.inr (Or.inl q)))
    · have : k = 0 ∨ k = 1 ∨ k = 2 := by omega
      rcases this with rfl | rfl | rfl
      · exact Or.inl (Or.inr (Or.inr (Or.inr (Or.inr (Or.inl q)))))
      · exact Or.inl (Or.inr (Or.inr (Or.inr (Or.inr (Or.inr (Or.inl q))))))
      · exact Or.inl (Or.inr (Or.inr (Or.inr (Or.inr (Or.inr (Or.inr q))))))
    · exact Or.inr (Or.inr ⟨q2, n, q1, q3, Or.inr q4⟩)
def V_Mo_marksOf (mki : Nat → Int32) (msz : Nat → Int64) (mle : Nat → Int32) (mel : Nat → Int32) (mme : Nat → Int32) (mal : Nat → Int32) (mic : Nat → Int32) (mil : Nat → Int32) (mio : Nat → Int32) (mab : Nat → Int32) (mae : Nat → Int32) (msa : Nat → Int32) (mlc : Nat → Int32) (mli : Nat → Int32) (mna : Nat → Int32) (mva : Nat → Int32) (mma : Nat → Int32) (mch : Nat → Int32) (mre : Nat → Int32) (mlv : Nat → Int32) (mwr : Nat → Int64) (msh : Nat → Int32) (mth : Int32) (mnv : Int32) (mns : Int32) (mfa : Int32) (mmo : Int32) (x : Int32) (y : Int32) (post : Int32 → (Nat → Int32) → (Nat → Int64) → (Nat → Int32) → (Nat → Int32) → (Nat → Int32) → (Nat → Int32) → (Nat → Int32) → (Nat → Int32) → (Nat → Int32) → (Nat → Int32) → (Nat → Int32) → (Nat → Int32) → (Nat → Int32) → (Nat → Int32) → (Nat → Int32) → (Nat → Int32) → (Nat → Int32) → (Nat → Int32) → (Nat → Int32) → (Nat → Int32) → (Nat → Int64) → (Nat → Int32) → Int32 → Int32 → Int32 → Int32 → Int32 → Prop) : Prop :=
  (vp_in y 40 ∧ (∃ J1 : Int32 → Prop, ((¬ (mki y.toNatClampNeg) = 4 → (vp_in y 40 ∧ (∀ (x2 : Int32), ((∀ i, i < 32 → (bt x2 i = true ↔ i < 12 ∧ mki y.toNatClampNeg = 5 ∧ ¬ mme (12 * y.toNatClampNeg + i) < 0))) → J1 x2))) ∧ ((mki y.toNatClampNeg) = 4 → (vp_in y 40 ∧ J1 ((1 <<< ((mle y.toNatClampNeg) &&& 31)) - 1)))) ∧ (∀ (x3 : Int32), J1 x3 → (vp_in y 40 ∧ (∃ J4 : Int32 → Prop, ((¬ (mki y.toNatClampNeg) = 4 → (vp_in y 40 ∧ ((¬ (mki y.toNatClampNeg) = 5 → J4 0) ∧ ((mki y.toNatClampNeg) = 5 → (vp_in (29 * x + 26) 696 ∧ (∃ J6 : Int32 → Prop, (((msa (29 * x + 26 : Int32).toNatClampNeg) < 0 → ((∃ n0 m0 s0 v0 : Nat, mnv = nI n0 ∧ mns = nI m0 ∧ MSOK mki msz mle mel mme mic mio msa mlc mli mna mva n0 m0 ∧ s0 < m0 ∧ v0 < n0 ∧ x = nI s0 ∧ y = nI v0) ∧ (∀ (x7 : Int32), ((∀ i, i < 32 → (bt x7 i = true ↔ i < 12 ∧ mki y.toNatClampNeg = 5 ∧ ¬ mme (12 * y.toNatClampNeg + i) < 0 ∧ mna ((x.toNatClampNeg * 3 + 0) * 12 + i) < 0))) → J6 (x3 &&& (x7 ^^^ (-1)))))) ∧ (¬ (msa (29 * x + 26 : Int32).toNatClampNeg) < 0 → J6 x3)) ∧ (∀ (x8 : Int32), J6 x8 → J4 x8))))))) ∧ ((mki y.toNatClampNeg) = 4 → (vp_in (4 * x + 32 - 29) 96 ∧ (vp_in (29 * x + 22) 696 ∧ (∃ J9 : Int32 → Prop, (((msa (29 * x + 22 : Int32).toNatClampNeg) < 0 → J9 (((1 <<< ((mlc (4 * x + 32 - 29 : Int32).toNatClampNeg) &&& 31)) - 1) &&& x3)) ∧ (¬ (msa (29 * x + 22 : Int32).toNatClampNeg) < 0 → J9 x3)) ∧ (∀ (x10 : Int32), J9 x10 → (vp_in (29 * x + 23) 696 ∧ (∃ J11 : Int32 → Prop, (((msa (29 * x + 23 : Int32).toNatClampNeg) < 0 → J11 x10) ∧ (¬ (msa (29 * x + 23 : Int32).toNatClampNeg) < 0 → ((∃ n0 m0 s0 v0 : Nat, mnv = nI n0 ∧ mns = nI m0 ∧ MSOK mki msz mle mel mme mic mio msa mlc mli mna mva n0 m0 ∧ (s0 < m0 ∧ v0 < n0 ∧ x = nI s0 ∧ y = nI v0) ∧ ¬ msa (s0 * 29 + 23) < 0) ∧ (∀ (x12 : Int32), ((∀ G : Sp, G = gM mki msz mle mel mme mal mic mil mio mab mae msa mlc mli mna mva mma mnv.toNatClampNeg → mki y.toNatClampNeg = 4 → ∀ i, i < 32 → (bt x12 i = true ↔ MrkCo G x.toNatClampNeg y.toNatClampNeg i))) → J11 (x10 ||| x12))))) ∧ (∀ (x13 : Int32), J11 x13 → J4 x13))))))))) ∧ (∀ (x14 : Int32), J4 x14 → (vp_in (29 * x + 18) 696 ∧ ((∃ n0 m0 s0 v0 : Nat, mnv = nI n0 ∧ mns = nI m0 ∧ MSOK mki msz mle mel mme mic mio msa mlc mli mna mva n0 m0 ∧ okx (msa (29 * x + 18 : Int32).toNatClampNeg) m0 ∧ v0 < n0 ∧ y = nI v0) ∧ (∀ (x15 : Int32), ((∀ G : Sp, G = gM mki msz mle mel mme mal mic mil mio mab mae msa mlc mli mna mva mma mnv.toNatClampNeg → ∀ i, i < 32 → (bt x15 i = true ↔ ¬ (msa (29 * x + 18 : Int32).toNatClampNeg) < 0 ∧ gMk G (msa (29 * x + 18 : Int32).toNatClampNeg : Int32).toNatClampNeg y.toNatClampNeg i))) → (vp_in (29 * x + 21) 696 ∧ ((∃ n0 m0 s0 v0 : Nat, mnv = nI n0 ∧ mns = nI m0 ∧ MSOK mki msz mle mel mme mic mio msa mlc mli mna mva n0 m0 ∧ okx (msa (29 * x + 21 : Int32).toNatClampNeg) m0 ∧ v0 < n0 ∧ y = nI v0) ∧ (∀ (x16 : Int32), ((∀ G : Sp, G = gM mki msz mle mel mme mal mic mil mio mab mae msa mlc mli mna mva mma mnv.toNatClampNeg → ∀ i, i < 32 → (bt x16 i = true ↔ ¬ (msa (29 * x + 21 : Int32).toNatClampNeg) < 0 ∧ gMk G (msa (29 * x + 21 : Int32).toNatClampNeg : Int32).toNatClampNeg y.toNatClampNeg i))) → ((∃ n0 m0 s0 v0 : Nat, mnv = nI n0 ∧ mns = nI m0 ∧ MSOK mki msz mle mel mme mic mio msa mlc mli mna mva n0 m0 ∧ (s0 < m0 ∧ v0 < n0 ∧ x = nI s0 ∧ y = nI v0) ∧ ∃ k0 : Nat, k0 < 36 ∧ 19 = nI k0) ∧ (∀ (t17 : Bool), ((∀ G : Sp, G = gM mki msz mle mel mme mal mic mil mio mab mae msa mlc mli mna mva mma mnv.toNatClampNeg → (t17 = true ↔ trn G x.toNatClampNeg y.toNatClampNeg (19 : Int32).toNatClampNeg))) → (∃ J18 : Int32 → Prop, (((bI t17) = 0 → ((∃ n0 m0 s0 v0 : Nat, mnv = nI n0 ∧ mns = nI m0 ∧ MSOK mki msz mle mel mme mic mio msa mlc mli mna mva n0 m0 ∧ (s0 < m0 ∧ v0 < n0 ∧ x = nI s0 ∧ y = nI v0) ∧ ∃ k0 : Nat, k0 < 36 ∧ 20 = nI k0) ∧ (∀ (t19 : Bool), ((∀ G : Sp, G = gM mki msz mle mel mme mal mic mil mio mab mae msa mlc mli mna mva mma mnv.toNatClampNeg → (t19 = true ↔ trn G x.toNatClampNeg y.toNatClampNeg (20 : Int32).toNatClampNeg))) → (((bI t19) = 0 → J18 ((x14 ||| x15) ||| x16)) ∧ (¬ (bI t19) = 0 → (vp_in (29 * x + 20) 696 ∧ ((∃ n0 m0 s0 v0 : Nat, mnv = nI n0 ∧ mns = nI m0 ∧ MSOK mki msz mle mel mme mic mio msa mlc mli mna mva n0 m0 ∧ okx (msa (29 * x + 20 : Int32).toNatClampNeg) m0 ∧ v0 < n0 ∧ y = nI v0) ∧ (∀ (x21 : Int32), ((∀ G : Sp, G = gM mki msz mle mel mme mal mic mil mio mab mae msa mlc mli mna mva mma mnv.toNatClampNeg → ∀ i, i < 32 → (bt x21 i = true ↔ ¬ (msa (29 * x + 20 : Int32).toNatClampNeg) < 0 ∧ gMk G (msa (29 * x + 20 : Int32).toNatClampNeg : Int32).toNatClampNeg y.toNatClampNeg i))) → J18 (((x14 ||| x15) ||| x16) ||| x21))))))))) ∧ (¬ (bI t17) = 0 → (vp_in (29 * x + 19) 696 ∧ ((∃ n0 m0 s0 v0 : Nat, mnv = nI n0 ∧ mns = nI m0 ∧ MSOK mki msz mle mel mme mic mio msa mlc mli mna mva n0 m0 ∧ okx (msa (29 * x + 19 : Int32).toNatClampNeg) m0 ∧ v0 < n0 ∧ y = nI v0) ∧ (∀ (x22 : Int32), ((∀ G : Sp, G = gM mki msz mle mel mme mal mic mil mio mab mae msa mlc mli mna mva mma mnv.toNatClampNeg → ∀ i, i < 32 → (bt x22 i = true ↔ ¬ (msa (29 * x + 19 : Int32).toNatClampNeg) < 0 ∧ gMk G (msa (29 * x + 19 : Int32).toNatClampNeg : Int32).toNatClampNeg y.toNatClampNeg i))) → J18 (((x14 ||| x15) ||| x16) ||| x22)))))) ∧ (∀ (x23 : Int32), J18 x23 → (∃ (I33 : Int32 → Int32 → Prop) (mI33 : Int32 → Int32 → Nat), I33 x23 29 ∧ (∀ (x31 : Int32) (x32 : Int32), I33 x31 x32 → ((32 ≤ x32 → (∃ (I38 : Int32 → Int32 → Prop) (mI38 : Int32 → Int32 → Nat), I38 x31 0 ∧ (∀ (x36 : Int32) (x37 : Int32), I38 x36 x37 → ((12 ≤ x37 → post x36 mki msz mle mel mme mal mic mil mio mab mae msa mlc mli mna mva mma mch mre mlv mwr msh mth mnv mns mfa mmo) ∧ (¬ 12 ≤ x37 → ((vp_in y 40 ∧ vp_in (12 * y + x37) 480) ∧ (((if mki y.toNatClampNeg = 5 then mme (12 * y + x37 : Int32).toNatClampNeg else -1) < 0 → (I38 x36 (x37 + 1) ∧ mI38 x36 (x37 + 1) < mI38 x36 x37)) ∧ (¬ (if mki y.toNatClampNeg = 5 then mme (12 * y + x37 : Int32).toNatClampNeg else -1) < 0 → (vp_in (36 * x + 12 * (34 - 33) + x37) 864 ∧ ((∃ n0 m0 s0 v0 : Nat, mnv = nI n0 ∧ mns = nI m0 ∧ MSOK mki msz mle mel mme mic mio msa mlc mli mna mva n0 m0 ∧ okx (mna (36 * x + 12 * (34 - 33) + x37 : Int32).toNatClampNeg) m0 ∧ v0 < n0 ∧ y = nI v0) ∧ (∀ (x39 : Int32), ((∀ G : Sp, G = gM mki msz mle mel mme mal mic mil mio mab mae msa mlc mli mna mva mma mnv.toNatClampNeg → ∀ i, i < 32 → (bt x39 i = true ↔ ¬ (mna (36 * x + 12 * (34 - 33) + x37 : Int32).toNatClampNeg) < 0 ∧ gMk G (mna (36 * x + 12 * (34 - 33) + x37 : Int32).toNatClampNeg : Int32).toNatClampNeg y.toNatClampNeg i))) → (I38 (x36 ||| x39) (x37 + 1) ∧ mI38 (x36 ||| x39) (x37 + 1) < mI38 x36 x37)))))))))))) ∧ (¬ 32 ≤ x32 → (∃ (I44 : Int32 → Int32 → Prop) (mI44 : Int32 → Int32 → Nat), I44 x31 0 ∧ (∀ (x42 : Int32) (x43 : Int32), I44 x42 x43 → (vp_in (4 * x + x32 - 29) 96 ∧ (((mlc (4 * x + x32 - 29 : Int32).toNatClampNeg) ≤ x43 → (I33 x42 (x32 + 1) ∧ mI33 x42 (x32 + 1) < mI33 x31 x32)) ∧ (¬ (mlc (4 * x + x32 - 29 : Int32).toNatClampNeg) ≤ x43 → (vp_in (12 * x + 3 * (x32 - 29) + x43) 288 ∧ ((∃ n0 m0 s0 v0 : Nat, mnv = nI n0 ∧ mns = nI m0 ∧ MSOK mki msz mle mel mme mic mio msa mlc mli mna mva n0 m0 ∧ okx (mli (12 * x + 3 * (x32 - 29) + x43 : Int32).toNatClampNeg) m0 ∧ v0 < n0 ∧ y = nI v0) ∧ (∀ (x45 : Int32), ((∀ G : Sp, G = gM mki msz mle mel mme mal mic mil mio mab mae msa mlc mli mna mva mma mnv.toNatClampNeg → ∀ i, i < 32 → (bt x45 i = true ↔ ¬ (mli (12 * x + 3 * (x32 - 29) + x43 : Int32).toNatClampNeg) < 0 ∧ gMk G (mli (12 * x + 3 * (x32 - 29) + x43 : Int32).toNatClampNeg : Int32).toNatClampNeg y.toNatClampNeg i))) → (I44 (x42 ||| x45) (x43 + 1) ∧ mI44 (x42 ||| x45) (x43 + 1) < mI44 x42 x43)))))))))))))))))))))))))))))
set_option maxHeartbeats 4000000 in
set_option maxRecDepth 100000 in
theorem g_Mo_marksOf {p : Program} {l : Launch} {e : Env} {R : Room} {s : State} {m : MethodId} {args : Array Value} {below : List Frame} {meth : Method} {c : Code} {H : Heap} {locs : List Loc} {cells slots : Nat} {Q : State → Prop} {ls : Array Slot} {A : Nat → Prop} (S : CallFix p m c b_Mo_marksOf 7 s args W0 R_Mo) (hRf : 3 ≤ R.frames) (hRl : 69 ≤ R.locals) (hRc : cells ≤ R.cells ∧ slots ≤ R.slots) (D : va_G) (b : Nat → Nat) (cI cJ cZ : ClassId) (mki : Nat → Int32) (msz : Nat → Int64) (mle : Nat → Int32) (mel : Nat → Int32) (mme : Nat → Int32) (mal : Nat → Int32) (mic : Nat → Int32) (mil : Nat → Int32) (mio : Nat → Int32) (mab : Nat → Int32) (mae : Nat → Int32) (msa : Nat → Int32) (mlc : Nat → Int32) (mli : Nat → Int32) (mna : Nat → Int32) (mva : Nat → Int32) (mma : Nat → Int32) (mch : Nat → Int32) (mre : Nat → Int32) (mlv : Nat → Int32) (mwr : Nat → Int64) (msh : Nat → Int32) (mth : Int32) (mnv : Int32) (mns : Int32) (mfa : Int32) (mmo : Int32) (x : Int32) (y : Int32) (hK : va_K D vwCl (tyA cI cJ cZ) s) (hP : va_P D vwCl (wM b cI cJ cZ mki msz mle mel mme mal mic mil mio mab mae msa mlc mli mna mva mma mch mre mlv mwr msh mth mnv mns mfa mmo) H) (hD : va_D A (wM b cI cJ cZ mki msz mle mel mme mal mic mil mio mab mae msa mlc mli mna mva mma mch mre mlv mwr msh mth mnv mns mfa mmo)) (hA : ∀ q, s.heap.size ≤ q → A q) (hS : va_S A s.heap H locs) (hl : lv_has ls 7 [(0, .ref (b 0)), (1, .int x), (2, .int y)]) {post : Int32 → (Nat → Int32) → (Nat → Int64) → (Nat → Int32) → (Nat → Int32) → (Nat → Int32) → (Nat → Int32) → (Nat → Int32) → (Nat → Int32) → (Nat → Int32) → (Nat → Int32) → (Nat → Int32) → (Nat → Int32) → (Nat → Int32) → (Nat → Int32) → (Nat → Int32) → (Nat → Int32) → (Nat → Int32) → (Nat → Int32) → (Nat → Int32) → (Nat → Int32) → (Nat → Int64) → (Nat → Int32) → Int32 → Int32 → Int32 → Int32 → Int32 → Prop} (vc : V_Mo_marksOf mki msz mle mel mme mal mic mil mio mab mae msa mlc mli mna mva mma mch mre mlv mwr msh mth mnv mns mfa mmo x y post)
    (hret : ∀ (v : Int32) (mki : Nat → Int32) (msz : Nat → Int64) (mle : Nat → Int32) (mel : Nat → Int32) (mme : Nat → Int32) (mal : Nat → Int32) (mic : Nat → Int32) (mil : Nat → Int32) (mio : Nat → Int32) (mab : Nat → Int32) (mae : Nat → Int32) (msa : Nat → Int32) (mlc : Nat → Int32) (mli : Nat → Int32) (mna : Nat → Int32) (mva : Nat → Int32) (mma : Nat → Int32) (mch : Nat → Int32) (mre : Nat → Int32) (mlv : Nat → Int32) (mwr : Nat → Int64) (msh : Nat → Int32) (mth : Int32) (mnv : Int32) (mns : Int32) (mfa : Int32) (mmo : Int32) (ls : Array Slot) (pc : Nat) (H : Heap) (locs : List Loc), decode b_Mo_marksOf pc = .ok (.ireturn, 1) → post v mki msz mle mel mme mal mic mil mio mab mae msa mlc mli mna mva mma mch mre mlv mwr msh mth mnv mns mfa mmo → va_P D vwCl (wM b cI cJ cZ mki msz mle mel mme mal mic mil mio mab mae msa mlc mli mna mva mma mch mre mlv mwr msh mth mnv mns mfa mmo) H → va_D A (wM b cI cJ cZ mki msz mle mel mme mal mic mil mio mab mae msa mlc mli mna mva mma mch mre mlv mwr msh mth mnv mns mfa mmo) → va_S A s.heap H locs → W p l e R s m args below meth c H locs cells slots Q (F0 m pc ls [.int v])) : W p l e R s m args below meth c H locs cells slots Q (F0 m 0 ls []) := by
  have hx := S.1
  have hb := S.2.1
  have hown := S.2.2.2.1
  have hts := S.2.2.2.2
  unfold V_Mo_marksOf at vc
  refine lv_iconst (v := 0) hx hb d_Mo_marksOf_0 (by decide) ?_
  refine lv_istore_n hx hb d_Mo_marksOf_1 rfl hl (by decide) (lv' := [(3, .int 0), (0, .ref (b 0)), (1, .int x), (2, .int y)]) rfl (fun ls hl => ?_)
  refine lv_aload_n hx hb d_Mo_marksOf_2 rfl (lv_at hl 1 rfl) ?_
  refine va_get (D := D) (ci := 6) (v := .ref (b 1)) (C := R_Mo) (T := F_Mo) (N := 27) hx hb hts in_Mo hown hK hP 0 rfl rfl 2 (by decide) (hts _ fl_Mo_7) (fun _ h => h) rfl d_Mo_marksOf_3 ?_
  refine lv_iload_n hx hb d_Mo_marksOf_6 rfl (lv_at hl 3 rfl) ?_
  obtain ⟨vcb, vc⟩ := vc
  refine va_iald hx hb hK hP 1 0 rfl rfl vcb d_Mo_marksOf_7 ?_
  refine lv_iconst (v := 4) hx hb d_Mo_marksOf_8 (by decide) ?_
  obtain ⟨J1, vc, vc2⟩ := vc
  have jJ1 : ∀ (x3 : Int32) (ls : Array Slot) (H : Heap) (locs : List Loc), J1 x3 → lv_has ls 7 [(0, .ref (b 0)), (1, .int x), (2, .int y), (3, .int 0)] → va_P D vwCl (wM b cI cJ cZ mki msz mle mel mme mal mic mil mio mab mae msa mlc mli mna mva mma mch mre mlv mwr msh mth mnv mns mfa mmo) H → va_D A (wM b cI cJ cZ mki msz mle mel mme mal mic mil mio mab mae msa mlc mli mna mva mma mch mre mlv mwr msh mth mnv mns mfa mmo) → va_S A s.heap H locs → W p l e R s m args below meth c H locs cells slots Q (F0 m 30 ls [.int x3]) := by
    intro x3 ls H locs vc hl hP hD hS
    have vc := vc2 x3 vc
    refine lv_istore hx hb d_Mo_marksOf_30 hl (by decide) (lv' := [(4, .int x3), (0, .ref (b 0)), (1, .int x), (2, .int y), (3, .int 0)]) rfl (fun ls hl => ?_)
    refine lv_aload_n hx hb d_Mo_marksOf_32 rfl (lv_at hl 1 rfl) ?_
    refine va_get (D := D) (ci := 6) (v := .ref (b 1)) (C := R_Mo) (T := F_Mo) (N := 27) hx hb hts in_Mo hown hK hP 0 rfl rfl 2 (by decide) (hts _ fl_Mo_7) (fun _ h => h) rfl d_Mo_marksOf_33 ?_
    refine lv_iload_n hx hb d_Mo_marksOf_36 rfl (lv_at hl 3 rfl) ?_
    obtain ⟨vcb, vc⟩ := vc
    refine va_iald hx hb hK hP 1 0 rfl rfl vcb d_Mo_marksOf_37 ?_
    refine lv_iconst (v := 4) hx hb d_Mo_marksOf_38 (by decide) ?_
    obtain ⟨J4, vc, vc2⟩ := vc
    have jJ4 : ∀ (x14 : Int32) (ls : Array Slot) (H : Heap) (locs : List Loc), J4 x14 → lv_has ls 7 [(0, .ref (b 0)), (1, .int x), (2, .int y), (3, .int x14), (4, .int x3)] → va_P D vwCl (wM b cI cJ cZ mki msz mle mel mme mal mic mil mio mab mae msa mlc mli mna mva mma mch mre mlv mwr msh mth mnv mns mfa mmo) H → va_D A (wM b cI cJ cZ mki msz mle mel mme mal mic mil mio mab mae msa mlc mli mna mva mma mch mre mlv mwr msh mth mnv mns mfa mmo) → va_S A s.heap H locs → W p l e R s m args below meth c H locs cells slots Q (F0 m 139 ls []) := by
      intro x14 ls H locs vc hl hP hD hS
      have vc := vc2 x14 vc
      refine lv_iload_n hx hb d_Mo_marksOf_139 rfl (lv_at hl 3 rfl) ?_
      refine lv_aload_n hx hb d_Mo_marksOf_140 rfl (lv_at hl 0 rfl) ?_
      refine lv_aload_n hx hb d_Mo_marksOf_141 rfl (lv_at hl 0 rfl) ?_
      refine lv_iload_n hx hb d_Mo_marksOf_142 rfl (lv_at hl 1 rfl) ?_
      refine lv_bipush (v := 18) hx hb d_Mo_marksOf_143 (by decide) ?_
      obtain ⟨hpre, vc⟩ := vc
      refine pc_V (As := [.int x, .int 18]) (rest := [.ref (b 0), .int x14]) S (c_Mo_said l D b cI cJ cZ mki msz mle mel mme mal mic mil mio mab mae msa mlc mli mna mva mma mch mre mlv mwr msh mth mnv mns mfa mmo x 18 hpre) wB_blind k_Mo_said i_Mo_said e_Mo_said o_Mo ml_Mo_141 hd_Mo_said (Nat.le_trans (by decide) hRf) (Nat.le_trans (by decide) hRl) hRc (va_recv hK hP (q0 := 0) (ci := 6) rfl rfl) (wB_at hP hK) hl.1 rfl (Nat.le_of_ble_eq_true rfl) d_Mo_marksOf_145 ?_
      refine lv_iload_n hx hb d_Mo_marksOf_148 rfl (lv_at hl 2 rfl) ?_
      obtain ⟨hpre, vc⟩ := vc
      refine wc_V (As := [.int (msa (29 * x + 18 : Int32).toNatClampNeg), .int y]) (rest := [.int x14]) (wr := ([] : va_W)) S (c_Mo_marksBy l D b cI cJ cZ mki msz mle mel mme mal mic mil mio mab mae msa mlc mli mna mva mma mch mre mlv mwr msh mth mnv mns mfa mmo (msa (29 * x + 18 : Int32).toNatClampNeg) y hpre) k_Mo_marksBy i_Mo_marksBy e_Mo_marksBy o_Mo ml_Mo_202 hd_Mo_marksBy (Nat.le_trans (by decide) hRf) (Nat.le_trans (by decide) hRl) hRc (va_recv hK hP (q0 := 0) (ci := 6) rfl rfl) hK hP hD hS hA [0, 1, 2, 3, 4, 5, 6, 7, 8, 9, 10, 11, 12, 13, 14, 15, 16, 17, 18, 19, 20, 21, 22] [] rfl rfl rfl (by decide) (by decide) (by decide) hl.1 rfl (Nat.le_of_ble_eq_true rfl) d_Mo_marksOf_149 (fun x15 H locs hu hP hD hS => ?_)
      have vc := vc x15 hu
      clear hu
      have hP : va_P D vwCl (wM b cI cJ cZ mki msz mle mel mme mal mic mil mio mab mae msa mlc mli mna mva mma mch mre mlv mwr msh mth mnv mns mfa mmo) H := hP
      have hD : va_D A (wM b cI cJ cZ mki msz mle mel mme mal mic mil mio mab mae msa mlc mli mna mva mma mch mre mlv mwr msh mth mnv mns mfa mmo) := hD
      refine lv_ior hx hb d_Mo_marksOf_152 ?_
      refine lv_aload_n hx hb d_Mo_marksOf_153 rfl (lv_at hl 0 rfl) ?_
      refine lv_aload_n hx hb d_Mo_marksOf_154 rfl (lv_at hl 0 rfl) ?_
      refine lv_iload_n hx hb d_Mo_marksOf_155 rfl (lv_at hl 1 rfl) ?_
      refine lv_bipush (v := 21) hx hb d_Mo_marksOf_156 (by decide) ?_
      obtain ⟨hpre, vc⟩ := vc
      refine pc_V (As := [.int x, .int 21]) (rest := [.ref (b 0), .int (x14 ||| x15)]) S (c_Mo_said l D b cI cJ cZ mki msz mle mel mme mal mic mil mio mab mae msa mlc mli mna mva mma mch mre mlv mwr msh mth mnv mns mfa mmo x 21 hpre) wB_blind k_Mo_said i_Mo_said e_Mo_said o_Mo ml_Mo_141 hd_Mo_said (Nat.le_trans (by decide) hRf) (Nat.le_trans (by decide) hRl) hRc (va_recv hK hP (q0 := 0) (ci := 6) rfl rfl) (wB_at hP hK) hl.1 rfl (Nat.le_of_ble_eq_true rfl) d_Mo_marksOf_158 ?_
      refine lv_iload_n hx hb d_Mo_marksOf_161 rfl (lv_at hl 2 rfl) ?_
      obtain ⟨hpre, vc⟩ := vc
      refine wc_V (As := [.int (msa (29 * x + 21 : Int32).toNatClampNeg), .int y]) (rest := [.int (x14 ||| x15)]) (wr := ([] : va_W)) S (c_Mo_marksBy l D b cI cJ cZ mki msz mle mel mme mal mic mil mio mab mae msa mlc mli mna mva mma mch mre mlv mwr msh mth mnv mns mfa mmo (msa (29 * x + 21 : Int32).toNatClampNeg) y hpre) k_Mo_marksBy i_Mo_marksBy e_Mo_marksBy o_Mo ml_Mo_202 hd_Mo_marksBy (Nat.le_trans (by decide) hRf) (Nat.le_trans (by decide) hRl) hRc (va_recv hK hP (q0 := 0) (ci := 6) rfl rfl) hK hP hD hS hA [0, 1, 2, 3, 4, 5, 6, 7, 8, 9, 10, 11, 12, 13, 14, 15, 16, 17, 18, 19, 20, 21, 22] [] rfl rfl rfl (by decide) (by decide) (by decide) hl.1 rfl (Nat.le_of_ble_eq_true rfl) d_Mo_marksOf_162 (fun x16 H locs hu hP hD hS => ?_)
      have vc := vc x16 hu
      clear hu
      have hP : va_P D vwCl (wM b cI cJ cZ mki msz mle mel mme mal mic mil mio mab mae msa mlc mli mna mva mma mch mre mlv mwr msh mth mnv mns mfa mmo) H := hP
      have hD : va_D A (wM b cI cJ cZ mki msz mle mel mme mal mic mil mio mab mae msa mlc mli mna mva mma mch mre mlv mwr msh mth mnv mns mfa mmo) := hD
      refine lv_ior hx hb d_Mo_marksOf_165 ?_
      refine lv_istore_n hx hb d_Mo_marksOf_166 rfl hl (by decide) (lv' := [(3, .int ((x14 ||| x15) ||| x16)), (0, .ref (b 0)), (1, .int x), (2, .int y), (4, .int x3)]) rfl (fun ls hl => ?_)
      refine lv_aload_n hx hb d_Mo_marksOf_167 rfl (lv_at hl 1 rfl) ?_
      refine lv_iload_n hx hb d_Mo_marksOf_168 rfl (lv_at hl 2 rfl) ?_
      refine lv_iload_n hx hb d_Mo_marksOf_169 rfl (lv_at hl 3 rfl) ?_
      refine lv_bipush (v := 19) hx hb d_Mo_marksOf_170 (by decide) ?_
      obtain ⟨hpre, vc⟩ := vc
      refine wc_V (As := [.int x, .int y, .int 19]) (rest := []) (wr := ([] : va_W)) S (c_Mo_turns l D b cI cJ cZ mki msz mle mel mme mal mic mil mio mab mae msa mlc mli mna mva mma mch mre mlv mwr msh mth mnv mns mfa mmo x y 19 hpre) k_Mo_turns i_Mo_turns e_Mo_turns o_Mo ml_Mo_205 hd_Mo_turns (Nat.le_trans (by decide) hRf) (Nat.le_trans (by decide) hRl) hRc (va_recv hK hP (q0 := 0) (ci := 6) rfl rfl) hK hP hD hS hA [0, 1, 2, 3, 4, 5, 6, 7, 8, 9, 10, 11, 12, 13, 14, 15, 16, 17, 18, 19, 20, 21, 22] [] rfl rfl rfl (by decide) (by decide) (by decide) hl.1 rfl (Nat.le_of_ble_eq_true rfl) d_Mo_marksOf_172 (fun t17 H locs hu hP hD hS => ?_)
      have vc := vc t17 hu
      clear hu
      have hP : va_P D vwCl (wM b cI cJ cZ mki msz mle mel mme mal mic mil mio mab mae msa mlc mli mna mva mma mch mre mlv mwr msh mth mnv mns mfa mmo) H := hP
      have hD : va_D A (wM b cI cJ cZ mki msz mle mel mme mal mic mil mio mab mae msa mlc mli mna mva mma mch mre mlv mwr msh mth mnv mns mfa mmo) := hD
      obtain ⟨J18, vc, vc2⟩ := vc
      have jJ18 : ∀ (x23 : Int32) (ls : Array Slot) (H : Heap) (locs : List Loc), J18 x23 → lv_has ls 7 [(0, .ref (b 0)), (1, .int x), (2, .int y), (3, .int ((x14 ||| x15) ||| x16)), (4, .int x3)] → va_P D vwCl (wM b cI cJ cZ mki msz mle mel mme mal mic mil mio mab mae msa mlc mli mna mva mma mch mre mlv mwr msh mth mnv mns mfa mmo) H → va_D A (wM b cI cJ cZ mki msz mle mel mme mal mic mil mio mab mae msa mlc mli mna mva mma mch mre mlv mwr msh mth mnv mns mfa mmo) → va_S A s.heap H locs → W p l e R s m args below meth c H locs cells slots Q (F0 m 224 ls [.int x23]) := by
        intro x23 ls H locs vc hl hP hD hS
        have vc := vc2 x23 vc
        refine lv_istore_n hx hb d_Mo_marksOf_224 rfl hl (by decide) (lv' := [(3, .int x23), (0, .ref (b 0)), (1, .int x), (2, .int y), (4, .int x3)]) rfl (fun ls hl => ?_)
        refine lv_bipush (v := 29) hx hb d_Mo_marksOf_225 (by decide) ?_
        refine lv_istore hx hb d_Mo_marksOf_227 hl (by decide) (lv' := [(5, .int 29), (3, .int x23), (0, .ref (b 0)), (1, .int x), (2, .int y), (4, .int x3)]) rfl (fun ls hl => ?_)
        obtain ⟨I33, mI33, vc0, vcs⟩ := vc
        have lI33 : ∀ n : Nat, ∀ (x31 : Int32) (x32 : Int32) (ls : Array Slot) (H : Heap) (locs : List Loc), I33 x31 x32 → mI33 x31 x32 < n → lv_has ls 7 [(0, .ref (b 0)), (1, .int x), (2, .int y), (3, .int x31), (4, .int x3), (5, .int x32)] → va_P D vwCl (wM b cI cJ cZ mki msz mle mel mme mal mic mil mio mab mae msa mlc mli mna mva mma mch mre mlv mwr msh mth mnv mns mfa mmo) H → va_D A (wM b cI cJ cZ mki msz mle mel mme mal mic mil mio mab mae msa mlc mli mna mva mma mch mre mlv mwr msh mth mnv mns mfa mmo) → va_S A s.heap H locs → W p l e R s m args below meth c H locs cells slots Q (F0 m 229 ls []) := by
          intro n
          induction n with
          | zero => intro x31 x32 ls H locs _ h; exact absurd h (Nat.not_lt_zero _)
          | succ n ihI33 =>
            intro x31 x32 ls H locs vc hmI33 hl hP hD hS
            have vc := vcs x31 x32 vc
            refine lv_iload hx hb d_Mo_marksOf_229 (lv_at hl 5 rfl) ?_
            refine lv_bipush (v := 32) hx hb d_Mo_marksOf_231 (by decide) ?_
            refine lv_icmp_ge (tgt := 280) hx hb d_Mo_marksOf_233 (by decide) (fun h => ?_) (fun h => ?_)
            · have vc := vc.1 h
              refine lv_iconst (v := 0) hx hb d_Mo_marksOf_280 (by decide) ?_
              refine lv_istore hx hb d_Mo_marksOf_281 hl (by decide) (lv' := [(5, .int 0), (0, .ref (b 0)), (1, .int x), (2, .int y), (3, .int x31), (4, .int x3)]) rfl (fun ls hl => ?_)
              obtain ⟨I38, mI38, vc0, vcs⟩ := vc
              have lI38 : ∀ n : Nat, ∀ (x36 : Int32) (x37 : Int32) (ls : Array Slot) (H : Heap) (locs : List Loc), I38 x36 x37 → mI38 x36 x37 < n → lv_has ls 7 [(0, .ref (b 0)), (1, .int x), (2, .int y), (3, .int x36), (4, .int x3), (5, .int x37)] → va_P D vwCl (wM b cI cJ cZ mki msz mle mel mme mal mic mil mio mab mae msa mlc mli mna mva mma mch mre mlv mwr msh mth mnv mns mfa mmo) H → va_D A (wM b cI cJ cZ mki msz mle mel mme mal mic mil mio mab mae msa mlc mli mna mva mma mch mre mlv mwr msh mth mnv mns mfa mmo) → va_S A s.heap H locs → W p l e R s m args below meth c H locs cells slots Q (F0 m 283 ls []) := by
                intro n
                induction n with
                | zero => intro x36 x37 ls H locs _ h; exact absurd h (Nat.not_lt_zero _)
                | succ n ihI38 =>
                  intro x36 x37 ls H locs vc hmI38 hl hP hD hS
                  have vc := vcs x36 x37 vc
                  refine lv_iload hx hb d_Mo_marksOf_283 (lv_at hl 5 rfl) ?_
                  refine lv_bipush (v := 12) hx hb d_Mo_marksOf_285 (by decide) ?_
                  refine lv_icmp_ge (tgt := 327) hx hb d_Mo_marksOf_287 (by decide) (fun h => ?_) (fun h => ?_)
                  · have vc := vc.1 h
                    refine lv_iload_n hx hb d_Mo_marksOf_327 rfl (lv_at hl 3 rfl) ?_
                    exact hret _ _ _ _ _ _ _ _ _ _ _ _ _ _ _ _ _ _ _ _ _ _ _ _ _ _ _ _ ls _ H locs d_Mo_marksOf_328 vc hP hD hS
                  · have vc := vc.2 h
                    refine lv_aload_n hx hb d_Mo_marksOf_290 rfl (lv_at hl 0 rfl) ?_
                    refine lv_iload_n hx hb d_Mo_marksOf_291 rfl (lv_at hl 2 rfl) ?_
                    refine lv_iload hx hb d_Mo_marksOf_292 (lv_at hl 5 rfl) ?_
                    obtain ⟨hpre, vc⟩ := vc
                    refine pc_V (As := [.int y, .int x37]) (rest := []) S (c_Mo_memberOf l D b cI cJ cZ mki msz mle mel mme mal mic mil mio mab mae msa mlc mli mna mva mma mch mre mlv mwr msh mth mnv mns mfa mmo y x37 hpre) wB_blind k_Mo_memberOf i_Mo_memberOf e_Mo_memberOf o_Mo ml_Mo_167 hd_Mo_memberOf (Nat.le_trans (by decide) hRf) (Nat.le_trans (by decide) hRl) hRc (va_recv hK hP (q0 := 0) (ci := 6) rfl rfl) (wB_at hP hK) hl.1 rfl (Nat.le_of_ble_eq_true rfl) d_Mo_marksOf_294 ?_
                    refine lv_if_lt (tgt := 319) hx hb d_Mo_marksOf_297 (by decide) (fun h => ?_) (fun h => ?_)
                    · have vc := vc.1 h
                      refine lv_iload_n hx hb d_Mo_marksOf_319 rfl (lv_at hl 3 rfl) ?_
                      refine lv_istore_n hx hb d_Mo_marksOf_320 rfl hl (by decide) (lv' := [(3, .int x36), (0, .ref (b 0)), (1, .int x), (2, .int y), (4, .int x3), (5, .int x37)]) rfl (fun ls hl => ?_)
                      refine lv_iinc (k := 5) (v := x37 + 1) hx hb d_Mo_marksOf_321 hl rfl rfl (by decide) (lv' := [(5, .int (x37 + 1)), (3, .int x36), (0, .ref (b 0)), (1, .int x), (2, .int y), (4, .int x3)]) rfl (fun ls hl => ?_)
                      refine lv_goto (tgt := 283) hx hb d_Mo_marksOf_324 (by decide) ?_
                      exact ihI38 x36 (x37 + 1) ls H locs vc.1 (Nat.lt_of_lt_of_le vc.2 (Nat.le_of_lt_succ hmI38)) (lv_sub hl [2, 3, 4, 1, 5, 0] rfl) hP hD hS
                    · have vc := vc.2 h
                      refine lv_iload_n hx hb d_Mo_marksOf_300 rfl (lv_at hl 3 rfl) ?_
                      refine lv_aload_n hx hb d_Mo_marksOf_301 rfl (lv_at hl 0 rfl) ?_
                      refine lv_aload_n hx hb d_Mo_marksOf_302 rfl (lv_at hl 0 rfl) ?_
                      refine lv_iload_n hx hb d_Mo_marksOf_303 rfl (lv_at hl 1 rfl) ?_
                      refine lv_bipush (v := 34) hx hb d_Mo_marksOf_304 (by decide) ?_
                      refine lv_iload hx hb d_Mo_marksOf_306 (lv_at hl 5 rfl) ?_
                      obtain ⟨hpre, vc⟩ := vc
                      refine pc_V (As := [.int x, .int 34, .int x37]) (rest := [.ref (b 0), .int x36]) S (c_Mo_byName l D b cI cJ cZ mki msz mle mel mme mal mic mil mio mab mae msa mlc mli mna mva mma mch mre mlv mwr msh mth mnv mns mfa mmo x 34 x37 hpre) wB_blind k_Mo_byName i_Mo_byName e_Mo_byName o_Mo ml_Mo_154 hd_Mo_byName (Nat.le_trans (by decide) hRf) (Nat.le_trans (by decide) hRl) hRc (va_recv hK hP (q0 := 0) (ci := 6) rfl rfl) (wB_at hP hK) hl.1 rfl (Nat.le_of_ble_eq_true rfl) d_Mo_marksOf_308 ?_
                      refine lv_iload_n hx hb d_Mo_marksOf_311 rfl (lv_at hl 2 rfl) ?_
                      obtain ⟨hpre, vc⟩ := vc
                      refine wc_V (As := [.int (mna (36 * x + 12 * (34 - 33) + x37 : Int32).toNatClampNeg), .int y]) (rest := [.int x36]) (wr := ([] : va_W)) S (c_Mo_marksBy l D b cI cJ cZ mki msz mle mel mme mal mic mil mio mab mae msa mlc mli mna mva mma mch mre mlv mwr msh mth mnv mns mfa mmo (mna (36 * x + 12 * (34 - 33) + x37 : Int32).toNatClampNeg) y hpre) k_Mo_marksBy i_Mo_marksBy e_Mo_marksBy o_Mo ml_Mo_202 hd_Mo_marksBy (Nat.le_trans (by decide) hRf) (Nat.le_trans (by decide) hRl) hRc (va_recv hK hP (q0 := 0) (ci := 6) rfl rfl) hK hP hD hS hA [0, 1, 2, 3, 4, 5, 6, 7, 8, 9, 10, 11, 12, 13, 14, 15, 16, 17, 18, 19, 20, 21, 22] [] rfl rfl rfl (by decide) (by decide) (by decide) hl.1 rfl (Nat.le_of_ble_eq_true rfl) d_Mo_marksOf_312 (fun x39 H locs hu hP hD hS => ?_)
                      have vc := vc x39 hu
                      clear hu
                      have hP : va_P D vwCl (wM b cI cJ cZ mki msz mle mel mme mal mic mil mio mab mae msa mlc mli mna mva mma mch mre mlv mwr msh mth mnv mns mfa mmo) H := hP
                      have hD : va_D A (wM b cI cJ cZ mki msz mle mel mme mal mic mil mio mab mae msa mlc mli mna mva mma mch mre mlv mwr msh mth mnv mns mfa mmo) := hD
                      refine lv_ior hx hb d_Mo_marksOf_315 ?_
                      refine lv_goto (tgt := 320) hx hb d_Mo_marksOf_316 (by decide) ?_
                      refine lv_istore_n hx hb d_Mo_marksOf_320 rfl hl (by decide) (lv' := [(3, .int (x36 ||| x39)), (0, .ref (b 0)), (1, .int x), (2, .int y), (4, .int x3), (5, .int x37)]) rfl (fun ls hl => ?_)
                      refine lv_iinc (k := 5) (v := x37 + 1) hx hb d_Mo_marksOf_321 hl rfl rfl (by decide) (lv' := [(5, .int (x37 + 1)), (3, .int (x36 ||| x39)), (0, .ref (b 0)), (1, .int x), (2, .int y), (4, .int x3)]) rfl (fun ls hl => ?_)
                      refine lv_goto (tgt := 283) hx hb d_Mo_marksOf_324 (by decide) ?_
                      exact ihI38 (x36 ||| x39) (x37 + 1) ls H locs vc.1 (Nat.lt_of_lt_of_le vc.2 (Nat.le_of_lt_succ hmI38)) (lv_sub hl [2, 3, 4, 1, 5, 0] rfl) hP hD hS
              exact lI38 _ x31 0 ls H locs vc0 (Nat.lt_succ_self _) (lv_sub hl [1, 2, 3, 4, 5, 0] rfl) hP hD hS
            · have vc := vc.2 h
              refine lv_iconst (v := 0) hx hb d_Mo_marksOf_236 (by decide) ?_
              refine lv_istore hx hb d_Mo_marksOf_237 hl (by decide) (lv' := [(6, .int 0), (0, .ref (b 0)), (1, .int x), (2, .int y), (3, .int x31), (4, .int x3), (5, .int x32)]) rfl (fun ls hl => ?_)
              obtain ⟨I44, mI44, vc0, vcs⟩ := vc
              have lI44 : ∀ n : Nat, ∀ (x42 : Int32) (x43 : Int32) (ls : Array Slot) (H : Heap) (locs : List Loc), I44 x42 x43 → mI44 x42 x43 < n → lv_has ls 7 [(0, .ref (b 0)), (1, .int x), (2, .int y), (3, .int x42), (4, .int x3), (5, .int x32), (6, .int x43)] → va_P D vwCl (wM b cI cJ cZ mki msz mle mel mme mal mic mil mio mab mae msa mlc mli mna mva mma mch mre mlv mwr msh mth mnv mns mfa mmo) H → va_D A (wM b cI cJ cZ mki msz mle mel mme mal mic mil mio mab mae msa mlc mli mna mva mma mch mre mlv mwr msh mth mnv mns mfa mmo) → va_S A s.heap H locs → W p l e R s m args below meth c H locs cells slots Q (F0 m 239 ls []) := by
                intro n
                induction n with
                | zero => intro x42 x43 ls H locs _ h; exact absurd h (Nat.not_lt_zero _)
                | succ n ihI44 =>
                  intro x42 x43 ls H locs vc hmI44 hl hP hD hS
                  have vc := vcs x42 x43 vc
                  refine lv_iload hx hb d_Mo_marksOf_239 (lv_at hl 6 rfl) ?_
                  refine lv_aload_n hx hb d_Mo_marksOf_241 rfl (lv_at hl 0 rfl) ?_
                  refine lv_iload_n hx hb d_Mo_marksOf_242 rfl (lv_at hl 1 rfl) ?_
                  refine lv_iload hx hb d_Mo_marksOf_243 (lv_at hl 5 rfl) ?_
                  obtain ⟨hpre, vc⟩ := vc
                  refine pc_V (As := [.int x, .int x32]) (rest := [.int x43]) S (c_Mo_many l D b cI cJ cZ mki msz mle mel mme mal mic mil mio mab mae msa mlc mli mna mva mma mch mre mlv mwr msh mth mnv mns mfa mmo x x32 hpre) wB_blind k_Mo_many i_Mo_many e_Mo_many o_Mo ml_Mo_148 hd_Mo_many (Nat.le_trans (by decide) hRf) (Nat.le_trans (by decide) hRl) hRc (va_recv hK hP (q0 := 0) (ci := 6) rfl rfl) (wB_at hP hK) hl.1 rfl (Nat.le_of_ble_eq_true rfl) d_Mo_marksOf_245 ?_
                  refine lv_icmp_ge (tgt := 274) hx hb d_Mo_marksOf_248 (by decide) (fun h => ?_) (fun h => ?_)
                  · have vc := vc.1 h
                    refine lv_iinc (k := 5) (v := x32 + 1) hx hb d_Mo_marksOf_274 hl rfl rfl (by decide) (lv' := [(5, .int (x32 + 1)), (0, .ref (b 0)), (1, .int x), (2, .int y), (3, .int x42), (4, .int x3), (6, .int x43)]) rfl (fun ls hl => ?_)
                    refine lv_goto (tgt := 229) hx hb d_Mo_marksOf_277 (by decide) ?_
                    exact ihI33 x42 (x32 + 1) ls H locs vc.1 (Nat.lt_of_lt_of_le vc.2 (Nat.le_of_lt_succ hmI33)) (lv_sub hl [1, 2, 3, 4, 5, 0] rfl) hP hD hS
                  · have vc := vc.2 h
                    refine lv_iload_n hx hb d_Mo_marksOf_251 rfl (lv_at hl 3 rfl) ?_
                    refine lv_aload_n hx hb d_Mo_marksOf_252 rfl (lv_at hl 0 rfl) ?_
                    refine lv_aload_n hx hb d_Mo_marksOf_253 rfl (lv_at hl 0 rfl) ?_
                    refine lv_iload_n hx hb d_Mo_marksOf_254 rfl (lv_at hl 1 rfl) ?_
                    refine lv_iload hx hb d_Mo_marksOf_255 (lv_at hl 5 rfl) ?_
                    refine lv_iload hx hb d_Mo_marksOf_257 (lv_at hl 6 rfl) ?_
                    obtain ⟨hpre, vc⟩ := vc
                    refine pc_V (As := [.int x, .int x32, .int x43]) (rest := [.ref (b 0), .int x42]) S (c_Mo_listed l D b cI cJ cZ mki msz mle mel mme mal mic mil mio mab mae msa mlc mli mna mva mma mch mre mlv mwr msh mth mnv mns mfa mmo x x32 x43 hpre) wB_blind k_Mo_listed i_Mo_listed e_Mo_listed o_Mo ml_Mo_151 hd_Mo_listed (Nat.le_trans (by decide) hRf) (Nat.le_trans (by decide) hRl) hRc (va_recv hK hP (q0 := 0) (ci := 6) rfl rfl) (wB_at hP hK) hl.1 rfl (Nat.le_of_ble_eq_true rfl) d_Mo_marksOf_259 ?_
                    refine lv_iload_n hx hb d_Mo_marksOf_262 rfl (lv_at hl 2 rfl) ?_
                    obtain ⟨hpre, vc⟩ := vc
                    refine wc_V (As := [.int (mli (12 * x + 3 * (x32 - 29) + x43 : Int32).toNatClampNeg), .int y]) (rest := [.int x42]) (wr := ([] : va_W)) S (c_Mo_marksBy l D b cI cJ cZ mki msz mle mel mme mal mic mil mio mab mae msa mlc mli mna mva mma mch mre mlv mwr msh mth mnv mns mfa mmo (mli (12 * x + 3 * (x32 - 29) + x43 : Int32).toNatClampNeg) y hpre) k_Mo_marksBy i_Mo_marksBy e_Mo_marksBy o_Mo ml_Mo_202 hd_Mo_marksBy (Nat.le_trans (by decide) hRf) (Nat.le_trans (by decide) hRl) hRc (va_recv hK hP (q0 := 0) (ci := 6) rfl rfl) hK hP hD hS hA [0, 1, 2, 3, 4, 5, 6, 7, 8, 9, 10, 11, 12, 13, 14, 15, 16, 17, 18, 19, 20, 21, 22] [] rfl rfl rfl (by decide) (by decide) (by decide) hl.1 rfl (Nat.le_of_ble_eq_true rfl) d_Mo_marksOf_263 (fun x45 H locs hu hP hD hS => ?_)
                    have vc := vc x45 hu
                    clear hu
                    have hP : va_P D vwCl (wM b cI cJ cZ mki msz mle mel mme mal mic mil mio mab mae msa mlc mli mna mva mma mch mre mlv mwr msh mth mnv mns mfa mmo) H := hP
                    have hD : va_D A (wM b cI cJ cZ mki msz mle mel mme mal mic mil mio mab mae msa mlc mli mna mva mma mch mre mlv mwr msh mth mnv mns mfa mmo) := hD
                    refine lv_ior hx hb d_Mo_marksOf_266 ?_
                    refine lv_istore_n hx hb d_Mo_marksOf_267 rfl hl (by decide) (lv' := [(3, .int (x42 ||| x45)), (0, .ref (b 0)), (1, .int x), (2, .int y), (4, .int x3), (5, .int x32), (6, .int x43)]) rfl (fun ls hl => ?_)
                    refine lv_iinc (k := 6) (v := x43 + 1) hx hb d_Mo_marksOf_268 hl rfl rfl (by decide) (lv' := [(6, .int (x43 + 1)), (3, .int (x42 ||| x45)), (0, .ref (b 0)), (1, .int x), (2, .int y), (4, .int x3), (5, .int x32)]) rfl (fun ls hl => ?_)
                    refine lv_goto (tgt := 239) hx hb d_Mo_marksOf_271 (by decide) ?_
                    exact ihI44 (x42 ||| x45) (x43 + 1) ls H locs vc.1 (Nat.lt_of_lt_of_le vc.2 (Nat.le_of_lt_succ hmI44)) (lv_sub hl [2, 3, 4, 1, 5, 6, 0] rfl) hP hD hS
              exact lI44 _ x31 0 ls H locs vc0 (Nat.lt_succ_self _) (lv_sub hl [1, 2, 3, 4, 5, 6, 0] rfl) hP hD hS
        exact lI33 _ x23 29 ls H locs vc0 (Nat.lt_succ_self _) (lv_sub hl [2, 3, 4, 1, 5, 0] rfl) hP hD hS
      clear vc2
      refine lv_if_eq (tgt := 195) hx hb d_Mo_marksOf_175 (by decide) (fun h => ?_) (fun h => ?_)
      · have vc := vc.1 h
        refine lv_aload_n hx hb d_Mo_marksOf_195 rfl (lv_at hl 1 rfl) ?_
        refine lv_iload_n hx hb d_Mo_marksOf_196 rfl (lv_at hl 2 rfl) ?_
        refine lv_iload_n hx hb d_Mo_marksOf_197 rfl (lv_at hl 3 rfl) ?_
        refine lv_bipush (v := 20) hx hb d_Mo_marksOf_198 (by decide) ?_
        obtain ⟨hpre, vc⟩ := vc
        refine wc_V (As := [.int x, .int y, .int 20]) (rest := []) (wr := ([] : va_W)) S (c_Mo_turns l D b cI cJ cZ mki msz mle mel mme mal mic mil mio mab mae msa mlc mli mna mva mma mch mre mlv mwr msh mth mnv mns mfa mmo x y 20 hpre) k_Mo_turns i_Mo_turns e_Mo_turns o_Mo ml_Mo_205 hd_Mo_turns (Nat.le_trans (by decide) hRf) (Nat.le_trans (by decide) hRl) hRc (va_recv hK hP (q0 := 0) (ci := 6) rfl rfl) hK hP hD hS hA [0, 1, 2, 3, 4, 5, 6, 7, 8, 9, 10, 11, 12, 13, 14, 15, 16, 17, 18, 19, 20, 21, 22] [] rfl rfl rfl (by decide) (by decide) (by decide) hl.1 rfl (Nat.le_of_ble_eq_true rfl) d_Mo_marksOf_200 (fun t19 H locs hu hP hD hS => ?_)
        have vc := vc t19 hu
        clear hu
        have hP : va_P D vwCl (wM b cI cJ cZ mki msz mle mel mme mal mic mil mio mab mae msa mlc mli mna mva mma mch mre mlv mwr msh mth mnv mns mfa mmo) H := hP
        have hD : va_D A (wM b cI cJ cZ mki msz mle mel mme mal mic mil mio mab mae msa mlc mli mna mva mma mch mre mlv mwr msh mth mnv mns mfa mmo) := hD
        refine lv_if_eq (tgt := 223) hx hb d_Mo_marksOf_203 (by decide) (fun h => ?_) (fun h => ?_)
        · have vc := vc.1 h
          refine lv_iload_n hx hb d_Mo_marksOf_223 rfl (lv_at hl 0 rfl) ?_
          exact jJ18 ((x14 ||| x15) ||| x16) ls H locs vc (lv_sub hl [1, 2, 3, 0, 4] rfl) hP hD hS
        · have vc := vc.2 h
          refine lv_iload_n hx hb d_Mo_marksOf_206 rfl (lv_at hl 0 rfl) ?_
          refine lv_aload_n hx hb d_Mo_marksOf_207 rfl (lv_at hl 1 rfl) ?_
          refine lv_aload_n hx hb d_Mo_marksOf_208 rfl (lv_at hl 1 rfl) ?_
          refine lv_iload_n hx hb d_Mo_marksOf_209 rfl (lv_at hl 2 rfl) ?_
          refine lv_bipush (v := 20) hx hb d_Mo_marksOf_210 (by decide) ?_
          obtain ⟨hpre, vc⟩ := vc
          refine pc_V (As := [.int x, .int 20]) (rest := [.ref (b 0), .int ((x14 ||| x15) ||| x16)]) S (c_Mo_said l D b cI cJ cZ mki msz mle mel mme mal mic mil mio mab mae msa mlc mli mna mva mma mch mre mlv mwr msh mth mnv mns mfa mmo x 20 hpre) wB_blind k_Mo_said i_Mo_said e_Mo_said o_Mo ml_Mo_141 hd_Mo_said (Nat.le_trans (by decide) hRf) (Nat.le_trans (by decide) hRl) hRc (va_recv hK hP (q0 := 0) (ci := 6) rfl rfl) (wB_at hP hK) hl.1 rfl (Nat.le_of_ble_eq_true rfl) d_Mo_marksOf_212 ?_
          refine lv_iload_n hx hb d_Mo_marksOf_215 rfl (lv_at hl 3 rfl) ?_
          obtain ⟨hpre, vc⟩ := vc
          refine wc_V (As := [.int (msa (29 * x + 20 : Int32).toNatClampNeg), .int y]) (rest := [.int ((x14 ||| x15) ||| x16)]) (wr := ([] : va_W)) S (c_Mo_marksBy l D b cI cJ cZ mki msz mle mel mme mal mic mil mio mab mae msa mlc mli mna mva mma mch mre mlv mwr msh mth mnv mns mfa mmo (msa (29 * x + 20 : Int32).toNatClampNeg) y hpre) k_Mo_marksBy i_Mo_marksBy e_Mo_marksBy o_Mo ml_Mo_202 hd_Mo_marksBy (Nat.le_trans (by decide) hRf) (Nat.le_trans (by decide) hRl) hRc (va_recv hK hP (q0 := 0) (ci := 6) rfl rfl) hK hP hD hS hA [0, 1, 2, 3, 4, 5, 6, 7, 8, 9, 10, 11, 12, 13, 14, 15, 16, 17, 18, 19, 20, 21, 22] [] rfl rfl rfl (by decide) (by decide) (by decide) hl.1 rfl (Nat.le_of_ble_eq_true rfl) d_Mo_marksOf_216 (fun x21 H locs hu hP hD hS => ?_)
          have vc := vc x21 hu
          clear hu
          have hP : va_P D vwCl (wM b cI cJ cZ mki msz mle mel mme mal mic mil mio mab mae msa mlc mli mna mva mma mch mre mlv mwr msh mth mnv mns mfa mmo) H := hP
          have hD : va_D A (wM b cI cJ cZ mki msz mle mel mme mal mic mil mio mab mae msa mlc mli mna mva mma mch mre mlv mwr msh mth mnv mns mfa mmo) := hD
          refine lv_ior hx hb d_Mo_marksOf_219 ?_
          refine lv_goto (tgt := 224) hx hb d_Mo_marksOf_220 (by decide) ?_
          exact jJ18 (((x14 ||| x15) ||| x16) ||| x21) ls H locs vc (lv_sub hl [1, 2, 3, 0, 4] rfl) hP hD hS
      · have vc := vc.2 h
        refine lv_iload_n hx hb d_Mo_marksOf_178 rfl (lv_at hl 0 rfl) ?_
        refine lv_aload_n hx hb d_Mo_marksOf_179 rfl (lv_at hl 1 rfl) ?_
        refine lv_aload_n hx hb d_Mo_marksOf_180 rfl (lv_at hl 1 rfl) ?_
        refine lv_iload_n hx hb d_Mo_marksOf_181 rfl (lv_at hl 2 rfl) ?_
        refine lv_bipush (v := 19) hx hb d_Mo_marksOf_182 (by decide) ?_
        obtain ⟨hpre, vc⟩ := vc
        refine pc_V (As := [.int x, .int 19]) (rest := [.ref (b 0), .int ((x14 ||| x15) ||| x16)]) S (c_Mo_said l D b cI cJ cZ mki msz mle mel mme mal mic mil mio mab mae msa mlc mli mna mva mma mch mre mlv mwr msh mth mnv mns mfa mmo x 19 hpre) wB_blind k_Mo_said i_Mo_said e_Mo_said o_Mo ml_Mo_141 hd_Mo_said (Nat.le_trans (by decide) hRf) (Nat.le_trans (by decide) hRl) hRc (va_recv hK hP (q0 := 0) (ci := 6) rfl rfl) (wB_at hP hK) hl.1 rfl (Nat.le_of_ble_eq_true rfl) d_Mo_marksOf_184 ?_
        refine lv_iload_n hx hb d_Mo_marksOf_187 rfl (lv_at hl 3 rfl) ?_
        obtain ⟨hpre, vc⟩ := vc
        refine wc_V (As := [.int (msa (29 * x + 19 : Int32).toNatClampNeg), .int y]) (rest := [.int ((x14 ||| x15) ||| x16)]) (wr := ([] : va_W)) S (c_Mo_marksBy l D b cI cJ cZ mki msz mle mel mme mal mic mil mio mab mae msa mlc mli mna mva mma mch mre mlv mwr msh mth mnv mns mfa mmo (msa (29 * x + 19 : Int32).toNatClampNeg) y hpre) k_Mo_marksBy i_Mo_marksBy e_Mo_marksBy o_Mo ml_Mo_202 hd_Mo_marksBy (Nat.le_trans (by decide) hRf) (Nat.le_trans (by decide) hRl) hRc (va_recv hK hP (q0 := 0) (ci := 6) rfl rfl) hK hP hD hS hA [0, 1, 2, 3, 4, 5, 6, 7, 8, 9, 10, 11, 12, 13, 14, 15, 16, 17, 18, 19, 20, 21, 22] [] rfl rfl rfl (by decide) (by decide) (by decide) hl.1 rfl (Nat.le_of_ble_eq_true rfl) d_Mo_marksOf_188 (fun x22 H locs hu hP hD hS => ?_)
        have vc := vc x22 hu
        clear hu
        have hP : va_P D vwCl (wM b cI cJ cZ mki msz mle mel mme mal mic mil mio mab mae msa mlc mli mna mva mma mch mre mlv mwr msh mth mnv mns mfa mmo) H := hP
        have hD : va_D A (wM b cI cJ cZ mki msz mle mel mme mal mic mil mio mab mae msa mlc mli mna mva mma mch mre mlv mwr msh mth mnv mns mfa mmo) := hD
        refine lv_ior hx hb d_Mo_marksOf_191 ?_
        refine lv_goto (tgt := 224) hx hb d_Mo_marksOf_192 (by decide) ?_
        exact jJ18 (((x14 ||| x15) ||| x16) ||| x22) ls H locs vc (lv_sub hl [1, 2, 3, 0, 4] rfl) hP hD hS
    clear vc2
    refine lv_icmp_ne (tgt := 102) hx hb d_Mo_marksOf_39 (by decide) (fun h => ?_) (fun h => ?_)
    · have vc := vc.1 h
      refine lv_aload_n hx hb d_Mo_marksOf_102 rfl (lv_at hl 1 rfl) ?_
      refine va_get (D := D) (ci := 6) (v := .ref (b 1)) (C := R_Mo) (T := F_Mo) (N := 27) hx hb hts in_Mo hown hK hP 0 rfl rfl 2 (by decide) (hts _ fl_Mo_7) (fun _ h => h) rfl d_Mo_marksOf_103 ?_
      refine lv_iload_n hx hb d_Mo_marksOf_106 rfl (lv_at hl 3 rfl) ?_
      obtain ⟨vcb, vc⟩ := vc
      refine va_iald hx hb hK hP 1 0 rfl rfl vcb d_Mo_marksOf_107 ?_
      refine lv_iconst (v := 5) hx hb d_Mo_marksOf_108 (by decide) ?_
      refine lv_icmp_ne (tgt := 139) hx hb d_Mo_marksOf_109 (by decide) (fun h => ?_) (fun h => ?_)
      · have vc := vc.1 h
        exact jJ4 0 ls H locs vc (lv_sub hl [1, 2, 3, 4, 0] rfl) hP hD hS
      · have vc := vc.2 h
        refine lv_aload_n hx hb d_Mo_marksOf_112 rfl (lv_at hl 1 rfl) ?_
        refine lv_iload_n hx hb d_Mo_marksOf_113 rfl (lv_at hl 2 rfl) ?_
        refine lv_bipush (v := 26) hx hb d_Mo_marksOf_114 (by decide) ?_
        obtain ⟨hpre, vc⟩ := vc
        refine pc_V (As := [.int x, .int 26]) (rest := []) S (c_Mo_said l D b cI cJ cZ mki msz mle mel mme mal mic mil mio mab mae msa mlc mli mna mva mma mch mre mlv mwr msh mth mnv mns mfa mmo x 26 hpre) wB_blind k_Mo_said i_Mo_said e_Mo_said o_Mo ml_Mo_141 hd_Mo_said (Nat.le_trans (by decide) hRf) (Nat.le_trans (by decide) hRl) hRc (va_recv hK hP (q0 := 0) (ci := 6) rfl rfl) (wB_at hP hK) hl.1 rfl (Nat.le_of_ble_eq_true rfl) d_Mo_marksOf_116 ?_
        obtain ⟨J6, vc, vc2⟩ := vc
        have jJ6 : ∀ (x8 : Int32) (ls : Array Slot) (H : Heap) (locs : List Loc), J6 x8 → lv_has ls 7 [(0, .ref (b 0)), (1, .int x), (2, .int y), (3, .int 0), (4, .int x3)] → va_P D vwCl (wM b cI cJ cZ mki msz mle mel mme mal mic mil mio mab mae msa mlc mli mna mva mma mch mre mlv mwr msh mth mnv mns mfa mmo) H → va_D A (wM b cI cJ cZ mki msz mle mel mme mal mic mil mio mab mae msa mlc mli mna mva mma mch mre mlv mwr msh mth mnv mns mfa mmo) → va_S A s.heap H locs → W p l e R s m args below meth c H locs cells slots Q (F0 m 138 ls [.int x8]) := by
          intro x8 ls H locs vc hl hP hD hS
          have vc := vc2 x8 vc
          refine lv_istore_n hx hb d_Mo_marksOf_138 rfl hl (by decide) (lv' := [(3, .int x8), (0, .ref (b 0)), (1, .int x), (2, .int y), (4, .int x3)]) rfl (fun ls hl => ?_)
          exact jJ4 x8 ls H locs vc (lv_sub hl [1, 2, 3, 0, 4] rfl) hP hD hS
        clear vc2
        refine lv_if_lt (tgt := 127) hx hb d_Mo_marksOf_119 (by decide) (fun h => ?_) (fun h => ?_)
        · have vc := vc.1 h
          refine lv_iload hx hb d_Mo_marksOf_127 (lv_at hl 0 rfl) ?_
          refine lv_aload_n hx hb d_Mo_marksOf_129 rfl (lv_at hl 1 rfl) ?_
          refine lv_iload_n hx hb d_Mo_marksOf_130 rfl (lv_at hl 2 rfl) ?_
          refine lv_iload_n hx hb d_Mo_marksOf_131 rfl (lv_at hl 3 rfl) ?_
          obtain ⟨hpre, vc⟩ := vc
          refine wc_V (As := [.int x, .int y]) (rest := [.int x3]) (wr := ([] : va_W)) S (c_Mo_additional l D b cI cJ cZ mki msz mle mel mme mal mic mil mio mab mae msa mlc mli mna mva mma mch mre mlv mwr msh mth mnv mns mfa mmo x y hpre) k_Mo_additional i_Mo_additional e_Mo_additional o_Mo ml_Mo_199 hd_Mo_additional (Nat.le_trans (by decide) hRf) (Nat.le_trans (by decide) hRl) hRc (va_recv hK hP (q0 := 0) (ci := 6) rfl rfl) hK hP hD hS hA [0, 1, 2, 3, 4, 5, 6, 7, 8, 9, 10, 11, 12, 13, 14, 15, 16, 17, 18, 19, 20, 21, 22] [] rfl rfl rfl (by decide) (by decide) (by decide) hl.1 rfl (Nat.le_of_ble_eq_true rfl) d_Mo_marksOf_132 (fun x7 H locs hu hP hD hS => ?_)
          have vc := vc x7 hu
          clear hu
          have hP : va_P D vwCl (wM b cI cJ cZ mki msz mle mel mme mal mic mil mio mab mae msa mlc mli mna mva mma mch mre mlv mwr msh mth mnv mns mfa mmo) H := hP
          have hD : va_D A (wM b cI cJ cZ mki msz mle mel mme mal mic mil mio mab mae msa mlc mli mna mva mma mch mre mlv mwr msh mth mnv mns mfa mmo) := hD
          refine lv_iconst (v := (-1)) hx hb d_Mo_marksOf_135 (by decide) ?_
          refine lv_ixor hx hb d_Mo_marksOf_136 ?_
          refine lv_iand hx hb d_Mo_marksOf_137 ?_
          exact jJ6 (x3 &&& (x7 ^^^ (-1))) ls H locs vc (lv_sub hl [1, 2, 3, 4, 0] rfl) hP hD hS
        · have vc := vc.2 h
          refine lv_iload hx hb d_Mo_marksOf_122 (lv_at hl 0 rfl) ?_
          refine lv_goto (tgt := 138) hx hb d_Mo_marksOf_124 (by decide) ?_
          exact jJ6 x3 ls H locs vc (lv_sub hl [1, 2, 3, 4, 0] rfl) hP hD hS
    · have vc := vc.2 h
      refine lv_iconst (v := 1) hx hb d_Mo_marksOf_42 (by decide) ?_
      refine lv_aload_n hx hb d_Mo_marksOf_43 rfl (lv_at hl 1 rfl) ?_
      refine lv_iload_n hx hb d_Mo_marksOf_44 rfl (lv_at hl 2 rfl) ?_
      refine lv_bipush (v := 32) hx hb d_Mo_marksOf_45 (by decide) ?_
      obtain ⟨hpre, vc⟩ := vc
      refine pc_V (As := [.int x, .int 32]) (rest := [.int 1]) S (c_Mo_many l D b cI cJ cZ mki msz mle mel mme mal mic mil mio mab mae msa mlc mli mna mva mma mch mre mlv mwr msh mth mnv mns mfa mmo x 32 hpre) wB_blind k_Mo_many i_Mo_many e_Mo_many o_Mo ml_Mo_148 hd_Mo_many (Nat.le_trans (by decide) hRf) (Nat.le_trans (by decide) hRl) hRc (va_recv hK hP (q0 := 0) (ci := 6) rfl rfl) (wB_at hP hK) hl.1 rfl (Nat.le_of_ble_eq_true rfl) d_Mo_marksOf_47 ?_
      refine lv_ishl hx hb d_Mo_marksOf_50 ?_
      refine lv_iconst (v := 1) hx hb d_Mo_marksOf_51 (by decide) ?_
      refine lv_isub hx hb d_Mo_marksOf_52 ?_
      refine lv_istore hx hb d_Mo_marksOf_53 hl (by decide) (lv' := [(5, .int ((1 <<< ((mlc (4 * x + 32 - 29 : Int32).toNatClampNeg) &&& 31)) - 1)), (4, .int x3), (0, .ref (b 0)), (1, .int x), (2, .int y), (3, .int 0)]) rfl (fun ls hl => ?_)
      refine lv_aload_n hx hb d_Mo_marksOf_55 rfl (lv_at hl 2 rfl) ?_
      refine lv_iload_n hx hb d_Mo_marksOf_56 rfl (lv_at hl 3 rfl) ?_
      refine lv_bipush (v := 22) hx hb d_Mo_marksOf_57 (by decide) ?_
      obtain ⟨hpre, vc⟩ := vc
      refine pc_V (As := [.int x, .int 22]) (rest := []) S (c_Mo_said l D b cI cJ cZ mki msz mle mel mme mal mic mil mio mab mae msa mlc mli mna mva mma mch mre mlv mwr msh mth mnv mns mfa mmo x 22 hpre) wB_blind k_Mo_said i_Mo_said e_Mo_said o_Mo ml_Mo_141 hd_Mo_said (Nat.le_trans (by decide) hRf) (Nat.le_trans (by decide) hRl) hRc (va_recv hK hP (q0 := 0) (ci := 6) rfl rfl) (wB_at hP hK) hl.1 rfl (Nat.le_of_ble_eq_true rfl) d_Mo_marksOf_59 ?_
      obtain ⟨J9, vc, vc2⟩ := vc
      have jJ9 : ∀ (x10 : Int32) (ls : Array Slot) (H : Heap) (locs : List Loc), J9 x10 → lv_has ls 7 [(0, .ref (b 0)), (1, .int x), (2, .int y), (3, .int 0), (4, .int x3), (5, .int ((1 <<< ((mlc (4 * x + 32 - 29 : Int32).toNatClampNeg) &&& 31)) - 1))] → va_P D vwCl (wM b cI cJ cZ mki msz mle mel mme mal mic mil mio mab mae msa mlc mli mna mva mma mch mre mlv mwr msh mth mnv mns mfa mmo) H → va_D A (wM b cI cJ cZ mki msz mle mel mme mal mic mil mio mab mae msa mlc mli mna mva mma mch mre mlv mwr msh mth mnv mns mfa mmo) → va_S A s.heap H locs → W p l e R s m args below meth c H locs cells slots Q (F0 m 75 ls [.int x10]) := by
        intro x10 ls H locs vc hl hP hD hS
        have vc := vc2 x10 vc
        refine lv_istore_n hx hb d_Mo_marksOf_75 rfl hl (by decide) (lv' := [(3, .int x10), (0, .ref (b 0)), (1, .int x), (2, .int y), (4, .int x3), (5, .int ((1 <<< ((mlc (4 * x + 32 - 29 : Int32).toNatClampNeg) &&& 31)) - 1))]) rfl (fun ls hl => ?_)
        refine lv_aload_n hx hb d_Mo_marksOf_76 rfl (lv_at hl 1 rfl) ?_
        refine lv_iload_n hx hb d_Mo_marksOf_77 rfl (lv_at hl 2 rfl) ?_
        refine lv_bipush (v := 23) hx hb d_Mo_marksOf_78 (by decide) ?_
        obtain ⟨hpre, vc⟩ := vc
        refine pc_V (As := [.int x, .int 23]) (rest := []) S (c_Mo_said l D b cI cJ cZ mki msz mle mel mme mal mic mil mio mab mae msa mlc mli mna mva mma mch mre mlv mwr msh mth mnv mns mfa mmo x 23 hpre) wB_blind k_Mo_said i_Mo_said e_Mo_said o_Mo ml_Mo_141 hd_Mo_said (Nat.le_trans (by decide) hRf) (Nat.le_trans (by decide) hRl) hRc (va_recv hK hP (q0 := 0) (ci := 6) rfl rfl) (wB_at hP hK) hl.1 rfl (Nat.le_of_ble_eq_true rfl) d_Mo_marksOf_80 ?_
        obtain ⟨J11, vc, vc2⟩ := vc
        have jJ11 : ∀ (x13 : Int32) (ls : Array Slot) (H : Heap) (locs : List Loc), J11 x13 → lv_has ls 7 [(0, .ref (b 0)), (1, .int x), (2, .int y), (3, .int x10), (4, .int x3), (5, .int ((1 <<< ((mlc (4 * x + 32 - 29 : Int32).toNatClampNeg) &&& 31)) - 1))] → va_P D vwCl (wM b cI cJ cZ mki msz mle mel mme mal mic mil mio mab mae msa mlc mli mna mva mma mch mre mlv mwr msh mth mnv mns mfa mmo) H → va_D A (wM b cI cJ cZ mki msz mle mel mme mal mic mil mio mab mae msa mlc mli mna mva mma mch mre mlv mwr msh mth mnv mns mfa mmo) → va_S A s.heap H locs → W p l e R s m args below meth c H locs cells slots Q (F0 m 98 ls [.int x13]) := by
          intro x13 ls H locs vc hl hP hD hS
          have vc := vc2 x13 vc
          refine lv_istore_n hx hb d_Mo_marksOf_98 rfl hl (by decide) (lv' := [(3, .int x13), (0, .ref (b 0)), (1, .int x), (2, .int y), (4, .int x3), (5, .int ((1 <<< ((mlc (4 * x + 32 - 29 : Int32).toNatClampNeg) &&& 31)) - 1))]) rfl (fun ls hl => ?_)
          refine lv_goto (tgt := 139) hx hb d_Mo_marksOf_99 (by decide) ?_
          exact jJ4 x13 ls H locs vc (lv_sub hl [1, 2, 3, 0, 4] rfl) hP hD hS
        clear vc2
        refine lv_if_lt (tgt := 97) hx hb d_Mo_marksOf_83 (by decide) (fun h => ?_) (fun h => ?_)
        · have vc := vc.1 h
          refine lv_iload_n hx hb d_Mo_marksOf_97 rfl (lv_at hl 0 rfl) ?_
          exact jJ11 x10 ls H locs vc (lv_sub hl [1, 2, 3, 0, 4, 5] rfl) hP hD hS
        · have vc := vc.2 h
          refine lv_iload_n hx hb d_Mo_marksOf_86 rfl (lv_at hl 0 rfl) ?_
          refine lv_aload_n hx hb d_Mo_marksOf_87 rfl (lv_at hl 1 rfl) ?_
          refine lv_iload_n hx hb d_Mo_marksOf_88 rfl (lv_at hl 2 rfl) ?_
          refine lv_iload_n hx hb d_Mo_marksOf_89 rfl (lv_at hl 3 rfl) ?_
          obtain ⟨hpre, vc⟩ := vc
          refine wc_V (As := [.int x, .int y]) (rest := [.int x10]) (wr := ([] : va_W)) S (c_Mo_contained l D b cI cJ cZ mki msz mle mel mme mal mic mil mio mab mae msa mlc mli mna mva mma mch mre mlv mwr msh mth mnv mns mfa mmo x y hpre) k_Mo_contained i_Mo_contained e_Mo_contained o_Mo ml_Mo_196 hd_Mo_contained (Nat.le_trans (by decide) hRf) (Nat.le_trans (by decide) hRl) hRc (va_recv hK hP (q0 := 0) (ci := 6) rfl rfl) hK hP hD hS hA [0, 1, 2, 3, 4, 5, 6, 7, 8, 9, 10, 11, 12, 13, 14, 15, 16, 17, 18, 19, 20, 21, 22] [] rfl rfl rfl (by decide) (by decide) (by decide) hl.1 rfl (Nat.le_of_ble_eq_true rfl) d_Mo_marksOf_90 (fun x12 H locs hu hP hD hS => ?_)
          have vc := vc x12 hu
          clear hu
          have hP : va_P D vwCl (wM b cI cJ cZ mki msz mle mel mme mal mic mil mio mab mae msa mlc mli mna mva mma mch mre mlv mwr msh mth mnv mns mfa mmo) H := hP
          have hD : va_D A (wM b cI cJ cZ mki msz mle mel mme mal mic mil mio mab mae msa mlc mli mna mva mma mch mre mlv mwr msh mth mnv mns mfa mmo) := hD
          refine lv_ior hx hb d_Mo_marksOf_93 ?_
          refine lv_goto (tgt := 98) hx hb d_Mo_marksOf_94 (by decide) ?_
          exact jJ11 (x10 ||| x12) ls H locs vc (lv_sub hl [1, 2, 3, 0, 4, 5] rfl) hP hD hS
      clear vc2
      refine lv_if_lt (tgt := 70) hx hb d_Mo_marksOf_62 (by decide) (fun h => ?_) (fun h => ?_)
      · have vc := vc.1 h
        refine lv_iload hx hb d_Mo_marksOf_70 (lv_at hl 0 rfl) ?_
        refine lv_iload hx hb d_Mo_marksOf_72 (lv_at hl 1 rfl) ?_
        refine lv_iand hx hb d_Mo_marksOf_74 ?_
        exact jJ9 (((1 <<< ((mlc (4 * x + 32 - 29 : Int32).toNatClampNeg) &&& 31)) - 1) &&& x3) ls H locs vc (lv_sub hl [2, 3, 4, 5, 1, 0] rfl) hP hD hS
      · have vc := vc.2 h
        refine lv_iload hx hb d_Mo_marksOf_65 (lv_at hl 1 rfl) ?_
        refine lv_goto (tgt := 75) hx hb d_Mo_marksOf_67 (by decide) ?_
        exact jJ9 x3 ls H locs vc (lv_sub hl [2, 3, 4, 5, 1, 0] rfl) hP hD hS
  clear vc2
  refine lv_icmp_ne (tgt := 25) hx hb d_Mo_marksOf_9 (by decide) (fun h => ?_) (fun h => ?_)
  · have vc := vc.1 h
    refine lv_aload_n hx hb d_Mo_marksOf_25 rfl (lv_at hl 1 rfl) ?_
    refine lv_iload_n hx hb d_Mo_marksOf_26 rfl (lv_at hl 3 rfl) ?_
    obtain ⟨hpre, vc⟩ := vc
    refine wc_V (As := [.int y]) (rest := []) (wr := ([] : va_W)) S (c_Mo_memberBits l D b cI cJ cZ mki msz mle mel mme mal mic mil mio mab mae msa mlc mli mna mva mma mch mre mlv mwr msh mth mnv mns mfa mmo y hpre) k_Mo_memberBits i_Mo_memberBits e_Mo_memberBits o_Mo ml_Mo_187 hd_Mo_memberBits (Nat.le_trans (by decide) hRf) (Nat.le_trans (by decide) hRl) hRc (va_recv hK hP (q0 := 0) (ci := 6) rfl rfl) hK hP hD hS hA [0, 1, 2, 3, 4, 5, 6, 7, 8, 9, 10, 11, 12, 13, 14, 15, 16, 17, 18, 19, 20, 21, 22] [] rfl rfl rfl (by decide) (by decide) (by decide) hl.1 rfl (Nat.le_of_ble_eq_true rfl) d_Mo_marksOf_27 (fun x2 H locs hu hP hD hS => ?_)
    have vc := vc x2 hu
    clear hu
    have hP : va_P D vwCl (wM b cI cJ cZ mki msz mle mel mme mal mic mil mio mab mae msa mlc mli mna mva mma mch mre mlv mwr msh mth mnv mns mfa mmo) H := hP
    have hD : va_D A (wM b cI cJ cZ mki msz mle mel mme mal mic mil mio mab mae msa mlc mli mna mva mma mch mre mlv mwr msh mth mnv mns mfa mmo) := hD
    exact jJ1 x2 ls H locs vc (lv_sub hl [1, 2, 3, 0] rfl) hP hD hS
  · have vc := vc.2 h
    refine lv_iconst (v := 1) hx hb d_Mo_marksOf_12 (by decide) ?_
    refine lv_aload_n hx hb d_Mo_marksOf_13 rfl (lv_at hl 1 rfl) ?_
    refine va_get (D := D) (ci := 6) (v := .ref (b 3)) (C := R_Mo) (T := F_Mo) (N := 27) hx hb hts in_Mo hown hK hP 0 rfl rfl 4 (by decide) (hts _ fl_Mo_17) (fun _ h => h) rfl d_Mo_marksOf_14 ?_
    refine lv_iload_n hx hb d_Mo_marksOf_17 rfl (lv_at hl 3 rfl) ?_
    obtain ⟨vcb, vc⟩ := vc
    refine va_iald hx hb hK hP 3 0 rfl rfl vcb d_Mo_marksOf_18 ?_
    refine lv_ishl hx hb d_Mo_marksOf_19 ?_
    refine lv_iconst (v := 1) hx hb d_Mo_marksOf_20 (by decide) ?_
    refine lv_isub hx hb d_Mo_marksOf_21 ?_
    refine lv_goto (tgt := 30) hx hb d_Mo_marksOf_22 (by decide) ?_
    exact jJ1 ((1 <<< ((mle y.toNatClampNeg) &&& 31)) - 1) ls H locs vc (lv_sub hl [1, 2, 3, 0] rfl) hP hD hS
set_option maxHeartbeats 4000000 in
theorem v_Mo_marksOf (mki : Nat → Int32) (msz : Nat → Int64) (mle : Nat → Int32) (mel : Nat → Int32) (mme : Nat → Int32) (mal : Nat → Int32) (mic : Nat → Int32) (mil : Nat → Int32) (mio : Nat → Int32) (mab : Nat → Int32) (mae : Nat → Int32) (msa : Nat → Int32) (mlc : Nat → Int32) (mli : Nat → Int32) (mna : Nat → Int32) (mva : Nat → Int32) (mma : Nat → Int32) (mch : Nat → Int32) (mre : Nat → Int32) (mlv : Nat → Int32) (mwr : Nat → Int64) (msh : Nat → Int32) (mth : Int32) (mnv : Int32) (mns : Int32) (mfa : Int32) (mmo : Int32) (x : Int32) (y : Int32) (hpre : (∃ n0 m0 s0 v0 : Nat, mnv = nI n0 ∧ mns = nI m0 ∧ MSOK mki msz mle mel mme mic mio msa mlc mli mna mva n0 m0 ∧ s0 < m0 ∧ v0 < n0 ∧ x = nI s0 ∧ y = nI v0)) : V_Mo_marksOf mki msz mle mel mme mal mic mil mio mab mae msa mlc mli mna mva mma mch mre mlv mwr msh mth mnv mns mfa mmo x y (fun v mki' msz' mle' mel' mme' mal' mic' mil' mio' mab' mae' msa' mlc' mli' mna' mva' mma' mch' mre' mlv' mwr' msh' mth' mnv' mns' mfa' mmo' => ((∀ G : Sp, G = gM mki msz mle mel mme mal mic mil mio mab mae msa mlc mli mna mva mma mnv.toNatClampNeg → ∀ i, i < 32 → (bt v i = true ↔ Mrk0 G x.toNatClampNeg y.toNatClampNeg i))) ∧ mki' = mki ∧ msz' = msz ∧ mle' = mle ∧ mel' = mel ∧ mme' = mme ∧ mal' = mal ∧ mic' = mic ∧ mil' = mil ∧ mio' = mio ∧ mab' = mab ∧ mae' = mae ∧ msa' = msa ∧ mlc' = mlc ∧ mli' = mli ∧ mna' = mna ∧ mva' = mva ∧ mma' = mma ∧ mch' = mch ∧ mre' = mre ∧ mlv' = mlv ∧ mwr' = mwr ∧ msh' = msh ∧ mth' = mth ∧ mnv' = mnv ∧ mns' = mns ∧ mfa' = mfa ∧ mmo' = mmo) := by
  have main : ∀ post : Int32 → (Nat → Int32) → (Nat → Int64) → (Nat → Int32) → (Nat → Int32) → (Nat → Int32) → (Nat → Int32) → (Nat → Int32) → (Nat → Int32) → (Nat → Int32) → (Nat → Int32) → (Nat → Int32) → (Nat → Int32) → (Nat → Int32) → (Nat → Int32) → (Nat → Int32) → (Nat → Int32) → (Nat → Int32) → (Nat → Int32) → (Nat → Int32) → (Nat → Int32) → (Nat → Int64) → (Nat → Int32) → Int32 → Int32 → Int32 → Int32 → Int32 → Prop, (∀ v mki' msz' mle' mel' mme' mal' mic' mil' mio' mab' mae' msa' mlc' mli' mna' mva' mma' mch' mre' mlv' mwr' msh' mth' mnv' mns' mfa' mmo', (fun v mki' msz' mle' mel' mme' mal' mic' mil' mio' mab' mae' msa' mlc' mli' mna' mva' mma' mch' mre' mlv' mwr' msh' mth' mnv' mns' mfa' mmo' => ((∀ G : Sp, G = gM mki msz mle mel mme mal mic mil mio mab mae msa mlc mli mna mva mma mnv.toNatClampNeg → ∀ i, i < 32 → (bt v i = true ↔ Mrk0 G x.toNatClampNeg y.toNatClampNeg i))) ∧ mki' = mki ∧ msz' = msz ∧ mle' = mle ∧ mel' = mel ∧ mme' = mme ∧ mal' = mal ∧ mic' = mic ∧ mil' = mil ∧ mio' = mio ∧ mab' = mab ∧ mae' = mae ∧ msa' = msa ∧ mlc' = mlc ∧ mli' = mli ∧ mna' = mna ∧ mva' = mva ∧ mma' = mma ∧ mch' = mch ∧ mre' = mre ∧ mlv' = mlv ∧ mwr' = mwr ∧ msh' = msh ∧ mth' = mth ∧ mnv' = mnv ∧ mns' = mns ∧ mfa' = mfa ∧ mmo' = mmo) v mki' msz' mle' mel' mme' mal' mic' mil' mio' mab' mae' msa' mlc' mli' mna' mva' mma' mch' mre' mlv' mwr' msh' mth' mnv' mns' mfa' mmo' → post v mki' msz' mle' mel' mme' mal' mic' mil' mio' mab' mae' msa' mlc' mli' mna' mva' mma' mch' mre' mlv' mwr' msh' mth' mnv' mns' mfa' mmo') → V_Mo_marksOf mki msz mle mel mme mal mic mil mio mab mae msa mlc mli mna mva mma mch mre mlv mwr msh mth mnv mns mfa mmo x y post := by
    intro post hpost
    unfold V_Mo_marksOf
    obtain ⟨n0, m0, s0, v0, hnv, hns, hS, hs, hv, rfl, rfl⟩ := hpre
    have hm24 := hS.2.2.1
    have hn40 := hS.1.1
    have hs24 : s0 < 24 := by omega
    have hv40 : v0 < 40 := by omega
    have cs : (nI s0).toNatClampNeg = s0 := nI_clamp (by omega)
    have cv : (nI v0).toNatClampNeg = v0 := nI_clamp (by omega)
    have cn : mnv.toNatClampNeg = n0 := by rw [hnv]; exact nI_clamp (by omega)
    have hxv : vp_in (nI v0) 40 := vp_in_nI hv40 (by decide)
    obtain ⟨⟨kd, hkd, ekd⟩, ⟨L, hL, eL⟩, hpart, hmem, htxt⟩ := hS.1.2.2 v0 hv40
    have cL : (nI L).toNatClampNeg = L := nI_clamp (by omega)
    have hL8 : (mle v0).toNatClampNeg ≤ 8 := by rw [eL, cL]; exact hL
    have e18 : 29 * nI s0 + 18 = nI (s0 * 29 + 18) := jx29 (k := 18)
    have e19 : 29 * nI s0 + 19 = nI (s0 * 29 + 19) := jx29 (k := 19)
    have e20 : 29 * nI s0 + 20 = nI (s0 * 29 + 20) := jx29 (k := 20)
    have e21 : 29 * nI s0 + 21 = nI (s0 * 29 + 21) := jx29 (k := 21)
    have e22 : 29 * nI s0 + 22 = nI (s0 * 29 + 22) := jx29 (k := 22)
    have e23 : 29 * nI s0 + 23 = nI (s0 * 29 + 23) := jx29 (k := 23)
    have e26 : 29 * nI s0 + 26 = nI (s0 * 29 + 26) := jx29 (k := 26)
    have e32 : 4 * nI s0 + 32 - 29 = nI (s0 * 4 + 3) := jx4 (k := 3)
    have cc : ∀ k, k < 29 → (nI (s0 * 29 + k)).toNatClampNeg = s0 * 29 + k := fun k hk => nI_clamp (by omega)
    have c4 : (nI (s0 * 4 + 3)).toNatClampNeg = s0 * 4 + 3 := nI_clamp (by omega)
    have c1819 : (19 : Int32).toNatClampNeg = 19 ∧ (20 : Int32).toNatClampNeg = 20 := ⟨rfl, rfl⟩
    have vi : ∀ k, k < 29 → vp_in (nI (s0 * 29 + k)) 696 := fun k hk => vp_in_nI (by omega) (by decide)
    obtain ⟨p, hp3, ep⟩ := hS.2.2.2.1 (s0 * 4 + 3) (by omega)
    have cp : (nI p).toNatClampNeg = p := nI_clamp (by omega)
    simp only [cs, cv, cn, e18, e19, e20, e21, e22, e23, e26, e32, cc 18 (by decide), cc 19 (by decide), cc 20 (by decide), cc 21 (by decide), cc 22 (by decide), cc 23 (by decide), cc 26 (by decide), c4, eL, ep, c1819.1, c1819.2] at hpost ⊢
    have ox : ∀ k, 17 ≤ k → k < 24 → okx (msa (s0 * 29 + k)) m0 := fun k h1 h2 => (hS.2.2.2.2.1 s0 hs24).1 k h1 (by omega) (by omega) (by omega)
    have gH : ∀ G, (G = gM mki msz mle mel mme mal mic mil mio mab mae msa mlc mli mna mva mma n0) → ∀ k, (ruH G s0 k ↔ ¬ msa (s0 * 29 + k) < 0) := fun G hG k => by unfold ruH; rw [(gM_eq hG).2.2.2.1]
    have gS : ∀ G, (G = gM mki msz mle mel mme mal mic mil mio mab mae msa mlc mli mna mva mma n0) → ∀ k i, (MrkS G s0 v0 k i ↔ ¬ msa (s0 * 29 + k) < 0 ∧ gMk G (msa (s0 * 29 + k)).toNatClampNeg v0 i) := fun G hG k i => by unfold MrkS ruH ruV; rw [(gM_eq hG).2.2.2.1]
    have gB : ∀ G, (G = gM mki msz mle mel mme mal mic mil mio mab mae msa mlc mli mna mva mma n0) → gPb G = mpb mki mle mme := fun G hG => (gM_eq hG).2.1
    have gKk : ∀ G, (G = gM mki msz mle mel mme mal mic mil mio mab mae msa mlc mli mna mva mma n0) → gK G = mki := fun G hG => (gM_eq hG).1
    refine ⟨hxv, fun z => ∀ i, i < 32 → (bt z i = true ↔ mpb mki mle mme v0 i), ⟨fun h4 => ⟨hxv, fun b hb i hi => ?_⟩, fun h4 => ⟨hxv, fun i hi => ?_⟩⟩, ?_⟩
    · rw [hb i hi]; unfold mpb
      exact ⟨fun q => ⟨q.1, hv40, Or.inr q.2⟩, fun q => ⟨q.1, q.2.2.resolve_left (fun w => h4 w.1)⟩⟩
    · rw [row_all L hL i hi, decide_eq_true_eq, mpb_r hv40 h4 hL8, eL, cL]
    intro z1 hz1
    refine ⟨hxv, fun z => ∀ G : Sp, G = gM mki msz mle mel mme mal mic mil mio mab mae msa mlc mli mna mva mma n0 → ∀ i, i < 32 → (bt z i = true ↔ F4 G s0 v0 i), ⟨fun h4 => ⟨hxv, fun h5 => fun G hG i hi => ?_, fun h5 => ⟨vi 26 (by decide), fun z => ∀ G : Sp, G = gM mki msz mle mel mme mal mic mil mio mab mae msa mlc mli mna mva mma n0 → ∀ i, i < 32 → (bt z i = true ↔ F4 G s0 v0 i), ⟨fun h => ⟨⟨n0, m0, s0, v0, hnv, hns, hS, hs, hv, rfl, rfl⟩, fun b hb G hG i hi => ?_⟩, fun h G hG i hi => ?_⟩, fun z hz => hz⟩⟩, fun h4 => ⟨vp_in_nI (by omega) (by decide), vi 22 (by decide), fun z => ∀ G : Sp, G = gM mki msz mle mel mme mal mic mil mio mab mae msa mlc mli mna mva mma n0 → ∀ i, i < 32 → (bt z i = true ↔ MrkEl G s0 v0 i), ⟨fun h G hG i hi => ?_, fun h G hG i hi => ?_⟩, fun z2 hz2 => ⟨vi 23 (by decide), fun z => ∀ G : Sp, G = gM mki msz mle mel mme mal mic mil mio mab mae msa mlc mli mna mva mma n0 → ∀ i, i < 32 → (bt z i = true ↔ MrkEl G s0 v0 i ∨ MrkCo G s0 v0 i), ⟨fun h G hG i hi => ?_, fun h => ⟨⟨n0, m0, s0, v0, hnv, hns, hS, ⟨hs, hv, rfl, rfl⟩, h⟩, fun b hb G hG i hi => ?_⟩⟩, fun z hz G hG i hi => ?_⟩⟩⟩, ?_⟩
    · rw [b_0]; unfold F4; rw [gKk G hG]
      exact ⟨fun q => absurd q (by decide), fun q => q.elim (fun q => absurd q.1 h4) (fun q => absurd q.1 h5)⟩
    · rw [b_and, b_inv _ hi, Bool.and_eq_true, hz1 i hi]
      unfold F4; rw [gKk G hG, gB G hG, gH G hG]
      have hnm : nmH G s0 0 i ↔ ¬ mna ((s0 * 3 + 0) * 12 + i) < 0 := by unfold nmH; rw [(gM_eq hG).2.2.2.2.2.2.1]
      rw [hnm]
      constructor
      · rintro ⟨q1, q2⟩
        refine Or.inr ⟨h5, q1, Or.inl (fun w => ?_)⟩
        have : bt b i = true := (hb i hi).mpr ⟨q1.1, h5, (mpb_m hv40 h5 q1.1).mp q1, w⟩
        rw [this] at q2; exact absurd q2 (by decide)
      · rintro (q | ⟨_, q1, q2⟩)
        · exact absurd q.1 h4
        · refine ⟨q1, ?_⟩
          cases e : bt b i
          · rfl
          · rcases q2 with q2 | q2
            · exact absurd ((hb i hi).mp e).2.2.2 q2
            · exact absurd h q2
    · rw [hz1 i hi]
      unfold F4; rw [gKk G hG, gB G hG, gH G hG]
      exact ⟨fun q => Or.inr ⟨h5, q, Or.inr h⟩, fun q => q.elim (fun q => absurd q.1 h4) (fun q => q.2.1)⟩
    · rw [b_and, row_all p (by omega) i hi, Bool.and_eq_true, decide_eq_true_eq, hz1 i hi]
      unfold MrkEl lsL; rw [gB G hG, gH G hG, (gM_eq hG).2.2.2.2.1, ep, cp]
      exact ⟨fun q => ⟨q.2.1, q.2, Or.inl q.1⟩, fun q => ⟨q.2.2.resolve_right (fun w => w h), q.2.1⟩⟩
    · rw [hz1 i hi]
      unfold MrkEl lsL; rw [gB G hG, gH G hG, (gM_eq hG).2.2.2.2.1, ep, cp]
      exact ⟨fun q => ⟨q.1, q, Or.inr h⟩, fun q => q.2.1⟩
    · rw [hz2 G hG i hi]
      refine ⟨Or.inl, fun q => q.elim id (fun q => ?_)⟩
      exact absurd h ((gH G hG 23).mp q.1)
    · rw [b_or, Bool.or_eq_true, hz2 G hG i hi, hb G hG h4 i hi]
    · rw [hz G hG i hi]; unfold F4; rw [gKk G hG]
      exact ⟨fun q => Or.inl ⟨h4, q⟩, fun q => q.elim (fun q => q.2) (fun q => absurd (h4.symm.trans q.1) (by decide))⟩
    intro z4 hz4
    refine ⟨vi 18 (by decide), ⟨n0, m0, s0, v0, hnv, hns, hS, ox 18 (by decide) (by decide), hv, rfl⟩, fun b18 hb18 => ⟨vi 21 (by decide), ⟨n0, m0, s0, v0, hnv, hns, hS, ox 21 (by decide) (by decide), hv, rfl⟩, fun b21 hb21 => ⟨⟨n0, m0, s0, v0, hnv, hns, hS, ⟨hs, hv, rfl, rfl⟩, 19, by decide, rfl⟩, fun t19 ht19 => ?_⟩⟩⟩
    have base : ∀ G : Sp, G = gM mki msz mle mel mme mal mic mil mio mab mae msa mlc mli mna mva mma n0 → ∀ i, i < 32 → (bt ((z4 ||| b18) ||| b21) i = true ↔ (F4 G s0 v0 i ∨ MrkS G s0 v0 18 i) ∨ MrkS G s0 v0 21 i) := fun G hG i hi => by
      rw [b_or, b_or, Bool.or_eq_true, Bool.or_eq_true, hz4 G hG i hi, hb18 G hG i hi, hb21 G hG i hi, gS G hG, gS G hG]
    refine ⟨fun z => ∀ G : Sp, G = gM mki msz mle mel mme mal mic mil mio mab mae msa mlc mli mna mva mma n0 → ∀ i, i < 32 → (bt z i = true ↔ ((F4 G s0 v0 i ∨ MrkS G s0 v0 18 i) ∨ MrkS G s0 v0 21 i) ∨ ((trn G s0 v0 19 ∧ MrkS G s0 v0 19 i) ∨ (trn G s0 v0 20 ∧ MrkS G s0 v0 20 i))), ⟨fun h => ⟨⟨n0, m0, s0, v0, hnv, hns, hS, ⟨hs, hv, rfl, rfl⟩, 20, by decide, rfl⟩, fun t20 ht20 => ⟨fun h2 G hG i hi => ?_, fun h2 => ⟨vi 20 (by decide), ⟨n0, m0, s0, v0, hnv, hns, hS, ox 20 (by decide) (by decide), hv, rfl⟩, fun b20 hb20 G hG i hi => ?_⟩⟩⟩, fun h => ⟨vi 19 (by decide), ⟨n0, m0, s0, v0, hnv, hns, hS, ox 19 (by decide) (by decide), hv, rfl⟩, fun b19 hb19 G hG i hi => ?_⟩⟩, ?_⟩
    · have n19 : ¬ trn G s0 v0 19 := fun q => by have := (ht19 G hG).mpr q; rw [bI0.mp h] at this; exact absurd this (by decide)
      have n20 : ¬ trn G s0 v0 20 := fun q => by have := (ht20 G hG).mpr q; rw [bI0.mp h2] at this; exact absurd this (by decide)
      rw [base G hG i hi]; exact ⟨Or.inl, fun q => q.elim id (fun q => q.elim (fun q => absurd q.1 n19) (fun q => absurd q.1 n20))⟩
    · have n19 : ¬ trn G s0 v0 19 := fun q => by have := (ht19 G hG).mpr q; rw [bI0.mp h] at this; exact absurd this (by decide)
      have y20 : trn G s0 v0 20 := (ht20 G hG).mp (bI_ne.mp h2)
      rw [b_or, Bool.or_eq_true, base G hG i hi, hb20 G hG i hi, ← gS G hG]
      exact or_congr_right ⟨fun q => Or.inr ⟨y20, q⟩, fun q => q.elim (fun q => absurd q.1 n19) (fun q => q.2)⟩
    · have y19 : trn G s0 v0 19 := (ht19 G hG).mp (bI_ne.mp h)
      have n20 : ¬ trn G s0 v0 20 := fun q => absurd (q.2.mp (y19.2.mpr rfl)) (by decide)
      rw [b_or, Bool.or_eq_true, base G hG i hi, hb19 G hG i hi, ← gS G hG]
      exact or_congr_right ⟨fun q => Or.inl ⟨y19, q⟩, fun q => q.elim (fun q => q.2) (fun q => absurd q.1 n20)⟩
    intro z5 hz5
    refine ⟨fun z xk => ∃ j, j ≤ 3 ∧ xk = nI (29 + j) ∧ ∀ G : Sp, G = gM mki msz mle mel mme mal mic mil mio mab mae msa mlc mli mna mva mma n0 → ∀ i, i < 32 → (bt z i = true ↔ (((F4 G s0 v0 i ∨ MrkS G s0 v0 18 i) ∨ MrkS G s0 v0 21 i) ∨ ((trn G s0 v0 19 ∧ MrkS G s0 v0 19 i) ∨ (trn G s0 v0 20 ∧ MrkS G s0 v0 20 i))) ∨ ∃ k, k < j ∧ MrkL G s0 v0 k i), fun _ xk => 32 - xk.toInt.toNat, ⟨0, by decide, rfl, fun G hG i hi => by rw [hz5 G hG i hi]; exact ⟨Or.inl, fun q => q.elim id (fun ⟨k, q, _⟩ => absurd q (Nat.not_lt_zero _))⟩⟩, ?_⟩
    rintro z6 xk ⟨j, hj, rfl, hz6⟩
    refine ⟨fun h => ?_, fun h => ?_⟩
    · obtain rfl : j = 3 := by have := fill_end (N := 32) h (by decide) (by omega); omega
      refine ⟨fun z xn => ∃ j, j ≤ 12 ∧ xn = nI j ∧ ∀ G : Sp, G = gM mki msz mle mel mme mal mic mil mio mab mae msa mlc mli mna mva mma n0 → ∀ i, i < 32 → (bt z i = true ↔ ((((F4 G s0 v0 i ∨ MrkS G s0 v0 18 i) ∨ MrkS G s0 v0 21 i) ∨ ((trn G s0 v0 19 ∧ MrkS G s0 v0 19 i) ∨ (trn G s0 v0 20 ∧ MrkS G s0 v0 20 i))) ∨ ∃ k, k < 3 ∧ MrkL G s0 v0 k i) ∨ ∃ n, n < j ∧ gK G v0 = 5 ∧ gPb G v0 n ∧ nmH G s0 1 n ∧ gMk G (nmV G s0 1 n) v0 i), fun _ xn => 12 - xn.toInt.toNat, ⟨0, by decide, rfl, fun G hG i hi => by rw [hz6 G hG i hi]; exact ⟨Or.inl, fun q => q.elim id (fun ⟨k, q, _⟩ => absurd q (Nat.not_lt_zero _))⟩⟩, ?_⟩
      rintro z7 xn ⟨j, hj, rfl, hz7⟩
      refine ⟨fun h2 => ?_, fun h2 => ?_⟩
      · obtain rfl := fill_end (N := 12) h2 (by decide) hj
        exact (hpost _ _ _ _ _ _ _ _ _ _ _ _ _ _ _ _ _ _ _ _ _ _ _ _ _ _ _ _ ⟨fun G hG i hi => by rw [hz7 G hG i hi, Mrk0_iff (fun i q => by rw [gB G hG] at q; exact q.1)], rfl, rfl, rfl, rfl, rfl, rfl, rfl, rfl, rfl, rfl, rfl, rfl, rfl, rfl, rfl, rfl, rfl, rfl, rfl, rfl, rfl, rfl, rfl, rfl, rfl, rfl, rfl⟩)
      · have hj2 := fill_step (N := 12) h2 (by decide) hj
        have mu := fill_mu (N := 12) hj2 (by decide)
        have c12 : (nI (12 * v0 + j)).toNatClampNeg = 12 * v0 + j := nI_clamp (by omega)
        have c36 : (nI ((s0 * 3 + 1) * 12 + j)).toNatClampNeg = (s0 * 3 + 1) * 12 + j := nI_clamp (by omega)
        rw [jx12v, c12, ite5, jx36', c36]
        refine ⟨⟨hxv, vp_in_nI (by omega) (by decide)⟩, fun h3 => ⟨⟨j + 1, hj2, nI_1 j, fun G hG i hi => ?_⟩, mu⟩, fun h3 => ⟨vp_in_nI (by omega) (by decide), ⟨n0, m0, s0, v0, hnv, hns, hS, (hS.2.2.2.2.1 s0 hs24).2.2 1 j (by decide) hj2, hv, rfl⟩, fun b hb => ⟨⟨j + 1, hj2, nI_1 j, fun G hG i hi => ?_⟩, mu⟩⟩⟩
        · rw [hz7 G hG i hi, ex_succ (j := j)]
          refine or_congr_right ⟨Or.inl, fun q => q.elim id (fun q => absurd ⟨?_, ?_⟩ h3)⟩
          · rw [← gKk G hG]; exact q.1
          · have := q.2.1; rw [gB G hG] at this; exact (mpb_m hv40 (by rw [← gKk G hG]; exact q.1) hj2).mp this
        · have h3 := Classical.not_not.mp h3
          rw [b_or, Bool.or_eq_true, hz7 G hG i hi, ex_succ (j := j), or_assoc, hb G hG i hi]
          refine or_congr_right (or_congr_right ?_)
          unfold nmH nmV; rw [(gM_eq hG).2.2.2.2.2.2.1, gKk G hG, gB G hG]
          exact ⟨fun q => ⟨h3.1, (mpb_m hv40 h3.1 hj2).mpr h3.2, q⟩, fun q => q.2.2⟩
    · have hj2 : j < 3 := by have := fill_step (N := 32) h (by decide) (by omega); omega
      obtain ⟨K, hK3, eK⟩ := hS.2.2.2.1 (s0 * 4 + j) (by omega)
      have c4j : (nI (s0 * 4 + j)).toNatClampNeg = s0 * 4 + j := nI_clamp (by omega)
      have cK : (nI K).toNatClampNeg = K := nI_clamp (by omega)
      refine ⟨fun z xi => ∃ a, a ≤ K ∧ xi = nI a ∧ ∀ G : Sp, G = gM mki msz mle mel mme mal mic mil mio mab mae msa mlc mli mna mva mma n0 → ∀ i, i < 32 → (bt z i = true ↔ ((((F4 G s0 v0 i ∨ MrkS G s0 v0 18 i) ∨ MrkS G s0 v0 21 i) ∨ ((trn G s0 v0 19 ∧ MrkS G s0 v0 19 i) ∨ (trn G s0 v0 20 ∧ MrkS G s0 v0 20 i))) ∨ ∃ k, k < j ∧ MrkL G s0 v0 k i) ∨ ∃ b, b < a ∧ gMk G (lsV G s0 j b) v0 i), fun _ xi => K - xi.toInt.toNat, ⟨0, Nat.zero_le _, rfl, fun G hG i hi => by rw [hz6 G hG i hi]; exact ⟨Or.inl, fun q => q.elim id (fun ⟨k, q, _⟩ => absurd q (Nat.not_lt_zero _))⟩⟩, ?_⟩
      rintro z7 xi ⟨a, ha, rfl, hz7⟩
      rw [jx4, c4j, eK]
      refine ⟨vp_in_nI (by omega) (by decide), fun h2 => ?_, fun h2 => ?_⟩
      · obtain rfl := (fill_end (N := K) h2 (by omega) ha).symm
        refine ⟨⟨j + 1, hj2, nI_1 _, fun G hG i hi => ?_⟩, fill_mu (N := 32) (k := 29 + j) (by omega) (by decide)⟩
        rw [hz7 G hG i hi, ex_succ (j := j), or_assoc]
        refine or_congr_right (or_congr_right ?_)
        unfold MrkL lsL; rw [(gM_eq hG).2.2.2.2.1, eK, cK]
      · have ha2 := fill_step (N := K) h2 (by omega) ha
        have c12 : (nI ((s0 * 4 + j) * 3 + a)).toNatClampNeg = (s0 * 4 + j) * 3 + a := nI_clamp (by omega)
        obtain ⟨x0, hx, ex⟩ := hS.2.2.2.2.2.2.2.1 s0 j a hs24 (by omega) (by rw [eK, cK]; exact ha2)
        rw [jx12, c12]
        refine ⟨vp_in_nI (by omega) (by decide), ⟨n0, m0, s0, v0, hnv, hns, hS, Or.inr ⟨x0, hx, ex⟩, hv, rfl⟩, fun b hb => ⟨⟨a + 1, ha2, nI_1 a, fun G hG i hi => ?_⟩, fill_mu ha2 (by omega)⟩⟩
        rw [b_or, Bool.or_eq_true, hz7 G hG i hi, ex_succ (j := a), or_assoc, hb G hG i hi]
        refine or_congr_right (or_congr_right ?_)
        unfold lsV; rw [(gM_eq hG).2.2.2.2.2.1]
        exact ⟨fun q => q.2, fun q => ⟨by rw [ex]; exact nI_pos (by omega), q⟩⟩
  exact main _ (fun _ _ _ _ _ _ _ _ _ _ _ _ _ _ _ _ _ _ _ _ _ _ _ _ _ _ _ _ h => h)
theorem c_Mo_marksOf (l : Launch) (D : va_G) (b : Nat → Nat) (cI cJ cZ : ClassId) (mki : Nat → Int32) (msz : Nat → Int64) (mle : Nat → Int32) (mel : Nat → Int32) (mme : Nat → Int32) (mal : Nat → Int32) (mic : Nat → Int32) (mil : Nat → Int32) (mio : Nat → Int32) (mab : Nat → Int32) (mae : Nat → Int32) (msa : Nat → Int32) (mlc : Nat → Int32) (mli : Nat → Int32) (mna : Nat → Int32) (mva : Nat → Int32) (mma : Nat → Int32) (mch : Nat → Int32) (mre : Nat → Int32) (mlv : Nat → Int32) (mwr : Nat → Int64) (msh : Nat → Int32) (mth : Int32) (mnv : Int32) (mns : Int32) (mfa : Int32) (mmo : Int32) (x : Int32) (y : Int32) (hpre : (∃ n0 m0 s0 v0 : Nat, mnv = nI n0 ∧ mns = nI m0 ∧ MSOK mki msz mle mel mme mic mio msa mlc mli mna mva n0 m0 ∧ s0 < m0 ∧ v0 < n0 ∧ x = nI s0 ∧ y = nI v0)) : Wm (S := Int32) l y_Mo_marksOf b_Mo_marksOf 7 (some .int) 3 69 [.ref (b 0), .int x, .int y] D (tyA cI cJ cZ) (wM b cI cJ cZ mki msz mle mel mme mal mic mil mio mab mae msa mlc mli mna mva mma mch mre mlv mwr msh mth mnv mns mfa mmo) (fun uu => (∀ G : Sp, G = gM mki msz mle mel mme mal mic mil mio mab mae msa mlc mli mna mva mma mnv.toNatClampNeg → ∀ i, i < 32 → (bt uu i = true ↔ Mrk0 G x.toNatClampNeg y.toNatClampNeg i))) (fun uu => some (.int (uu))) (fun uu => (wM b cI cJ cZ mki msz mle mel mme mal mic mil mio mab mae msa mlc mli mna mva mma mch mre mlv mwr msh mth mnv mns mfa mmo)) :=
  wm_i (by decide) (fun _ _ => rfl) (Nat.le_of_ble_eq_true rfl) (fun p e s m below meth c ls Q A S hK hP hD hA hS hl hret => g_Mo_marksOf S (Nat.le_refl _) (Nat.le_refl _) ⟨Nat.le_refl _, Nat.le_refl _⟩ D b cI cJ cZ mki msz mle mel mme mal mic mil mio mab mae msa mlc mli mna mva mma mch mre mlv mwr msh mth mnv mns mfa mmo x y hK hP hD hA hS hl (v_Mo_marksOf mki msz mle mel mme mal mic mil mio mab mae msa mlc mli mna mva mma mch mre mlv mwr msh mth mnv mns mfa mmo x y hpre) (fun v mki' msz' mle' mel' mme' mal' mic' mil' mio' mab' mae' msa' mlc' mli' mna' mva' mma' mch' mre' mlv' mwr' msh' mth' mnv' mns' mfa' mmo' ls1 pc H1 locs1 hd hv hP1 hD1 hS1 => by obtain ⟨hp, rfl, rfl, rfl, rfl, rfl, rfl, rfl, rfl, rfl, rfl, rfl, rfl, rfl, rfl, rfl, rfl, rfl, rfl, rfl, rfl, rfl, rfl, rfl, rfl, rfl, rfl, rfl⟩ := hv; exact hret v _ ls1 pc H1 locs1 hd hp rfl hP1 hD1 hS1))
theorem hd_Mo_marksOf : y_Mo_marksOf.cls ≠ "java/lang/invoke/MethodHandle" ∧ y_Mo_marksOf.cls ≠ "java/lang/invoke/VarHandle" ∧ (parseMethodDescriptor y_Mo_marksOf.desc).map (fun d => d.parameters.length) = some 2 := ⟨by decide, by decide, by decide +kernel⟩
