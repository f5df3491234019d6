/-! ===== the class's equality and the model's are one ===== -/
def RvOK (ki : Nat → Int32) (co : Nat → Int64) (pr pa mki : Nat → Int32) (msz : Nat → Int64) (mle mel mme : Nat → Int32) : Prop :=
  ∀ v, v < 40 → ki v = mki v ∧ co v = msz v ∧ (∃ b, b < 4096 ∧ pr v = nI b) ∧ (∀ i, i < 12 → bt (pr v) i = true → ∃ p, p < v ∧ pa (v * 12 + i) = nI p) ∧
    ((ki v = 4 ∧ (∃ L, L ≤ 8 ∧ mle v = nI L ∧ (∀ i, i < 12 → bt (pr v) i = decide (i < L)) ∧ ∀ i, i < L → mel (8 * v + i) = pa (v * 12 + i)) ∧ ∀ n, n < 12 → mme (12 * v + n) = -1) ∨
     (ki v ≠ 4 ∧ mle v = 0 ∧ ∀ n, n < 12 → mme (12 * v + n) = if bt (pr v) n = true then pa (v * 12 + n) else -1))
theorem b_hi {x : Int32} (h : ∃ b, b < 4096 ∧ x = nI b) {i : Nat} (hi : 12 ≤ i) : bt x i = false := by
  obtain ⟨b, hb, rfl⟩ := h
  rw [b_nI b i (by omega)]
  exact Nat.testBit_lt_two_pow (Nat.lt_of_lt_of_le hb (Nat.pow_le_pow_right (n := 2) (by decide) hi))
theorem pr_ext {x y : Int32} (hx : ∃ b, b < 4096 ∧ x = nI b) (hy : ∃ b, b < 4096 ∧ y = nI b) (h : ∀ i, i < 12 → bt x i = bt y i) : x = y := by
  refine b_ext (fun i _ => ?_)
  rcases Nat.lt_or_ge i 12 with q | q
  · exact h i q
  · rw [b_hi hx q, b_hi hy q]
theorem sAlike_iff {ki : Nat → Int32} {co : Nat → Int64} {pr pa tw : Nat → Int32} {v w : Nat} : sAlike ki co pr pa tw v w = true ↔ (ki v = ki w ∧ co v = co w ∧ pr v = pr w) ∧ ∀ i, i < 12 → bt (pr v) i = true → tw (pa (v * 12 + i)).toNatClampNeg = tw (pa (w * 12 + i)).toNatClampNeg := by
  unfold sAlike
  rw [Bool.and_eq_true, all_lt, decide_eq_true_eq]
  refine and_congr_right (fun _ => forall_congr' (fun i => forall_congr' (fun hi => ?_)))
  rw [sBit_bt _ (by omega)]
  cases bt (pr v) i <;> simp
theorem neg1_lt : (-1 : Int32) < 0 := by decide
theorem same_alike {ki : Nat → Int32} {co : Nat → Int64} {pr pa tw mki : Nat → Int32} {msz : Nat → Int64} {mle mel mme mal : Nat → Int32} (hR : RvOK ki co pr pa mki msz mle mel mme) {v w : Nat} (hv : v < 40) (hw : w ≤ v) (h : ∀ j, j < v → tw j = mal j) :
    mSame mki msz mle mel mme mal v w = sAlike ki co pr pa tw v w := by
  obtain ⟨v1, v2, v3, v4, v5⟩ := hR v hv
  obtain ⟨w1, w2, w3, w4, w5⟩ := hR w (by omega)
  have tv : ∀ i, i < 12 → bt (pr v) i = true → tw (pa (v * 12 + i)).toNatClampNeg = mal (pa (v * 12 + i)).toNatClampNeg := fun i hi hb => by
    obtain ⟨p, hp, e⟩ := v4 i hi hb
    rw [e, nI_clamp (by omega)]; exact h p hp
  have tz : ∀ i, i < 12 → bt (pr w) i = true → tw (pa (w * 12 + i)).toNatClampNeg = mal (pa (w * 12 + i)).toNatClampNeg := fun i hi hb => by
    obtain ⟨p, hp, e⟩ := w4 i hi hb
    rw [e, nI_clamp (by omega)]; exact h p (by omega)
  have nv : ∀ i, i < 12 → bt (pr v) i = true → ¬ pa (v * 12 + i) < 0 := fun i hi hb => by
    obtain ⟨p, hp, e⟩ := v4 i hi hb
    rw [e]; exact nI_pos (by omega)
  have nw : ∀ i, i < 12 → bt (pr w) i = true → ¬ pa (w * 12 + i) < 0 := fun i hi hb => by
    obtain ⟨p, hp, e⟩ := w4 i hi hb
    rw [e]; exact nI_pos (by omega)
  refine Bool.eq_iff_iff.mpr ?_
  rw [mSame_iff, sAlike_iff, ← v1, ← w1, ← v2, ← w2]
  rcases v5 with ⟨k4, ⟨L, hL, eL, bL, pL⟩, mv⟩ | ⟨k4, eL, mv⟩
  · rcases w5 with ⟨k5, ⟨L2, hL2, eL2, bL2, pL2⟩, mw⟩ | ⟨k5, _, _⟩
    · rw [eL, eL2, nI_clamp (by omega), nI_eq (by omega) (by omega)]
      constructor
      · rintro ⟨⟨a1, a2, a3⟩, a4, _⟩
        subst a3
        refine ⟨⟨a1, a2, pr_ext v3 w3 (fun i hi => by rw [bL i hi, bL2 i hi])⟩, fun i hi hb => ?_⟩
        have hiL : i < L := by have := bL i hi; rw [hb] at this; exact of_decide_eq_true this.symm
        rw [tv i hi hb, tz i hi (by rw [bL2 i hi]; exact decide_eq_true hiL), ← pL i hiL, ← pL2 i hiL]
        exact a4 i hiL
      · rintro ⟨⟨a1, a2, a3⟩, a4⟩
        have e : L = L2 := by
          have f1 : ∀ i, i < 12 → decide (i < L) = decide (i < L2) := fun i hi => by rw [← bL i hi, ← bL2 i hi, a3]
          have f2 := f1 L (by omega)
          have f3 := f1 L2 (by omega)
          simp at f2 f3; omega
        subst e
        refine ⟨⟨a1, a2, rfl⟩, fun i hi => ?_, fun n hn => ?_⟩
        · have hb : bt (pr v) i = true := by rw [bL i (by omega)]; exact decide_eq_true hi
          rw [pL i hi, pL2 i hi, ← tv i (by omega) hb, ← tz i (by omega) (by rw [← a3]; exact hb)]
          exact a4 i (by omega) hb
        · rw [mv n hn, mw n hn, if_pos (Or.inl neg1_lt)]
    · constructor
      · rintro ⟨⟨a1, _⟩, _⟩; exact absurd (a1.symm.trans k4) k5
      · rintro ⟨⟨a1, _⟩, _⟩; exact absurd (a1.symm.trans k4) k5
  · rcases w5 with ⟨k5, _, _⟩ | ⟨k5, eL2, mw⟩
    · constructor
      · rintro ⟨⟨a1, _⟩, _⟩; exact absurd (a1.trans k5) k4
      · rintro ⟨⟨a1, _⟩, _⟩; exact absurd (a1.trans k5) k4
    · rw [eL, eL2]
      constructor
      · rintro ⟨⟨a1, a2, _⟩, _, a4⟩
        have key : ∀ n, n < 12 → bt (pr v) n = bt (pr w) n ∧ (bt (pr v) n = true → mal (pa (v * 12 + n)).toNatClampNeg = mal (pa (w * 12 + n)).toNatClampNeg) := fun n hn => by
          have q := a4 n hn
          rw [mv n hn, mw n hn] at q
          cases hb : bt (pr v) n <;> cases hc : bt (pr w) n
          · exact ⟨rfl, fun z => by cases z⟩
          · rw [hb, hc] at q
            simp only [neg1_lt, true_or, if_true, Bool.false_eq_true, if_false] at q
            exact absurd (q ▸ neg1_lt) (nw n hn hc)
          · rw [hb, hc] at q
            simp only [neg1_lt, or_true, if_true, Bool.false_eq_true, if_false] at q
            exact absurd (q.symm ▸ neg1_lt) (nv n hn hb)
          · rw [hb, hc] at q
            simp only [if_true, nv n hn hb, nw n hn hc, or_false, if_false] at q
            exact ⟨rfl, fun _ => q⟩
        refine ⟨⟨a1, a2, pr_ext v3 w3 (fun i hi => (key i hi).1)⟩, fun i hi hb => ?_⟩
        rw [tv i hi hb, tz i hi (by rw [← (key i hi).1]; exact hb)]
        exact (key i hi).2 hb
      · rintro ⟨⟨a1, a2, a3⟩, a4⟩
        refine ⟨⟨a1, a2, rfl⟩, fun i hi => absurd hi (by simp), fun n hn => ?_⟩
        rw [mv n hn, mw n hn, ← a3]
        cases hb : bt (pr v) n
        · simp
        · have hc : bt (pr w) n = true := by rw [← a3]; exact hb
          simp only [if_true, nv n hn hb, nw n hn hc, or_false, if_false]
          rw [← tv n hn hb, ← tz n hn hc]
          exact a4 n hn hb
theorem RvOK.pa {ki : Nat → Int32} {co : Nat → Int64} {pr pa mki : Nat → Int32} {msz : Nat → Int64} {mle mel mme : Nat → Int32} (hR : RvOK ki co pr pa mki msz mle mel mme) : PaOK pr pa := by
  intro v hv i hi hb
  obtain ⟨p, hp, e⟩ := (hR v hv).2.2.2.1 i hi hb
  rw [e, nI_clamp (by omega)]; exact hp
theorem RvOK.me {ki : Nat → Int32} {co : Nat → Int64} {pr pa mki : Nat → Int32} {msz : Nat → Int64} {mle mel mme : Nat → Int32} (hR : RvOK ki co pr pa mki msz mle mel mme) : MeOK mle mel mme := by
  intro v hv
  obtain ⟨_, _, v3, v4, v5⟩ := hR v hv
  rcases v5 with ⟨k4, ⟨L, hL, eL, bL, pL⟩, mv⟩ | ⟨k4, eL, mv⟩
  · refine ⟨fun i hi => ?_, fun n hn hm => ?_⟩
    · rw [eL, nI_clamp (by omega)] at hi
      rw [pL i hi]
      exact hR.pa v hv i (by omega) (by rw [bL i (by omega)]; exact decide_eq_true hi)
    · rw [mv n hn] at hm; exact absurd neg1_lt hm
  · refine ⟨fun i hi => ?_, fun n hn hm => ?_⟩
    · rw [eL] at hi; exact absurd hi (by simp)
    · rw [mv n hn] at hm ⊢
      by_cases hb : bt (pr v) n = true
      · rw [if_pos hb]; exact hR.pa v hv n hn hb
      · rw [if_neg hb] at hm; exact absurd neg1_lt hm
/-- the twins are alike -/
theorem tw_mal {ki : Nat → Int32} {co : Nat → Int64} {pr pa tw mki : Nat → Int32} {msz : Nat → Int64} {mle mel mme mal : Nat → Int32} {n : Nat} (hn : n ≤ 40) (hR : RvOK ki co pr pa mki msz mle mel mme) (ht : TwOK ki co pr pa tw n) (ha : AlOK mki msz mle mel mme mal n) : ∀ v, v < n → tw v = mal v := by
  intro v
  induction v using Nat.strongRecOn with
  | _ v ih =>
    intro hv
    have hs : ∀ w, w ≤ v → mSame mki msz mle mel mme mal v w = sAlike ki co pr pa tw v w := fun w hw => same_alike hR (by omega) hw (fun j hj => ih j hj (by omega))
    obtain ⟨t, a1, a2, a3, a4⟩ := ht v hv
    obtain ⟨u, b1, b2, b3, b4⟩ := ha v hv
    rw [a2, b2]
    rcases Nat.lt_trichotomy t u with q | q | q
    · have := b4 t q
      rw [hs t a1, a3 (by omega)] at this; cases this
    · rw [q]
    · have := a4 u q
      rw [← hs u b1, b3 (by omega)] at this; cases this
