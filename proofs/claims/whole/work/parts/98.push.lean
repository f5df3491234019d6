/-! ===== what one call owes: the calls that give a value its parts ===== -/
theorem lt4096 {x : Int32} (h : ∀ i, 12 ≤ i → i < 32 → bt x i = false) : ∃ b, b < 4096 ∧ x = nI b := by
  refine ⟨x.toBitVec.toNat, ?_, ?_⟩
  · refine Nat.lt_of_lt_of_le (Nat.lt_pow_two_of_testBit (n := 12) _ (fun i hi => ?_)) (by decide)
    rcases Nat.lt_or_ge i 32 with q | q
    · exact h i hi q
    · exact Nat.testBit_lt_two_pow (Nat.lt_of_lt_of_le x.toBitVec.isLt (Nat.pow_le_pow_right (n := 2) (by decide) q))
  · apply b_ext
    intro i hi
    rw [b_nI _ _ x.toBitVec.isLt]; rfl
theorem bset {x : Int32} (hx : ∃ b, b < 4096 ∧ x = nI b) {L : Nat} (hL : L < 12) : (∃ b, b < 4096 ∧ (x ||| (1 <<< (nI L &&& 31))) = nI b) ∧ ∀ i, i < 12 → bt (x ||| (1 <<< (nI L &&& 31))) i = (bt x i || decide (i = L)) := by
  refine ⟨lt4096 (fun i h1 h2 => ?_), fun i hi => ?_⟩
  · rw [b_or, b_shl1 (by omega), b_hi hx h1, decide_eq_false (by omega)]; rfl
  · rw [b_or, b_shl1 (by omega)]
theorem sKind_nI {ki : Nat → Int32} {n : Nat} {x k : Int32} (hn : n < 2 ^ 31) (h : sKind ki (nI n) x k = true) : ∃ r, r < n ∧ x = nI r ∧ ki r = k := by
  unfold sKind at h
  obtain ⟨h1, h2⟩ := and2.mp h
  obtain ⟨r, hr, rfl⟩ := sHas_nI hn h1
  exact ⟨r, hr, rfl, by rw [← nI_clamp (n := r) (by omega)]; exact of_decide_eq_true h2⟩
theorem sKind_in {ki : Nat → Int32} {n : Nat} {x k : Int32} (hn : n ≤ 40) {y : Int32} : (sKind ki (nI n) x k && sIn y 0 (x - 1)) = (sKind ki (nI n) x k && sHas x y) := by
  cases e : sKind ki (nI n) x k
  · rw [Bool.false_and, Bool.false_and]
  · obtain ⟨r, hr, rfl, -⟩ := sKind_nI (by omega) e
    rw [Bool.true_and, Bool.true_and, Bool.eq_iff_iff, sIn_has (by omega)]
theorem sKind_in3 {ki : Nat → Int32} {n : Nat} {x k : Int32} (hn : n ≤ 40) {y : Int32} {b : Bool} : (sKind ki (nI n) x k && (b && sIn y 0 (x - 1))) = (sKind ki (nI n) x k && (b && sHas x y)) := by
  cases e : sKind ki (nI n) x k
  · rw [Bool.false_and, Bool.false_and]
  · obtain ⟨r, hr, rfl, -⟩ := sKind_nI (by omega) e
    rw [Bool.eq_iff_iff.mpr (sIn_has (n := r) (by omega) (x := y))]
theorem len_bits {ki pr : Nat → Int32} {r L : Nat} (hr : r < 40) (hb : ∃ b, b < 4096 ∧ pr r = nI b) (h4 : ki r = 4) (hL : L ≤ 12) (h : ∀ i, i < 12 → bt (pr r) i = decide (i < L)) : iBits (pr r) = nI L := by
  rw [size_cN hr hb (Or.inl h4), cN_iff (q := fun i => i < L) 12 (fun i hi => ?_), cN_lt_eq L 12 hL]
  unfold cpb
  rw [h i hi]
  exact ⟨fun q => of_decide_eq_true q.1, fun q => ⟨decide_eq_true q, hi, hr, Or.inl h4⟩⟩
theorem sv_min {r k : Nat} (hr : r < 2 ^ 31) (hk : k < 2 ^ 31) : (if nI r < nI k then nI r else nI k) = nI (min r k) := by
  by_cases h : r < k
  · rw [if_pos ((nI_ltI hr hk).mpr h), Nat.min_eq_left (by omega)]
  · rw [if_neg (fun q => h ((nI_ltI hr hk).mp q)), Nat.min_eq_right (by omega)]
theorem VV.push {ki : Nat → Int32} {co : Nat → Int64} {pr pa mle mel mme : Nat → Int32} {n r L p : Nat} (h : VV ki co pr pa mle mel mme n) (hr : r < n) (h4 : ki r = 4) (hp : p < r) (hL : L < 8) (eL : mle r = nI L) :
    VV ki co (upd pr r (pr r ||| (1 <<< (nI L &&& 31)))) (upd pa (r * 12 + L) (nI p)) (upd mle r (nI (L + 1))) (upd mel (8 * r + L) (nI p)) mme n := by
  obtain ⟨h1, h2, h3, hR, h5⟩ := h
  have vp : vp_in (nI p) 40 := vp_in_nI (by omega) (by decide)
  refine ⟨h1, fun j hj => ?_, fun j hj => ?_, fun v hv => ?_, fun v hv => ?_⟩
  · by_cases e : j = r * 12 + L
    · subst e; rw [upd_at]; exact vp
    · rw [upd_ne e]; exact h2 j hj
  · by_cases e : j = 8 * r + L
    · subst e; rw [upd_at]; exact vp
    · rw [upd_ne e]; exact h3 j hj
  · obtain ⟨_, _, b3, b4, b5⟩ := hR v hv
    by_cases e : v = r
    · subst e
      obtain ⟨s1, s2⟩ := bset b3 (L := L) (by omega)
      rw [upd_at, upd_at]
      rcases b5 with ⟨_, ⟨L', hL', eL', hb, hm⟩, hme⟩ | ⟨q, _⟩
      · obtain rfl : L = L' := (nI_eq (by omega) (by omega)).mp (eL.symm.trans eL')
        refine ⟨rfl, rfl, s1, fun i hi q => ?_, Or.inl ⟨h4, ⟨L + 1, by omega, rfl, fun i hi => ?_, fun i hi => ?_⟩, hme⟩⟩
        · by_cases ei : i = L
          · subst ei; exact ⟨p, hp, upd_at⟩
          · rw [s2 i hi, decide_eq_false ei, Bool.or_false] at q
            rw [upd_ne (by omega)]; exact b4 i hi q
        · rw [s2 i hi, hb i hi, ← Bool.decide_or, decide_eq_decide]; omega
        · by_cases ei : i = L
          · subst ei; rw [upd_at, upd_at]
          · rw [upd_ne (by omega), upd_ne (by omega)]; exact hm i (by omega)
      · exact absurd h4 q
    · rw [upd_ne e, upd_ne e]
      refine ⟨rfl, rfl, b3, fun i hi q => by rw [upd_ne (by omega)]; exact b4 i hi q, ?_⟩
      rcases b5 with ⟨k4, ⟨L', hL', eL', hb, hm⟩, hme⟩ | ⟨k4, e0, hme⟩
      · exact Or.inl ⟨k4, ⟨L', hL', eL', hb, fun i hi => by rw [upd_ne (by omega), upd_ne (by omega)]; exact hm i hi⟩, hme⟩
      · exact Or.inr ⟨k4, e0, fun i hi => by rw [upd_ne (by omega)]; exact hme i hi⟩
  · obtain ⟨a1, a2, a3⟩ := h5 v hv
    exact ⟨a1, fun q => by rw [upd_ne (by omega)]; exact a2 q, a3⟩
theorem VV.put {ki : Nat → Int32} {co : Nat → Int64} {pr pa mle mel mme : Nat → Int32} {n r L p : Nat} (h : VV ki co pr pa mle mel mme n) (hr : r < n) (h4 : ki r = 5) (hp : p < r) (hL : L < 12) :
    VV ki co (upd pr r (pr r ||| (1 <<< (nI L &&& 31)))) (upd pa (r * 12 + L) (nI p)) mle mel (upd mme (12 * r + L) (nI p)) n := by
  obtain ⟨h1, h2, h3, hR, h5⟩ := h
  have vp : vp_in (nI p) 40 := vp_in_nI (by omega) (by decide)
  refine ⟨h1, fun j hj => ?_, h3, fun v hv => ?_, fun v hv => ?_⟩
  · by_cases e : j = r * 12 + L
    · subst e; rw [upd_at]; exact vp
    · rw [upd_ne e]; exact h2 j hj
  · obtain ⟨_, _, b3, b4, b5⟩ := hR v hv
    by_cases e : v = r
    · subst e
      obtain ⟨s1, s2⟩ := bset b3 (L := L) (by omega)
      rw [upd_at]
      rcases b5 with ⟨q, _⟩ | ⟨q, e0, hme⟩
      · rw [h4] at q; exact absurd q (by decide)
      · refine ⟨rfl, rfl, s1, fun i hi q => ?_, Or.inr ⟨q, e0, fun i hi => ?_⟩⟩
        · by_cases ei : i = L
          · subst ei; exact ⟨p, hp, upd_at⟩
          · rw [s2 i hi, decide_eq_false ei, Bool.or_false] at q
            rw [upd_ne (by omega)]; exact b4 i hi q
        · rw [s2 i hi]
          by_cases ei : i = L
          · subst ei; rw [upd_at, upd_at, decide_eq_true rfl, Bool.or_true, if_pos rfl]
          · rw [upd_ne (by omega), upd_ne (by omega), decide_eq_false ei, Bool.or_false]; exact hme i hi
    · rw [upd_ne e]
      refine ⟨rfl, rfl, b3, fun i hi q => by rw [upd_ne (by omega)]; exact b4 i hi q, ?_⟩
      rcases b5 with ⟨k4, ⟨L', hL', eL', hb, hm⟩, hme⟩ | ⟨k4, e0, hme⟩
      · exact Or.inl ⟨k4, ⟨L', hL', eL', hb, fun i hi => by rw [upd_ne (by omega)]; exact hm i hi⟩, fun i hi => by rw [upd_ne (by omega)]; exact hme i hi⟩
      · exact Or.inr ⟨k4, e0, fun i hi => by rw [upd_ne (by omega), upd_ne (by omega)]; exact hme i hi⟩
  · obtain ⟨a1, a2, a3⟩ := h5 v hv
    exact ⟨a1, fun q => by rw [upd_ne (by omega)]; exact a2 q, a3⟩
theorem TwOK.part {ki : Nat → Int32} {co : Nat → Int64} {pr pa tw : Nat → Int32} {k r L : Nat} {x y : Int32} (h : TwOK ki co pr pa tw k) (hL : L < 12) : TwOK ki co (upd pr r x) (upd pa (r * 12 + L) y) tw (min r k) :=
  TwOK.same (fun v hv => h v (by omega)) (fun v hv => ⟨rfl, rfl, upd_ne (by omega), fun i hi => upd_ne (by omega)⟩)
set_option maxHeartbeats 4000000 in
theorem s_L4 (ki : Nat → Int32) (co : Nat → Int64) (pr : Nat → Int32) (pa : Nat → Int32) (tw : Nat → Int32) (nv : Int32) (sv : Int32) (pn : Nat → Int32) (pl : Nat → Int32) (po : Nat → Int32) (pf : Nat → Int32) (pt : Nat → Int32) (ru : Nat → Int32) (le : Nat → Int32) (li : Nat → Int32) (bn : Nat → Int32) (ip : Nat → Int32) (aw : Nat → Int32) (ns : Int32) (ch : Nat → Int32) (ma : Nat → Int32) (br : Nat → Int64) (tl : Int32) (ou : Nat → Int64) (mki : Nat → Int32) (msz : Nat → Int64) (mle : Nat → Int32) (mel : Nat → Int32) (mme : Nat → Int32) (mal : Nat → Int32) (mic : Nat → Int32) (mil : Nat → Int32) (mio : Nat → Int32) (mab : Nat → Int32) (mae : Nat → Int32) (msa : Nat → Int32) (mlc : Nat → Int32) (mli : Nat → Int32) (mna : Nat → Int32) (mva : Nat → Int32) (mma : Nat → Int32) (mch : Nat → Int32) (mre : Nat → Int32) (mlv : Nat → Int32) (mwr : Nat → Int64) (msh : Nat → Int32) (mth : Int32) (mnv : Int32) (mns : Int32) (mfa : Int32) (mmo : Int32) (k1 k2 k3 k4 : Int32) (hI : LInv ki co pr pa tw nv sv pn pl po pf pt ru le li bn ns ch ma br tl mki msz mle mel mme mic mil mio mab mae msa mlc mli mna mva mch mwr msh mnv mns mfa) : V_L4 ki co pr pa tw nv sv pn pl po pf pt ru le li bn ip aw ns ch ma br tl ou mki msz mle mel mme mal mic mil mio mab mae msa mlc mli mna mva mma mch mre mlv mwr msh mth mnv mns mfa mmo k1 k2 k3 k4 PI := by
  obtain ⟨⟨rfl, rfl, rfl, rfl, rfl, rfl, rfl, rfl, rfl, rfl, rfl, rfl, rfl⟩, n, m, k, rfl, rfl, rfl, hk, hT, hV, hS, hva, hJ⟩ := hI
  unfold V_L4
  have hn40 := hV.1
  have l1 : nI n ≤ 40 := nI_leR (n := 40) (by decide) (by omega) |>.mpr (by omega)
  have p1 : ∀ j : Nat, j < 40 → ∃ b : Nat, b < 4096 ∧ pr j = nI b := fun j hj => (hV.2.2.2.1 j hj).2.2.1
  have p2 : ∀ j : Nat, j < 40 → ∃ b : Nat, b ≤ 8 ∧ mle j = nI b := fun j hj => (hV.mvok.2.2 j hj).2.1
  rw [sKind_in hn40]
  refine ⟨⟨l1, p1⟩, fun h => ⟨⟨l1, p2⟩, fun _ => ⟨⟨rfl, rfl, rfl, rfl, rfl, rfl, rfl, rfl, rfl, rfl, rfl, rfl, rfl⟩, n, m, k, rfl, rfl, rfl, hk, hT, hV, hS, hva, hJ⟩, fun q => absurd h q⟩, fun h => ?_⟩
  obtain ⟨c1, c2⟩ := and2.mp (Classical.byContradiction h)
  obtain ⟨r, hr, rfl, k4⟩ := sKind_nI (by omega) c1
  obtain ⟨p, hp, rfl⟩ := sHas_nI (by omega) c2
  rw [nI_clamp (n := r) (by omega)]
  obtain ⟨_, _, b3, _, b5⟩ := hV.2.2.2.1 r (by omega)
  rcases b5 with ⟨_, ⟨L, hL, eL, hb, _⟩, _⟩ | ⟨q, _⟩
  case inr => exact absurd k4 q
  have eB := len_bits (by omega) b3 k4 (by omega) hb
  rw [eB, eL, upd_at]
  have q8 : (8 : Int32) ≤ nI L ↔ 8 ≤ L := nI_leL (n := 8) (by decide) (by omega)
  have w8 : nI L = 8 ↔ L = 8 := nI_eqR (n := 8) (by decide) (by omega)
  refine ⟨fun g => ⟨⟨l1, p2⟩, fun q => absurd q h, fun _ => ⟨fun _ => ⟨⟨rfl, rfl, rfl, rfl, rfl, rfl, rfl, rfl, rfl, rfl, rfl, rfl, rfl⟩, n, m, k, rfl, rfl, rfl, hk, hT, hV, hS, hva, hJ⟩, fun q => q (w8.mpr (by have := q8.mp g; omega))⟩⟩, fun g => ⟨⟨l1, p2⟩, fun q => absurd q h, fun _ => ⟨fun q => g (q8.mpr (by have := w8.mp q; omega)), fun _ => ?_⟩⟩⟩
  have hL8 : L < 8 := by have : ¬ 8 ≤ L := fun z => g (q8.mpr z); omega
  obtain ⟨s1, s2⟩ := bset b3 (L := L) (by omega)
  have eB2 : iBits (pr r ||| (1 <<< (nI L &&& 31))) = nI (L + 1) := by
    have := len_bits (ki := ki) (pr := upd pr r (pr r ||| (1 <<< (nI L &&& 31)))) (r := r) (L := L + 1) (by omega) (by rw [upd_at]; exact s1) k4 (by omega) (fun i hi => by rw [upd_at, s2 i hi, hb i hi, ← Bool.decide_or, decide_eq_decide]; omega)
    rw [upd_at] at this; exact this
  rw [eB2, show nI L + 1 = nI (L + 1) from nI_addR L 1, show nI r * 12 + nI L = nI (r * 12 + L) by rw [nI_mulR, nI_add], show 8 * nI r + nI L = nI (8 * r + L) by rw [nI_mulL, nI_add], nI_clamp (n := r * 12 + L) (by omega), nI_clamp (n := 8 * r + L) (by omega), sv_min (by omega) (by omega)]
  exact ⟨fun _ => ⟨⟨rfl, rfl, rfl, rfl, rfl, rfl, rfl, rfl, rfl, rfl, rfl, rfl, rfl⟩, n, m, min r k, rfl, rfl, rfl, by omega, hT.part (by omega), hV.push hr k4 hp hL8 eL, hS, hva, hJ⟩, fun q => q (lg0 _ _)⟩
set_option maxHeartbeats 4000000 in
theorem s_L5 (ki : Nat → Int32) (co : Nat → Int64) (pr : Nat → Int32) (pa : Nat → Int32) (tw : Nat → Int32) (nv : Int32) (sv : Int32) (pn : Nat → Int32) (pl : Nat → Int32) (po : Nat → Int32) (pf : Nat → Int32) (pt : Nat → Int32) (ru : Nat → Int32) (le : Nat → Int32) (li : Nat → Int32) (bn : Nat → Int32) (ip : Nat → Int32) (aw : Nat → Int32) (ns : Int32) (ch : Nat → Int32) (ma : Nat → Int32) (br : Nat → Int64) (tl : Int32) (ou : Nat → Int64) (mki : Nat → Int32) (msz : Nat → Int64) (mle : Nat → Int32) (mel : Nat → Int32) (mme : Nat → Int32) (mal : Nat → Int32) (mic : Nat → Int32) (mil : Nat → Int32) (mio : Nat → Int32) (mab : Nat → Int32) (mae : Nat → Int32) (msa : Nat → Int32) (mlc : Nat → Int32) (mli : Nat → Int32) (mna : Nat → Int32) (mva : Nat → Int32) (mma : Nat → Int32) (mch : Nat → Int32) (mre : Nat → Int32) (mlv : Nat → Int32) (mwr : Nat → Int64) (msh : Nat → Int32) (mth : Int32) (mnv : Int32) (mns : Int32) (mfa : Int32) (mmo : Int32) (k1 k2 k3 k4 : Int32) (hI : LInv ki co pr pa tw nv sv pn pl po pf pt ru le li bn ns ch ma br tl mki msz mle mel mme mic mil mio mab mae msa mlc mli mna mva mch mwr msh mnv mns mfa) : V_L5 ki co pr pa tw nv sv pn pl po pf pt ru le li bn ip aw ns ch ma br tl ou mki msz mle mel mme mal mic mil mio mab mae msa mlc mli mna mva mma mch mre mlv mwr msh mth mnv mns mfa mmo k1 k2 k3 k4 PI := by
  obtain ⟨⟨rfl, rfl, rfl, rfl, rfl, rfl, rfl, rfl, rfl, rfl, rfl, rfl, rfl⟩, n, m, k, rfl, rfl, rfl, hk, hT, hV, hS, hva, hJ⟩ := hI
  unfold V_L5
  have hn40 := hV.1
  have l1 : nI n ≤ 40 := nI_leR (n := 40) (by decide) (by omega) |>.mpr (by omega)
  rw [sKind_in3 hn40]
  refine ⟨l1, fun h => ⟨l1, fun _ => ⟨⟨rfl, rfl, rfl, rfl, rfl, rfl, rfl, rfl, rfl, rfl, rfl, rfl, rfl⟩, n, m, k, rfl, rfl, rfl, hk, hT, hV, hS, hva, hJ⟩, fun q => absurd h q⟩, fun h => ⟨l1, fun q => absurd q h, fun _ => ?_⟩⟩
  obtain ⟨c1, c2⟩ := and2.mp (Classical.byContradiction h)
  obtain ⟨c4, c3⟩ := and2.mp c2
  obtain ⟨r, hr, rfl, k4⟩ := sKind_nI (by omega) c1
  obtain ⟨p, hp, rfl⟩ := sHas_nI (by omega) c3
  obtain ⟨L, _, hL, rfl⟩ := sIn_nat (lo := 0) (hi := 11) (by decide) (by decide) c4
  rw [nI_clamp (n := r) (by omega), show nI r * 12 + nI L = nI (r * 12 + L) by rw [nI_mulR, nI_add], show 12 * nI r + nI L = nI (12 * r + L) by rw [nI_mulL, nI_add], nI_clamp (n := r * 12 + L) (by omega), nI_clamp (n := 12 * r + L) (by omega), sv_min (by omega) (by omega)]
  exact ⟨⟨rfl, rfl, rfl, rfl, rfl, rfl, rfl, rfl, rfl, rfl, rfl, rfl, rfl⟩, n, m, min r k, rfl, rfl, rfl, by omega, hT.part (by omega), hV.put hr k4 hp (by omega), hS, hva, hJ⟩
