/-! ===== what one call owes: the calls that make values ===== -/
theorem TwOK.same {ki ki2 : Nat → Int32} {co co2 : Nat → Int64} {pr pr2 pa pa2 tw : Nat → Int32} {k : Nat} (h : TwOK ki co pr pa tw k) (h1 : ∀ v, v < k → ki2 v = ki v ∧ co2 v = co v ∧ pr2 v = pr v ∧ ∀ i, i < 12 → pa2 (v * 12 + i) = pa (v * 12 + i)) : TwOK ki2 co2 pr2 pa2 tw k := by
  have e : ∀ v w, v < k → w < k → sAlike ki2 co2 pr2 pa2 tw v w = sAlike ki co pr pa tw v w := fun v w hv hw => by
    obtain ⟨a1, a2, a3, a4⟩ := h1 v hv
    obtain ⟨b1, b2, b3, b4⟩ := h1 w hw
    unfold sAlike
    rw [a1, a2, a3, b1, b2, b3]
    congr 1
    refine Bool.eq_iff_iff.mpr ?_
    rw [all_lt, all_lt]
    exact forall_congr' (fun i => forall_congr' (fun hi => by rw [a4 i hi, b4 i hi]))
  intro v hv
  obtain ⟨t, q1, q2, q3, q4⟩ := h v hv
  exact ⟨t, q1, q2, fun z => by rw [e v t hv (by omega)]; exact q3 z, fun w hw => by rw [e v w hv (by omega)]; exact q4 w hw⟩
theorem okk_add {ki ki2 : Nat → Int32} {co co2 : Nat → Int64} {n k : Nat} {x : Int32} (h : okk ki co n k x) (hki : ∀ q, q < n → ki2 q = ki q) (hco : ∀ q, q < n → co2 q = co q) : okk ki2 co2 (n + 1) k x := by
  rcases h with h | ⟨q, e, a1, a2, a3, a4, a5, a6, a7, a8, a9⟩
  · exact Or.inl h
  · refine Or.inr ⟨q, e, a1, a2, fun z => by have := a3 z; omega, fun z => ?_, fun z1 z2 => by have := a5 z1 z2; omega, fun z => ?_, a7, a8, a9⟩
    · have := a4 z; exact ⟨by omega, by rw [hki q this.1]; exact this.2⟩
    · have := a5 (by omega) (by omega); rw [hco q this]; exact a6 z
theorem SS.add {ki ki2 : Nat → Int32} {co co2 : Nat → Int64} {pn po ru le li bn : Nat → Int32} {n m : Nat} (hS : SS ki co pn po ru le li bn n m) (hki : ∀ q, q < n → ki2 q = ki q) (hco : ∀ q, q < n → co2 q = co q) : SS ki2 co2 pn po ru le li bn (n + 1) m := by
  obtain ⟨s1, s2, s3, s4, s5, s6, s7⟩ := hS
  exact ⟨s1, s2, s3, s4, fun s k hs hk => okk_add (s5 s k hs hk) hki hco, s6, s7⟩
theorem VV.add {ki : Nat → Int32} {co : Nat → Int64} {pr pa mle mel mme : Nat → Int32} {n : Nat} (h : VV ki co pr pa mle mel mme n) (hn : n < 40) {kk : Nat} (hk : kk < 6) {c : Int64} (hc : kk = 3 → ∃ t, t < 2 ^ 31 ∧ told 8 t = true ∧ c = (nI t).toInt64) : VV (upd ki n (nI kk)) (vp_updL co n c) pr pa mle mel mme (n + 1) := by
  obtain ⟨h1, h2, h3, hR, h5⟩ := h
  refine ⟨hn, h2, h3, fun v hv => ?_, fun v hv => ?_⟩
  · by_cases e : v = n
    · subst e
      rw [upd_at, updL_at]
      obtain ⟨_, _, b3, b4, b5⟩ := hR v hv
      have p0 := (h5 v hv).2.1 (Nat.le_refl _)
      have nb : ∀ i, bt (pr v) i = false := fun i => by rw [p0]; exact b_0 i
      have hz : mle v = 0 ∧ ∀ i, i < 12 → mme (12 * v + i) = -1 := by
        rcases b5 with ⟨_, ⟨L, hL, eL, hb, _⟩, hm⟩ | ⟨_, eL, hm⟩
        · have q := hb 0 (by decide)
          rw [nb] at q
          have q := of_decide_eq_false q.symm
          obtain rfl : L = 0 := by omega
          exact ⟨eL, hm⟩
        · exact ⟨eL, fun i hi => by rw [hm i hi, nb, if_neg (by decide)]⟩
      refine ⟨rfl, rfl, b3, b4, ?_⟩
      by_cases e4 : kk = 4
      · subst e4
        exact Or.inl ⟨rfl, ⟨0, by decide, hz.1, fun i _ => by rw [nb]; rfl, fun i hi => absurd hi (Nat.not_lt_zero _)⟩, hz.2⟩
      · exact Or.inr ⟨fun q => e4 ((nI_eqR (n := 4) (by decide) (by omega)).mp q), hz.1, fun i hi => by rw [nb, if_neg (by decide)]; exact hz.2 i hi⟩
    · rw [upd_ne e, updL_ne e]; exact hR v hv
  · by_cases e : v = n
    · subst e
      rw [upd_at, updL_at]
      exact ⟨⟨kk, hk, rfl⟩, fun q => absurd q (by omega), fun q => hc ((nI_eqR (n := 3) (by decide) (by omega)).mp q)⟩
    · rw [upd_ne e, updL_ne e]
      obtain ⟨a1, a2, a3⟩ := h5 v hv
      exact ⟨a1, fun q => a2 (by omega), a3⟩
theorem L_add {ki : Nat → Int32} {co : Nat → Int64} {pr pa tw pn pl po pf pt ru le li bn ch ma : Nat → Int32} {br : Nat → Int64} {tl : Int32} {mle mel mme mva mch : Nat → Int32} {mwr : Nat → Int64} {msh : Nat → Int32} {mfa : Int32} {n m k : Nat} (hn : n < 40) (hk : k ≤ n) (hT : TwOK ki co pr pa tw k) (hV : VV ki co pr pa mle mel mme n) (hS : SS ki co pn po ru le li bn n m) (hva : ∀ j, j < 960 → mva j = 0 ∨ mva j = 1) (hJ : JR ch ma br tl mch mwr msh mfa) {x : Int32} {c : Int64} (hx : ∃ kk, kk < 6 ∧ x = nI kk ∧ (kk = 3 → ∃ t, t < 2 ^ 31 ∧ told 8 t = true ∧ c = (nI t).toInt64)) :
    LInv (upd ki (nI n).toNatClampNeg x) (vp_updL co (nI n).toNatClampNeg c) pr pa tw (nI n + 1) (nI k) pn pl po pf pt ru le li bn (nI m) ch ma br tl (upd ki (nI n).toNatClampNeg x) (vp_updL co (nI n).toNatClampNeg c) mle mel mme pn pl po pf pt ru le li bn mva mch mwr msh (nI n + 1) (nI m) mfa := by
  obtain ⟨kk, h1, rfl, h2⟩ := hx
  rw [nI_clamp (by omega), show nI n + 1 = nI (n + 1) from nI_addR n 1]
  exact ⟨⟨rfl, rfl, rfl, rfl, rfl, rfl, rfl, rfl, rfl, rfl, rfl, rfl, rfl⟩, n + 1, m, k, rfl, rfl, rfl, by omega, hT.same (fun v hv => ⟨upd_ne (by omega), updL_ne (by omega), rfl, fun _ _ => rfl⟩), hV.add hn h1 h2, hS.add (fun q hq => upd_ne (by omega)) (fun q hq => updL_ne (by omega)), hva, hJ⟩
theorem lg0 (f : Nat → Int64) (x : Int64) : lg_cmp (vp_updL f 0 x (0 : Int32).toNatClampNeg) x = 0 := by rw [updL0]; exact lgc_self _
theorem sText_nI {x : Int32} (h : sText x = true) : ∃ t, t < 2 ^ 31 ∧ x = nI t ∧ told 8 t = true := by
  have h0 : ¬ x < 0 := by unfold sText at h; exact of_decide_eq_true (and2.mp h).1
  obtain ⟨t, ht, rfl⟩ := of_i h0
  exact ⟨t, ht, rfl, by rw [← sText_n ht]; exact h⟩
set_option maxHeartbeats 4000000 in
theorem s_L0 (ki : Nat → Int32) (co : Nat → Int64) (pr : Nat → Int32) (pa : Nat → Int32) (tw : Nat → Int32) (nv : Int32) (sv : Int32) (pn : Nat → Int32) (pl : Nat → Int32) (po : Nat → Int32) (pf : Nat → Int32) (pt : Nat → Int32) (ru : Nat → Int32) (le : Nat → Int32) (li : Nat → Int32) (bn : Nat → Int32) (ip : Nat → Int32) (aw : Nat → Int32) (ns : Int32) (ch : Nat → Int32) (ma : Nat → Int32) (br : Nat → Int64) (tl : Int32) (ou : Nat → Int64) (mki : Nat → Int32) (msz : Nat → Int64) (mle : Nat → Int32) (mel : Nat → Int32) (mme : Nat → Int32) (mal : Nat → Int32) (mic : Nat → Int32) (mil : Nat → Int32) (mio : Nat → Int32) (mab : Nat → Int32) (mae : Nat → Int32) (msa : Nat → Int32) (mlc : Nat → Int32) (mli : Nat → Int32) (mna : Nat → Int32) (mva : Nat → Int32) (mma : Nat → Int32) (mch : Nat → Int32) (mre : Nat → Int32) (mlv : Nat → Int32) (mwr : Nat → Int64) (msh : Nat → Int32) (mth : Int32) (mnv : Int32) (mns : Int32) (mfa : Int32) (mmo : Int32) (k1 k2 k3 k4 : Int32) (hI : LInv ki co pr pa tw nv sv pn pl po pf pt ru le li bn ns ch ma br tl mki msz mle mel mme mic mil mio mab mae msa mlc mli mna mva mch mwr msh mnv mns mfa) : V_L0 ki co pr pa tw nv sv pn pl po pf pt ru le li bn ip aw ns ch ma br tl ou mki msz mle mel mme mal mic mil mio mab mae msa mlc mli mna mva mma mch mre mlv mwr msh mth mnv mns mfa mmo k1 k2 k3 k4 PI := by
  obtain ⟨⟨rfl, rfl, rfl, rfl, rfl, rfl, rfl, rfl, rfl, rfl, rfl, rfl, rfl⟩, n, m, k, rfl, rfl, rfl, hk, hT, hV, hS, hva, hJ⟩ := hI
  unfold V_L0
  have hn40 := hV.1
  have l0 : ¬ nI n < 0 := nI_pos (by omega)
  have l1 : nI n ≤ 40 := nI_leR (n := 40) (by decide) (by omega) |>.mpr (by omega)
  have e40 : nI n < 40 ↔ n < 40 := nI_ltR (n := 40) (by decide) (by omega)
  have q40 : nI n = 40 ↔ n = 40 := nI_eqR (n := 40) (by decide) (by omega)
  have f40 : ¬ nI n < 40 → nI n = 40 := fun g => q40.mpr (by have : ¬ n < 40 := fun w => g (e40.mpr w); omega)
  have g40 : ¬ ¬ nI n < 40 → n < 40 := fun g => Classical.byContradiction (fun z => g (fun w => z (e40.mp w)))
  have h40 : ¬ ¬ nI n < 40 → ¬ nI n = 40 := fun g w => by have := g40 g; have := q40.mp w; omega
  refine ⟨l0, fun h => ⟨⟨l0, l1⟩, fun _ => ⟨⟨rfl, rfl, rfl, rfl, rfl, rfl, rfl, rfl, rfl, rfl, rfl, rfl, rfl⟩, n, m, k, rfl, rfl, rfl, hk, hT, hV, hS, hva, hJ⟩, fun q => absurd h q⟩, fun h => ⟨fun g => ⟨⟨l0, l1⟩, fun q => absurd q h, fun _ => ⟨fun _ => ⟨⟨rfl, rfl, rfl, rfl, rfl, rfl, rfl, rfl, rfl, rfl, rfl, rfl, rfl⟩, n, m, k, rfl, rfl, rfl, hk, hT, hV, hS, hva, hJ⟩, fun q => q (f40 g)⟩⟩, fun g => ⟨⟨l0, l1⟩, fun q => absurd q h, fun _ => ⟨fun q => absurd q (h40 g), fun _ => ⟨fun _ => ?_, fun q => q (lg0 _ _)⟩⟩⟩⟩⟩
  exact L_add (g40 g) hk hT hV hS hva hJ ((Classical.byContradiction h).elim (fun z => ⟨0, by decide, z, fun z => absurd z (by decide)⟩) (fun z => z.elim (fun z => ⟨4, by decide, z, fun z => absurd z (by decide)⟩) (fun z => ⟨5, by decide, z, fun z => absurd z (by decide)⟩)))
set_option maxHeartbeats 4000000 in
theorem s_L1 (ki : Nat → Int32) (co : Nat → Int64) (pr : Nat → Int32) (pa : Nat → Int32) (tw : Nat → Int32) (nv : Int32) (sv : Int32) (pn : Nat → Int32) (pl : Nat → Int32) (po : Nat → Int32) (pf : Nat → Int32) (pt : Nat → Int32) (ru : Nat → Int32) (le : Nat → Int32) (li : Nat → Int32) (bn : Nat → Int32) (ip : Nat → Int32) (aw : Nat → Int32) (ns : Int32) (ch : Nat → Int32) (ma : Nat → Int32) (br : Nat → Int64) (tl : Int32) (ou : Nat → Int64) (mki : Nat → Int32) (msz : Nat → Int64) (mle : Nat → Int32) (mel : Nat → Int32) (mme : Nat → Int32) (mal : Nat → Int32) (mic : Nat → Int32) (mil : Nat → Int32) (mio : Nat → Int32) (mab : Nat → Int32) (mae : Nat → Int32) (msa : Nat → Int32) (mlc : Nat → Int32) (mli : Nat → Int32) (mna : Nat → Int32) (mva : Nat → Int32) (mma : Nat → Int32) (mch : Nat → Int32) (mre : Nat → Int32) (mlv : Nat → Int32) (mwr : Nat → Int64) (msh : Nat → Int32) (mth : Int32) (mnv : Int32) (mns : Int32) (mfa : Int32) (mmo : Int32) (k1 k2 k3 k4 : Int32) (hI : LInv ki co pr pa tw nv sv pn pl po pf pt ru le li bn ns ch ma br tl mki msz mle mel mme mic mil mio mab mae msa mlc mli mna mva mch mwr msh mnv mns mfa) : V_L1 ki co pr pa tw nv sv pn pl po pf pt ru le li bn ip aw ns ch ma br tl ou mki msz mle mel mme mal mic mil mio mab mae msa mlc mli mna mva mma mch mre mlv mwr msh mth mnv mns mfa mmo k1 k2 k3 k4 PI := by
  obtain ⟨⟨rfl, rfl, rfl, rfl, rfl, rfl, rfl, rfl, rfl, rfl, rfl, rfl, rfl⟩, n, m, k, rfl, rfl, rfl, hk, hT, hV, hS, hva, hJ⟩ := hI
  unfold V_L1
  have hn40 := hV.1
  have l0 : ¬ nI n < 0 := nI_pos (by omega)
  have l1 : nI n ≤ 40 := nI_leR (n := 40) (by decide) (by omega) |>.mpr (by omega)
  have e40 : nI n < 40 ↔ n < 40 := nI_ltR (n := 40) (by decide) (by omega)
  have q40 : nI n = 40 ↔ n = 40 := nI_eqR (n := 40) (by decide) (by omega)
  have f40 : ¬ nI n < 40 → nI n = 40 := fun g => q40.mpr (by have : ¬ n < 40 := fun w => g (e40.mpr w); omega)
  have g40 : ¬ ¬ nI n < 40 → n < 40 := fun g => Classical.byContradiction (fun z => g (fun w => z (e40.mp w)))
  have h40 : ¬ ¬ nI n < 40 → ¬ nI n = 40 := fun g w => by have := g40 g; have := q40.mp w; omega
  refine ⟨fun h0 => ⟨l0, fun g => ⟨fun _ => ⟨⟨l0, l1⟩, fun _ => ⟨⟨rfl, rfl, rfl, rfl, rfl, rfl, rfl, rfl, rfl, rfl, rfl, rfl, rfl⟩, n, m, k, rfl, rfl, rfl, hk, hT, hV, hS, hva, hJ⟩, fun q => q (f40 g)⟩, fun q => absurd h0 q⟩, fun g => ⟨fun _ => ⟨⟨l0, l1⟩, fun q => absurd q (h40 g), fun _ => ⟨fun _ => L_add (g40 g) hk hT hV hS hva hJ ⟨1, by decide, rfl, fun z => absurd z (by decide)⟩, fun q => q (lg0 _ _)⟩⟩, fun q => absurd h0 q⟩⟩, fun h0 => ⟨l0, fun g => ⟨fun q => absurd q h0, fun _ => ⟨⟨l0, l1⟩, fun _ => ⟨⟨rfl, rfl, rfl, rfl, rfl, rfl, rfl, rfl, rfl, rfl, rfl, rfl, rfl⟩, n, m, k, rfl, rfl, rfl, hk, hT, hV, hS, hva, hJ⟩, fun q => q (f40 g)⟩⟩, fun g => ⟨fun q => absurd q h0, fun _ => ⟨⟨l0, l1⟩, fun q => absurd q (h40 g), fun _ => ⟨fun _ => L_add (g40 g) hk hT hV hS hva hJ ⟨1, by decide, rfl, fun z => absurd z (by decide)⟩, fun q => q (lg0 _ _)⟩⟩⟩⟩⟩
set_option maxHeartbeats 4000000 in
theorem s_L2 (ki : Nat → Int32) (co : Nat → Int64) (pr : Nat → Int32) (pa : Nat → Int32) (tw : Nat → Int32) (nv : Int32) (sv : Int32) (pn : Nat → Int32) (pl : Nat → Int32) (po : Nat → Int32) (pf : Nat → Int32) (pt : Nat → Int32) (ru : Nat → Int32) (le : Nat → Int32) (li : Nat → Int32) (bn : Nat → Int32) (ip : Nat → Int32) (aw : Nat → Int32) (ns : Int32) (ch : Nat → Int32) (ma : Nat → Int32) (br : Nat → Int64) (tl : Int32) (ou : Nat → Int64) (mki : Nat → Int32) (msz : Nat → Int64) (mle : Nat → Int32) (mel : Nat → Int32) (mme : Nat → Int32) (mal : Nat → Int32) (mic : Nat → Int32) (mil : Nat → Int32) (mio : Nat → Int32) (mab : Nat → Int32) (mae : Nat → Int32) (msa : Nat → Int32) (mlc : Nat → Int32) (mli : Nat → Int32) (mna : Nat → Int32) (mva : Nat → Int32) (mma : Nat → Int32) (mch : Nat → Int32) (mre : Nat → Int32) (mlv : Nat → Int32) (mwr : Nat → Int64) (msh : Nat → Int32) (mth : Int32) (mnv : Int32) (mns : Int32) (mfa : Int32) (mmo : Int32) (k1 k2 k3 k4 : Int32) (hI : LInv ki co pr pa tw nv sv pn pl po pf pt ru le li bn ns ch ma br tl mki msz mle mel mme mic mil mio mab mae msa mlc mli mna mva mch mwr msh mnv mns mfa) : V_L2 ki co pr pa tw nv sv pn pl po pf pt ru le li bn ip aw ns ch ma br tl ou mki msz mle mel mme mal mic mil mio mab mae msa mlc mli mna mva mma mch mre mlv mwr msh mth mnv mns mfa mmo k1 k2 k3 k4 PI := by
  obtain ⟨⟨rfl, rfl, rfl, rfl, rfl, rfl, rfl, rfl, rfl, rfl, rfl, rfl, rfl⟩, n, m, k, rfl, rfl, rfl, hk, hT, hV, hS, hva, hJ⟩ := hI
  unfold V_L2
  have hn40 := hV.1
  have l0 : ¬ nI n < 0 := nI_pos (by omega)
  have l1 : nI n ≤ 40 := nI_leR (n := 40) (by decide) (by omega) |>.mpr (by omega)
  have e40 : nI n < 40 ↔ n < 40 := nI_ltR (n := 40) (by decide) (by omega)
  have q40 : nI n = 40 ↔ n = 40 := nI_eqR (n := 40) (by decide) (by omega)
  have f40 : ¬ nI n < 40 → nI n = 40 := fun g => q40.mpr (by have : ¬ n < 40 := fun w => g (e40.mpr w); omega)
  have g40 : ¬ ¬ nI n < 40 → n < 40 := fun g => Classical.byContradiction (fun z => g (fun w => z (e40.mp w)))
  have h40 : ¬ ¬ nI n < 40 → ¬ nI n = 40 := fun g w => by have := g40 g; have := q40.mp w; omega
  refine ⟨l0, fun h => ⟨⟨l0, l1⟩, fun _ => ⟨⟨rfl, rfl, rfl, rfl, rfl, rfl, rfl, rfl, rfl, rfl, rfl, rfl, rfl⟩, n, m, k, rfl, rfl, rfl, hk, hT, hV, hS, hva, hJ⟩, fun q => absurd h q⟩, fun h => ⟨fun g => ⟨⟨l0, l1⟩, fun q => absurd q h, fun _ => ⟨fun _ => ⟨⟨rfl, rfl, rfl, rfl, rfl, rfl, rfl, rfl, rfl, rfl, rfl, rfl, rfl⟩, n, m, k, rfl, rfl, rfl, hk, hT, hV, hS, hva, hJ⟩, fun q => q (f40 g)⟩⟩, fun g => ⟨⟨l0, l1⟩, fun q => absurd q h, fun _ => ⟨fun q => absurd q (h40 g), fun _ => ⟨fun _ => ?_, fun q => q (lg0 _ _)⟩⟩⟩⟩⟩
  exact L_add (g40 g) hk hT hV hS hva hJ (⟨2, by decide, rfl, fun z => absurd z (by decide)⟩)
set_option maxHeartbeats 4000000 in
theorem s_L3 (ki : Nat → Int32) (co : Nat → Int64) (pr : Nat → Int32) (pa : Nat → Int32) (tw : Nat → Int32) (nv : Int32) (sv : Int32) (pn : Nat → Int32) (pl : Nat → Int32) (po : Nat → Int32) (pf : Nat → Int32) (pt : Nat → Int32) (ru : Nat → Int32) (le : Nat → Int32) (li : Nat → Int32) (bn : Nat → Int32) (ip : Nat → Int32) (aw : Nat → Int32) (ns : Int32) (ch : Nat → Int32) (ma : Nat → Int32) (br : Nat → Int64) (tl : Int32) (ou : Nat → Int64) (mki : Nat → Int32) (msz : Nat → Int64) (mle : Nat → Int32) (mel : Nat → Int32) (mme : Nat → Int32) (mal : Nat → Int32) (mic : Nat → Int32) (mil : Nat → Int32) (mio : Nat → Int32) (mab : Nat → Int32) (mae : Nat → Int32) (msa : Nat → Int32) (mlc : Nat → Int32) (mli : Nat → Int32) (mna : Nat → Int32) (mva : Nat → Int32) (mma : Nat → Int32) (mch : Nat → Int32) (mre : Nat → Int32) (mlv : Nat → Int32) (mwr : Nat → Int64) (msh : Nat → Int32) (mth : Int32) (mnv : Int32) (mns : Int32) (mfa : Int32) (mmo : Int32) (k1 k2 k3 k4 : Int32) (hI : LInv ki co pr pa tw nv sv pn pl po pf pt ru le li bn ns ch ma br tl mki msz mle mel mme mic mil mio mab mae msa mlc mli mna mva mch mwr msh mnv mns mfa) : V_L3 ki co pr pa tw nv sv pn pl po pf pt ru le li bn ip aw ns ch ma br tl ou mki msz mle mel mme mal mic mil mio mab mae msa mlc mli mna mva mma mch mre mlv mwr msh mth mnv mns mfa mmo k1 k2 k3 k4 PI := by
  obtain ⟨⟨rfl, rfl, rfl, rfl, rfl, rfl, rfl, rfl, rfl, rfl, rfl, rfl, rfl⟩, n, m, k, rfl, rfl, rfl, hk, hT, hV, hS, hva, hJ⟩ := hI
  unfold V_L3
  have hn40 := hV.1
  have l0 : ¬ nI n < 0 := nI_pos (by omega)
  have l1 : nI n ≤ 40 := nI_leR (n := 40) (by decide) (by omega) |>.mpr (by omega)
  have e40 : nI n < 40 ↔ n < 40 := nI_ltR (n := 40) (by decide) (by omega)
  have q40 : nI n = 40 ↔ n = 40 := nI_eqR (n := 40) (by decide) (by omega)
  have f40 : ¬ nI n < 40 → nI n = 40 := fun g => q40.mpr (by have : ¬ n < 40 := fun w => g (e40.mpr w); omega)
  have g40 : ¬ ¬ nI n < 40 → n < 40 := fun g => Classical.byContradiction (fun z => g (fun w => z (e40.mp w)))
  have h40 : ¬ ¬ nI n < 40 → ¬ nI n = 40 := fun g w => by have := g40 g; have := q40.mp w; omega
  refine ⟨l0, fun h => ⟨⟨l0, l1⟩, fun _ => ⟨⟨rfl, rfl, rfl, rfl, rfl, rfl, rfl, rfl, rfl, rfl, rfl, rfl, rfl⟩, n, m, k, rfl, rfl, rfl, hk, hT, hV, hS, hva, hJ⟩, fun q => absurd h q⟩, fun h => ⟨fun g => ⟨⟨l0, l1⟩, fun q => absurd q h, fun _ => ⟨fun _ => ⟨⟨rfl, rfl, rfl, rfl, rfl, rfl, rfl, rfl, rfl, rfl, rfl, rfl, rfl⟩, n, m, k, rfl, rfl, rfl, hk, hT, hV, hS, hva, hJ⟩, fun q => q (f40 g)⟩⟩, fun g => ⟨⟨l0, l1⟩, fun q => absurd q h, fun _ => ⟨fun q => absurd q (h40 g), fun _ => ⟨fun _ => ?_, fun q => q (lg0 _ _)⟩⟩⟩⟩⟩
  exact L_add (g40 g) hk hT hV hS hva hJ (by obtain ⟨t, ht, et⟩ := sText_nI (Classical.byContradiction h); exact ⟨3, by decide, rfl, fun _ => ⟨t, ht, et.2, by rw [et.1]⟩⟩)
