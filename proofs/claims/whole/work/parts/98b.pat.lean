/-! ===== what one call owes: patterns and schemas ===== -/
theorem POK.item {pn po : Nat → Int32} (h : POK pn po) {p c : Nat} {x : Int32} {j : Nat} (hc : c < 6) (hx : sIn x 0 3 = true) : POK (upd pn p (nI (c + 1))) (upd po j x) := by
  refine ⟨fun q hq => ?_, fun i hi => ?_⟩
  · by_cases e : q = p
    · subst e; exact ⟨c + 1, by omega, upd_at⟩
    · rw [upd_ne e]; exact h.1 q hq
  · by_cases e : i = j
    · subst e
      obtain ⟨q, _, hq, rfl⟩ := sIn_nat (lo := 0) (hi := 3) (by decide) (by decide) hx
      rw [upd_at]
      have hq : q = 0 ∨ q = 1 ∨ q = 2 ∨ q = 3 := by omega
      rcases hq with rfl | rfl | rfl | rfl
      · exact Or.inl rfl
      · exact Or.inr (Or.inl rfl)
      · exact Or.inr (Or.inr (Or.inl rfl))
      · exact Or.inr (Or.inr (Or.inr rfl))
    · rw [upd_ne e]; exact h.2 i hi
theorem okx_up {x : Int32} {n k : Nat} (h : okx x n) (hk : n ≤ k) : okx x k := by
  rcases h with h | ⟨q, h1, h2⟩
  · exact Or.inl h
  · exact Or.inr ⟨q, by omega, h2⟩
theorem SS.grow {ki : Nat → Int32} {co : Nat → Int64} {pn po ru le li bn : Nat → Int32} {n m : Nat} (hS : SS ki co pn po ru le li bn n m) (hm : m < 24) : SS ki co pn po ru le li bn n (m + 1) := by
  obtain ⟨s1, s2, s3, s4, s5, s6, s7⟩ := hS
  refine ⟨s1, hm, s3, fun s hs => ?_, s5, s6, fun s k i h1 h2 h3 => ?_⟩
  · obtain ⟨a1, a2, a3⟩ := s4 s hs
    exact ⟨fun k h1 h2 h3 h4 => okx_up (a1 k h1 h2 h3 h4) (by omega), fun k i h1 h2 => okx_up (a2 k i h1 h2) (by omega), fun k i h1 h2 => okx_up (a3 k i h1 h2) (by omega)⟩
  · obtain ⟨q, h4, h5⟩ := s7 s k i h1 h2 h3; exact ⟨q, by omega, h5⟩
theorem takes_ok {ki : Nat → Int32} {co : Nat → Int64} {n m kk : Nat} {x : Int32} (hk : kk ≤ 28) (hn : n ≤ 40) (hm : m ≤ 24) (h : x = -1 ∨ sTakes ki co (nI n) (nI m) (nI kk) x = true) : (kk < 17 ∨ kk = 24 ∨ kk = 25 → okk ki co n kk x) ∧ (17 ≤ kk → kk ≠ 24 → kk ≠ 25 → okx x m) := by
  rcases h with h | h
  · exact ⟨fun _ => Or.inl h, fun _ _ _ => Or.inl h⟩
  have e : ∀ j : Nat, j < 2 ^ 31 → (nI kk = nI j) = (kk = j) := fun j hj => propext (nI_eq (by omega) hj)
  have e0 : (nI kk = 0) = (kk = 0) := e 0 (by decide)
  have e1 : (nI kk = 1) = (kk = 1) := e 1 (by decide)
  have e2 : (nI kk = 2) = (kk = 2) := e 2 (by decide)
  have e3 : (nI kk = 3) = (kk = 3) := e 3 (by decide)
  have e4 : (nI kk = 4) = (kk = 4) := e 4 (by decide)
  have e5 : (nI kk = 5) = (kk = 5) := e 5 (by decide)
  have e6 : (nI kk = 6) = (kk = 6) := e 6 (by decide)
  have e7 : (nI kk = 7) = (kk = 7) := e 7 (by decide)
  have e8 : (nI kk = 8) = (kk = 8) := e 8 (by decide)
  have e9 : (nI kk = 9) = (kk = 9) := e 9 (by decide)
  have e10 : (nI kk = 10) = (kk = 10) := e 10 (by decide)
  have e11 : (nI kk = 11) = (kk = 11) := e 11 (by decide)
  have e12 : (nI kk = 12) = (kk = 12) := e 12 (by decide)
  have e13 : (nI kk = 13) = (kk = 13) := e 13 (by decide)
  have e14 : (nI kk = 14) = (kk = 14) := e 14 (by decide)
  have e15 : (nI kk = 15) = (kk = 15) := e 15 (by decide)
  have e16 : (nI kk = 16) = (kk = 16) := e 16 (by decide)
  have e24 : (nI kk = 24) = (kk = 24) := e 24 (by decide)
  have e25 : (nI kk = 25) = (kk = 25) := e 25 (by decide)
  unfold sTakes at h
  simp only [e0, e1, e2, e3, e4, e5, e6, e7, e8, e9, e10, e11, e12, e13, e14, e15, e16, e24, e25] at h
  clear e e0 e1 e2 e3 e4 e5 e6 e7 e8 e9 e10 e11 e12 e13 e14 e15 e16 e24 e25
  split at h
  · obtain ⟨q, _, hq, rfl⟩ := sIn_nat (lo := 0) (hi := 127) (by decide) (by decide) h
    exact ⟨fun _ => Or.inr ⟨q, rfl, by omega, by omega, by omega, fun _ => by omega, by omega, fun _ => by omega, by omega, by omega, by omega⟩, by omega⟩
  split at h
  · obtain ⟨q, hq, rfl⟩ := sHas_nI (by omega) h
    exact ⟨fun _ => Or.inr ⟨q, rfl, by omega, by omega, by omega, fun _ => by omega, by omega, fun _ => by omega, by omega, by omega, by omega⟩, by omega⟩
  split at h
  · obtain ⟨q, hq, rfl, hkq⟩ := sKind_nI (by omega) h
    exact ⟨fun _ => Or.inr ⟨q, rfl, by omega, by omega, by omega, fun _ => ⟨hq, hkq⟩, by omega, fun _ => by omega, by omega, by omega, by omega⟩, by omega⟩
  split at h
  · obtain ⟨q, hq, rfl, hkq⟩ := sKind_nI (by omega) h
    exact ⟨fun _ => Or.inr ⟨q, rfl, by omega, by omega, by omega, fun _ => by omega, by omega, fun _ => by omega, by omega, by omega, by omega⟩, by omega⟩
  split at h
  · obtain ⟨h, h2⟩ := and2.mp h
    obtain ⟨q, hq, rfl, hkq⟩ := sKind_nI (by omega) h
    have h2 := of_decide_eq_true h2
    rw [nI_clamp (by omega)] at h2
    exact ⟨fun _ => Or.inr ⟨q, rfl, by omega, by omega, by omega, fun _ => by omega, by omega, fun _ => h2, by omega, by omega, by omega⟩, by omega⟩
  split at h
  · obtain ⟨q, _, hq, rfl⟩ := sIn_nat (lo := 0) (hi := 12) (by decide) (by decide) h
    exact ⟨fun _ => Or.inr ⟨q, rfl, by omega, by omega, by omega, fun _ => by omega, by omega, fun _ => by omega, by omega, by omega, by omega⟩, by omega⟩
  split at h
  · obtain ⟨q, hq, rfl⟩ := sHas_nI (n := 8) (by omega) h
    exact ⟨fun _ => Or.inr ⟨q, rfl, by omega, by omega, by omega, fun _ => by omega, by omega, fun _ => by omega, by omega, by omega, by omega⟩, by omega⟩
  split at h
  · obtain ⟨q, _, hq, rfl⟩ := sIn_nat (lo := 0) (hi := 1) (by decide) (by decide) h
    exact ⟨fun _ => Or.inr ⟨q, rfl, by omega, by omega, by omega, fun _ => by omega, by omega, fun _ => by omega, by omega, by omega, by omega⟩, by omega⟩
  split at h
  · obtain ⟨q, _, hq, rfl⟩ := sIn_nat (lo := 0) (hi := 4095) (by decide) (by decide) h
    exact ⟨fun _ => Or.inr ⟨q, rfl, by omega, by omega, by omega, fun _ => by omega, by omega, fun _ => by omega, by omega, by omega, by omega⟩, by omega⟩
  · obtain ⟨q, hq, rfl⟩ := sHas_nI (by omega) h
    exact ⟨by omega, fun _ _ _ => Or.inr ⟨q, hq, rfl⟩⟩
theorem SS.rule {ki : Nat → Int32} {co : Nat → Int64} {pn po ru le li bn : Nat → Int32} {n m s0 kk : Nat} {x : Int32} (hS : SS ki co pn po ru le li bn n m) (hk : kk ≤ 28) (hn : n ≤ 40) (h : x = -1 ∨ sTakes ki co (nI n) (nI m) (nI kk) x = true) : SS ki co pn po (upd ru (s0 * 29 + kk) x) le li bn n m := by
  obtain ⟨s1, s2, s3, s4, s5, s6, s7⟩ := hS
  obtain ⟨t1, t2⟩ := takes_ok hk hn s2 h
  refine ⟨s1, s2, s3, fun s hs => ?_, fun s k hs hkk => ?_, s6, s7⟩
  · obtain ⟨a1, a2, a3⟩ := s4 s hs
    refine ⟨fun k h1 h2 h3 h4 => ?_, a2, a3⟩
    by_cases e : s * 29 + k = s0 * 29 + kk
    · obtain rfl : k = kk := by omega
      rw [e, upd_at]; exact t2 h1 h3 h4
    · rw [upd_ne e]; exact a1 k h1 h2 h3 h4
  · by_cases e : s * 29 + k = s0 * 29 + kk
    · obtain rfl : k = kk := by omega
      rw [e, upd_at]; exact t1 hkk
    · rw [upd_ne e]; exact s5 s k hs hkk
theorem SS.list {ki : Nat → Int32} {co : Nat → Int64} {pn po ru le li bn : Nat → Int32} {n m s0 kk L q : Nat} (hS : SS ki co pn po ru le li bn n m) (hk : kk < 4) (hL : L < 3) (eL : le (s0 * 4 + kk) = nI L) (hq : q < m) : SS ki co pn po ru (upd le (s0 * 4 + kk) (nI (L + 1))) (upd li ((s0 * 4 + kk) * 3 + L) (nI q)) bn n m := by
  obtain ⟨s1, s2, s3, s4, s5, s6, s7⟩ := hS
  have key : ∀ s k i, s < 24 → k < 4 → i < (upd le (s0 * 4 + kk) (nI (L + 1)) (s * 4 + k)).toNatClampNeg → ∃ r, r < m ∧ upd li ((s0 * 4 + kk) * 3 + L) (nI q) ((s * 4 + k) * 3 + i) = nI r := fun s k i h1 h2 h3 => by
    by_cases e : s * 4 + k = s0 * 4 + kk
    · rw [e] at h3 ⊢
      rw [upd_at, nI_clamp (by omega)] at h3
      by_cases ei : i = L
      · subst ei; exact ⟨q, hq, upd_at⟩
      · rw [upd_ne (by omega)]
        obtain ⟨r, hr, er⟩ := s7 s k i h1 h2 (by rw [e, eL, nI_clamp (by omega)]; omega)
        exact ⟨r, hr, by rw [← e]; exact er⟩
    · rw [upd_ne e] at h3
      obtain ⟨L', hL', eL'⟩ := s3 (s * 4 + k) (by omega)
      have h4 := h3
      rw [eL', nI_clamp (by omega)] at h4
      rw [upd_ne (by omega)]
      exact s7 s k i h1 h2 h3
  refine ⟨s1, s2, fun j hj => ?_, fun s hs => ?_, s5, s6, key⟩
  · by_cases e : j = s0 * 4 + kk
    · subst e; exact ⟨L + 1, by omega, upd_at⟩
    · rw [upd_ne e]; exact s3 j hj
  · obtain ⟨a1, a2, a3⟩ := s4 s hs
    exact ⟨a1, fun k i h1 h2 => Or.inr (key s k i hs h1 h2), a3⟩
theorem SS.named {ki : Nat → Int32} {co : Nat → Int64} {pn po ru le li bn : Nat → Int32} {n m s0 c j : Nat} {x : Int32} (hS : SS ki co pn po ru le li bn n m) (hc : c < 3) (hj : j < 12) (h : x = -1 ∨ (if nI (33 + c) = 35 then sIn x 0 4095 else sHas (nI m) x) = true) : SS ki co pn po ru le li (upd bn ((s0 * 3 + c) * 12 + j) x) n m := by
  obtain ⟨s1, s2, s3, s4, s5, s6, s7⟩ := hS
  have e35 : nI (33 + c) = 35 ↔ 33 + c = 35 := nI_eqR (n := 35) (by decide) (by omega)
  refine ⟨s1, s2, s3, fun s hs => ?_, s5, fun s i h1 h2 => ?_, s7⟩
  · obtain ⟨a1, a2, a3⟩ := s4 s hs
    refine ⟨a1, a2, fun k i h1 h2 => ?_⟩
    by_cases e : (s * 3 + k) * 12 + i = (s0 * 3 + c) * 12 + j
    · rw [e, upd_at]
      rcases h with h | h
      · exact Or.inl h
      · rw [if_neg (fun z => by have := e35.mp z; omega)] at h
        obtain ⟨q, hq, rfl⟩ := sHas_nI (by omega) h
        exact Or.inr ⟨q, hq, rfl⟩
    · rw [upd_ne e]; exact a3 k i h1 h2
  · by_cases e : (s * 3 + 2) * 12 + i = (s0 * 3 + c) * 12 + j
    · rw [e, upd_at]
      rcases h with h | h
      · exact Or.inl h
      · rw [if_pos (e35.mpr (by omega))] at h
        obtain ⟨q, _, hq, rfl⟩ := sIn_nat (lo := 0) (hi := 4095) (by decide) (by decide) h
        exact Or.inr ⟨q, by omega, rfl⟩
    · rw [upd_ne e]; exact s6 s i h1 h2
set_option maxHeartbeats 4000000 in
theorem s_L6 (ki : Nat → Int32) (co : Nat → Int64) (pr : Nat → Int32) (pa : Nat → Int32) (tw : Nat → Int32) (nv : Int32) (sv : Int32) (pn : Nat → Int32) (pl : Nat → Int32) (po : Nat → Int32) (pf : Nat → Int32) (pt : Nat → Int32) (ru : Nat → Int32) (le : Nat → Int32) (li : Nat → Int32) (bn : Nat → Int32) (ip : Nat → Int32) (aw : Nat → Int32) (ns : Int32) (ch : Nat → Int32) (ma : Nat → Int32) (br : Nat → Int64) (tl : Int32) (ou : Nat → Int64) (mki : Nat → Int32) (msz : Nat → Int64) (mle : Nat → Int32) (mel : Nat → Int32) (mme : Nat → Int32) (mal : Nat → Int32) (mic : Nat → Int32) (mil : Nat → Int32) (mio : Nat → Int32) (mab : Nat → Int32) (mae : Nat → Int32) (msa : Nat → Int32) (mlc : Nat → Int32) (mli : Nat → Int32) (mna : Nat → Int32) (mva : Nat → Int32) (mma : Nat → Int32) (mch : Nat → Int32) (mre : Nat → Int32) (mlv : Nat → Int32) (mwr : Nat → Int64) (msh : Nat → Int32) (mth : Int32) (mnv : Int32) (mns : Int32) (mfa : Int32) (mmo : Int32) (k1 k2 k3 k4 : Int32) (hI : LInv ki co pr pa tw nv sv pn pl po pf pt ru le li bn ns ch ma br tl mki msz mle mel mme mic mil mio mab mae msa mlc mli mna mva mch mwr msh mnv mns mfa) : V_L6 ki co pr pa tw nv sv pn pl po pf pt ru le li bn ip aw ns ch ma br tl ou mki msz mle mel mme mal mic mil mio mab mae msa mlc mli mna mva mma mch mre mlv mwr msh mth mnv mns mfa mmo k1 k2 k3 k4 PI := by
  obtain ⟨⟨rfl, rfl, rfl, rfl, rfl, rfl, rfl, rfl, rfl, rfl, rfl, rfl, rfl⟩, n, m, k, rfl, rfl, rfl, hk, hT, hV, hS, hva, hJ⟩ := hI
  unfold V_L6
  have hp := hS.1.1
  rw [in8]
  refine ⟨hp, fun h => ⟨hp, fun _ => ⟨⟨rfl, rfl, rfl, rfl, rfl, rfl, rfl, rfl, rfl, rfl, rfl, rfl, rfl⟩, n, m, k, rfl, rfl, rfl, hk, hT, hV, hS, hva, hJ⟩, fun q => absurd h q⟩, fun h => ?_⟩
  obtain ⟨c1, c2⟩ := and2.mp (Classical.byContradiction h)
  obtain ⟨c3, c4⟩ := and2.mp c2
  obtain ⟨p, hp8, rfl⟩ := sHas_nI (n := 8) (by decide) c1
  obtain ⟨c, hc, ec⟩ := hp p hp8
  rw [nI_clamp (n := p) (by omega), ec]
  have q6 : (6 : Int32) ≤ nI c ↔ 6 ≤ c := nI_leL (n := 6) (by decide) (by omega)
  have w6 : nI c = 6 ↔ c = 6 := nI_eqR (n := 6) (by decide) (by omega)
  refine ⟨fun g => ⟨hp, fun q => absurd q h, fun _ => ⟨fun _ => ⟨⟨rfl, rfl, rfl, rfl, rfl, rfl, rfl, rfl, rfl, rfl, rfl, rfl, rfl⟩, n, m, k, rfl, rfl, rfl, hk, hT, hV, hS, hva, hJ⟩, fun q => q (w6.mpr (by have := q6.mp g; omega))⟩⟩, fun g => ⟨hp, fun q => absurd q h, fun _ => ⟨fun q => g (q6.mpr (by have := w6.mp q; omega)), fun _ => ?_⟩⟩⟩
  have hc6 : c < 6 := by have : ¬ 6 ≤ c := fun z => g (q6.mpr z); omega
  rw [show nI c + 1 = nI (c + 1) from nI_addR c 1, show 6 * nI p = nI p * 6 from Int32.mul_comm _ _]
  exact ⟨fun _ => ⟨⟨rfl, rfl, rfl, rfl, rfl, rfl, rfl, rfl, rfl, rfl, rfl, rfl, rfl⟩, n, m, k, rfl, rfl, rfl, hk, hT, hV, ⟨hS.1.item hc6 c4, hS.2⟩, hva, hJ⟩, fun q => q (lg0 _ _)⟩
set_option maxHeartbeats 4000000 in
theorem s_L7 (ki : Nat → Int32) (co : Nat → Int64) (pr : Nat → Int32) (pa : Nat → Int32) (tw : Nat → Int32) (nv : Int32) (sv : Int32) (pn : Nat → Int32) (pl : Nat → Int32) (po : Nat → Int32) (pf : Nat → Int32) (pt : Nat → Int32) (ru : Nat → Int32) (le : Nat → Int32) (li : Nat → Int32) (bn : Nat → Int32) (ip : Nat → Int32) (aw : Nat → Int32) (ns : Int32) (ch : Nat → Int32) (ma : Nat → Int32) (br : Nat → Int64) (tl : Int32) (ou : Nat → Int64) (mki : Nat → Int32) (msz : Nat → Int64) (mle : Nat → Int32) (mel : Nat → Int32) (mme : Nat → Int32) (mal : Nat → Int32) (mic : Nat → Int32) (mil : Nat → Int32) (mio : Nat → Int32) (mab : Nat → Int32) (mae : Nat → Int32) (msa : Nat → Int32) (mlc : Nat → Int32) (mli : Nat → Int32) (mna : Nat → Int32) (mva : Nat → Int32) (mma : Nat → Int32) (mch : Nat → Int32) (mre : Nat → Int32) (mlv : Nat → Int32) (mwr : Nat → Int64) (msh : Nat → Int32) (mth : Int32) (mnv : Int32) (mns : Int32) (mfa : Int32) (mmo : Int32) (k1 k2 k3 k4 : Int32) (hI : LInv ki co pr pa tw nv sv pn pl po pf pt ru le li bn ns ch ma br tl mki msz mle mel mme mic mil mio mab mae msa mlc mli mna mva mch mwr msh mnv mns mfa) : V_L7 ki co pr pa tw nv sv pn pl po pf pt ru le li bn ip aw ns ch ma br tl ou mki msz mle mel mme mal mic mil mio mab mae msa mlc mli mna mva mma mch mre mlv mwr msh mth mnv mns mfa mmo k1 k2 k3 k4 PI := by
  obtain ⟨⟨rfl, rfl, rfl, rfl, rfl, rfl, rfl, rfl, rfl, rfl, rfl, rfl, rfl⟩, n, m, k, rfl, rfl, rfl, hk, hT, hV, hS, hva, hJ⟩ := hI
  unfold V_L7
  rw [in8]
  by_cases h2 : k2 = 0
  all_goals by_cases h3 : k3 = 0
  all_goals by_cases h1 : sHas 8 k1 = true
  all_goals simp only [h1, h2, h3, not_true_eq_false, not_false_eq_true, true_implies, false_implies, and_true, true_and, forall_const, Bool.false_eq_true]
  all_goals exact ⟨⟨rfl, rfl, rfl, rfl, rfl, rfl, rfl, rfl, rfl, rfl, rfl, rfl, rfl⟩, n, m, k, rfl, rfl, rfl, hk, hT, hV, hS, hva, hJ⟩
set_option maxHeartbeats 4000000 in
theorem s_L8 (ki : Nat → Int32) (co : Nat → Int64) (pr : Nat → Int32) (pa : Nat → Int32) (tw : Nat → Int32) (nv : Int32) (sv : Int32) (pn : Nat → Int32) (pl : Nat → Int32) (po : Nat → Int32) (pf : Nat → Int32) (pt : Nat → Int32) (ru : Nat → Int32) (le : Nat → Int32) (li : Nat → Int32) (bn : Nat → Int32) (ip : Nat → Int32) (aw : Nat → Int32) (ns : Int32) (ch : Nat → Int32) (ma : Nat → Int32) (br : Nat → Int64) (tl : Int32) (ou : Nat → Int64) (mki : Nat → Int32) (msz : Nat → Int64) (mle : Nat → Int32) (mel : Nat → Int32) (mme : Nat → Int32) (mal : Nat → Int32) (mic : Nat → Int32) (mil : Nat → Int32) (mio : Nat → Int32) (mab : Nat → Int32) (mae : Nat → Int32) (msa : Nat → Int32) (mlc : Nat → Int32) (mli : Nat → Int32) (mna : Nat → Int32) (mva : Nat → Int32) (mma : Nat → Int32) (mch : Nat → Int32) (mre : Nat → Int32) (mlv : Nat → Int32) (mwr : Nat → Int64) (msh : Nat → Int32) (mth : Int32) (mnv : Int32) (mns : Int32) (mfa : Int32) (mmo : Int32) (k1 k2 k3 k4 : Int32) (hI : LInv ki co pr pa tw nv sv pn pl po pf pt ru le li bn ns ch ma br tl mki msz mle mel mme mic mil mio mab mae msa mlc mli mna mva mch mwr msh mnv mns mfa) : V_L8 ki co pr pa tw nv sv pn pl po pf pt ru le li bn ip aw ns ch ma br tl ou mki msz mle mel mme mal mic mil mio mab mae msa mlc mli mna mva mma mch mre mlv mwr msh mth mnv mns mfa mmo k1 k2 k3 k4 PI := by
  obtain ⟨⟨rfl, rfl, rfl, rfl, rfl, rfl, rfl, rfl, rfl, rfl, rfl, rfl, rfl⟩, n, m, k, rfl, rfl, rfl, hk, hT, hV, hS, hva, hJ⟩ := hI
  unfold V_L8
  have hm24 := hS.2.1
  have q24 : (24 : Int32) ≤ nI m ↔ 24 ≤ m := nI_leL (n := 24) (by decide) (by omega)
  have w24 : nI m = 24 ↔ m = 24 := nI_eqR (n := 24) (by decide) (by omega)
  refine ⟨fun g => ⟨fun _ => ⟨⟨rfl, rfl, rfl, rfl, rfl, rfl, rfl, rfl, rfl, rfl, rfl, rfl, rfl⟩, n, m, k, rfl, rfl, rfl, hk, hT, hV, hS, hva, hJ⟩, fun q => q (w24.mpr (by have := q24.mp g; omega))⟩, fun g => ⟨fun q => g (q24.mpr (by have := w24.mp q; omega)), fun _ => ⟨fun _ => ?_, fun q => q (lg0 _ _)⟩⟩⟩
  have hm : m < 24 := by have : ¬ 24 ≤ m := fun z => g (q24.mpr z); omega
  rw [show nI m + 1 = nI (m + 1) from nI_addR m 1]
  exact ⟨⟨rfl, rfl, rfl, rfl, rfl, rfl, rfl, rfl, rfl, rfl, rfl, rfl, rfl⟩, n, m + 1, k, rfl, rfl, rfl, hk, hT, hV, hS.grow hm, hva, hJ⟩
set_option maxHeartbeats 4000000 in
theorem s_L9 (ki : Nat → Int32) (co : Nat → Int64) (pr : Nat → Int32) (pa : Nat → Int32) (tw : Nat → Int32) (nv : Int32) (sv : Int32) (pn : Nat → Int32) (pl : Nat → Int32) (po : Nat → Int32) (pf : Nat → Int32) (pt : Nat → Int32) (ru : Nat → Int32) (le : Nat → Int32) (li : Nat → Int32) (bn : Nat → Int32) (ip : Nat → Int32) (aw : Nat → Int32) (ns : Int32) (ch : Nat → Int32) (ma : Nat → Int32) (br : Nat → Int64) (tl : Int32) (ou : Nat → Int64) (mki : Nat → Int32) (msz : Nat → Int64) (mle : Nat → Int32) (mel : Nat → Int32) (mme : Nat → Int32) (mal : Nat → Int32) (mic : Nat → Int32) (mil : Nat → Int32) (mio : Nat → Int32) (mab : Nat → Int32) (mae : Nat → Int32) (msa : Nat → Int32) (mlc : Nat → Int32) (mli : Nat → Int32) (mna : Nat → Int32) (mva : Nat → Int32) (mma : Nat → Int32) (mch : Nat → Int32) (mre : Nat → Int32) (mlv : Nat → Int32) (mwr : Nat → Int64) (msh : Nat → Int32) (mth : Int32) (mnv : Int32) (mns : Int32) (mfa : Int32) (mmo : Int32) (k1 k2 k3 k4 : Int32) (hI : LInv ki co pr pa tw nv sv pn pl po pf pt ru le li bn ns ch ma br tl mki msz mle mel mme mic mil mio mab mae msa mlc mli mna mva mch mwr msh mnv mns mfa) : V_L9 ki co pr pa tw nv sv pn pl po pf pt ru le li bn ip aw ns ch ma br tl ou mki msz mle mel mme mal mic mil mio mab mae msa mlc mli mna mva mma mch mre mlv mwr msh mth mnv mns mfa mmo k1 k2 k3 k4 PI := by
  obtain ⟨⟨rfl, rfl, rfl, rfl, rfl, rfl, rfl, rfl, rfl, rfl, rfl, rfl, rfl⟩, n, m, k, rfl, rfl, rfl, hk, hT, hV, hS, hva, hJ⟩ := hI
  unfold V_L9
  have hn40 := hV.1
  have hm24 := hS.2.1
  have l1 : nI n ≤ 40 := nI_leR (n := 40) (by decide) (by omega) |>.mpr (by omega)
  have l2 : nI m ≤ 24 := nI_leR (n := 24) (by decide) (by omega) |>.mpr (by omega)
  refine ⟨⟨l1, l2⟩, fun h => ⟨⟨l1, l2⟩, fun _ => ⟨⟨rfl, rfl, rfl, rfl, rfl, rfl, rfl, rfl, rfl, rfl, rfl, rfl, rfl⟩, n, m, k, rfl, rfl, rfl, hk, hT, hV, hS, hva, hJ⟩, fun q => absurd h q⟩, fun h => ⟨⟨l1, l2⟩, fun q => absurd q h, fun _ => ?_⟩⟩
  obtain ⟨c1, c2⟩ := Classical.byContradiction h
  obtain ⟨c3, c4⟩ := and2.mp c1
  obtain ⟨s0, hs, rfl⟩ := sHas_nI (by omega) c3
  obtain ⟨kk, _, hkk, rfl⟩ := sIn_nat (lo := 0) (hi := 28) (by decide) (by decide) c4
  rw [show 29 * nI s0 = nI s0 * 29 from Int32.mul_comm _ _, show nI s0 * 29 + nI kk = nI (s0 * 29 + kk) by rw [nI_mulR, nI_add], nI_clamp (n := s0 * 29 + kk) (by omega)]
  exact ⟨⟨rfl, rfl, rfl, rfl, rfl, rfl, rfl, rfl, rfl, rfl, rfl, rfl, rfl⟩, n, m, k, rfl, rfl, rfl, hk, hT, hV, hS.rule hkk hn40 c2, hva, hJ⟩
set_option maxHeartbeats 4000000 in
theorem s_L10 (ki : Nat → Int32) (co : Nat → Int64) (pr : Nat → Int32) (pa : Nat → Int32) (tw : Nat → Int32) (nv : Int32) (sv : Int32) (pn : Nat → Int32) (pl : Nat → Int32) (po : Nat → Int32) (pf : Nat → Int32) (pt : Nat → Int32) (ru : Nat → Int32) (le : Nat → Int32) (li : Nat → Int32) (bn : Nat → Int32) (ip : Nat → Int32) (aw : Nat → Int32) (ns : Int32) (ch : Nat → Int32) (ma : Nat → Int32) (br : Nat → Int64) (tl : Int32) (ou : Nat → Int64) (mki : Nat → Int32) (msz : Nat → Int64) (mle : Nat → Int32) (mel : Nat → Int32) (mme : Nat → Int32) (mal : Nat → Int32) (mic : Nat → Int32) (mil : Nat → Int32) (mio : Nat → Int32) (mab : Nat → Int32) (mae : Nat → Int32) (msa : Nat → Int32) (mlc : Nat → Int32) (mli : Nat → Int32) (mna : Nat → Int32) (mva : Nat → Int32) (mma : Nat → Int32) (mch : Nat → Int32) (mre : Nat → Int32) (mlv : Nat → Int32) (mwr : Nat → Int64) (msh : Nat → Int32) (mth : Int32) (mnv : Int32) (mns : Int32) (mfa : Int32) (mmo : Int32) (k1 k2 k3 k4 : Int32) (hI : LInv ki co pr pa tw nv sv pn pl po pf pt ru le li bn ns ch ma br tl mki msz mle mel mme mic mil mio mab mae msa mlc mli mna mva mch mwr msh mnv mns mfa) : V_L10 ki co pr pa tw nv sv pn pl po pf pt ru le li bn ip aw ns ch ma br tl ou mki msz mle mel mme mal mic mil mio mab mae msa mlc mli mna mva mma mch mre mlv mwr msh mth mnv mns mfa mmo k1 k2 k3 k4 PI := by
  obtain ⟨⟨rfl, rfl, rfl, rfl, rfl, rfl, rfl, rfl, rfl, rfl, rfl, rfl, rfl⟩, n, m, k, rfl, rfl, rfl, hk, hT, hV, hS, hva, hJ⟩ := hI
  unfold V_L10
  have hm24 := hS.2.1
  have l2 : nI m ≤ 24 := nI_leR (n := 24) (by decide) (by omega) |>.mpr (by omega)
  have hle : ∀ j : Nat, j < 96 → ∃ b : Nat, b ≤ 3 ∧ le j = nI b := hS.2.2.1
  refine ⟨⟨l2, hle⟩, fun h => ⟨⟨l2, hle⟩, fun _ => ⟨⟨rfl, rfl, rfl, rfl, rfl, rfl, rfl, rfl, rfl, rfl, rfl, rfl, rfl⟩, n, m, k, rfl, rfl, rfl, hk, hT, hV, hS, hva, hJ⟩, fun q => absurd h q⟩, fun h => ?_⟩
  obtain ⟨c1, c2⟩ := and2.mp (Classical.byContradiction h)
  obtain ⟨c3, c4⟩ := and2.mp c2
  obtain ⟨s0, hs, rfl⟩ := sHas_nI (by omega) c1
  obtain ⟨q0, hq0, rfl⟩ := sHas_nI (by omega) c4
  obtain ⟨k0, hk1, hk2, rfl⟩ := sIn_nat (lo := 29) (hi := 32) (by decide) (by decide) c3
  obtain ⟨kk, rfl⟩ := Nat.exists_eq_add_of_le hk1
  rw [show 4 * nI s0 = nI s0 * 4 from Int32.mul_comm _ _, show nI s0 * 4 + nI (29 + kk) - 29 = nI (s0 * 4 + kk) by rw [Int32.mul_comm]; exact jx4, nI_clamp (n := s0 * 4 + kk) (by omega)]
  obtain ⟨L, hL, eL⟩ := hle (s0 * 4 + kk) (by omega)
  rw [eL]
  have q3 : (3 : Int32) ≤ nI L ↔ 3 ≤ L := nI_leL (n := 3) (by decide) (by omega)
  have w3 : nI L = 3 ↔ L = 3 := nI_eqR (n := 3) (by decide) (by omega)
  refine ⟨fun g => ⟨⟨l2, hle⟩, fun q => absurd q h, fun _ => ⟨fun _ => ⟨⟨rfl, rfl, rfl, rfl, rfl, rfl, rfl, rfl, rfl, rfl, rfl, rfl, rfl⟩, n, m, k, rfl, rfl, rfl, hk, hT, hV, hS, hva, hJ⟩, fun q => q (w3.mpr (by have := q3.mp g; omega))⟩⟩, fun g => ⟨⟨l2, hle⟩, fun q => absurd q h, fun _ => ⟨fun q => g (q3.mpr (by have := w3.mp q; omega)), fun _ => ?_⟩⟩⟩
  have hL3 : L < 3 := by have : ¬ 3 ≤ L := fun z => g (q3.mpr z); omega
  rw [show nI L + 1 = nI (L + 1) from nI_addR L 1, show 3 * nI (s0 * 4 + kk) = nI (s0 * 4 + kk) * 3 from Int32.mul_comm _ _, show nI (s0 * 4 + kk) * 3 + nI L = nI ((s0 * 4 + kk) * 3 + L) by rw [nI_mulR, nI_add], nI_clamp (n := (s0 * 4 + kk) * 3 + L) (by omega)]
  exact ⟨fun _ => ⟨⟨rfl, rfl, rfl, rfl, rfl, rfl, rfl, rfl, rfl, rfl, rfl, rfl, rfl⟩, n, m, k, rfl, rfl, rfl, hk, hT, hV, hS.list (by omega) hL3 eL hq0, hva, hJ⟩, fun q => q (lg0 _ _)⟩
set_option maxHeartbeats 4000000 in
theorem s_L11 (ki : Nat → Int32) (co : Nat → Int64) (pr : Nat → Int32) (pa : Nat → Int32) (tw : Nat → Int32) (nv : Int32) (sv : Int32) (pn : Nat → Int32) (pl : Nat → Int32) (po : Nat → Int32) (pf : Nat → Int32) (pt : Nat → Int32) (ru : Nat → Int32) (le : Nat → Int32) (li : Nat → Int32) (bn : Nat → Int32) (ip : Nat → Int32) (aw : Nat → Int32) (ns : Int32) (ch : Nat → Int32) (ma : Nat → Int32) (br : Nat → Int64) (tl : Int32) (ou : Nat → Int64) (mki : Nat → Int32) (msz : Nat → Int64) (mle : Nat → Int32) (mel : Nat → Int32) (mme : Nat → Int32) (mal : Nat → Int32) (mic : Nat → Int32) (mil : Nat → Int32) (mio : Nat → Int32) (mab : Nat → Int32) (mae : Nat → Int32) (msa : Nat → Int32) (mlc : Nat → Int32) (mli : Nat → Int32) (mna : Nat → Int32) (mva : Nat → Int32) (mma : Nat → Int32) (mch : Nat → Int32) (mre : Nat → Int32) (mlv : Nat → Int32) (mwr : Nat → Int64) (msh : Nat → Int32) (mth : Int32) (mnv : Int32) (mns : Int32) (mfa : Int32) (mmo : Int32) (k1 k2 k3 k4 : Int32) (hI : LInv ki co pr pa tw nv sv pn pl po pf pt ru le li bn ns ch ma br tl mki msz mle mel mme mic mil mio mab mae msa mlc mli mna mva mch mwr msh mnv mns mfa) : V_L11 ki co pr pa tw nv sv pn pl po pf pt ru le li bn ip aw ns ch ma br tl ou mki msz mle mel mme mal mic mil mio mab mae msa mlc mli mna mva mma mch mre mlv mwr msh mth mnv mns mfa mmo k1 k2 k3 k4 PI := by
  obtain ⟨⟨rfl, rfl, rfl, rfl, rfl, rfl, rfl, rfl, rfl, rfl, rfl, rfl, rfl⟩, n, m, k, rfl, rfl, rfl, hk, hT, hV, hS, hva, hJ⟩ := hI
  unfold V_L11
  have hm24 := hS.2.1
  have l2 : nI m ≤ 24 := nI_leR (n := 24) (by decide) (by omega) |>.mpr (by omega)
  refine ⟨l2, fun h => ⟨l2, fun _ => ⟨⟨rfl, rfl, rfl, rfl, rfl, rfl, rfl, rfl, rfl, rfl, rfl, rfl, rfl⟩, n, m, k, rfl, rfl, rfl, hk, hT, hV, hS, hva, hJ⟩, fun q => absurd h q⟩, fun h => ⟨l2, fun q => absurd q h, fun _ => ?_⟩⟩
  obtain ⟨c1, c2⟩ := Classical.byContradiction h
  obtain ⟨c3, c4⟩ := and2.mp c1
  obtain ⟨c5, c6⟩ := and2.mp c4
  obtain ⟨s0, hs, rfl⟩ := sHas_nI (by omega) c3
  obtain ⟨k0, hk1, hk2, rfl⟩ := sIn_nat (lo := 33) (hi := 35) (by decide) (by decide) c5
  obtain ⟨j, _, hj, rfl⟩ := sIn_nat (lo := 0) (hi := 11) (by decide) (by decide) c6
  obtain ⟨c, rfl⟩ := Nat.exists_eq_add_of_le hk1
  have i1 : (nI s0 * 3 + nI (33 + c) - 33) * 12 + nI j = nI ((s0 * 3 + c) * 12 + j) := by
    rw [nI_mulR, nI_add, nI_subR (n := 33) (by show 33 ≤ s0 * 3 + (33 + c); omega), nI_mulR, nI_add]
    exact congrArg nI (by show (s0 * 3 + (33 + c) - 33) * 12 + j = (s0 * 3 + c) * 12 + j; omega)
  have i2 : 36 * nI s0 + 12 * (nI (33 + c) - 33) + nI j = nI ((s0 * 3 + c) * 12 + j) := by
    rw [nI_subR (n := 33) (by show 33 ≤ 33 + c; omega), nI_mulL, nI_mulL, nI_add, nI_add]
    exact congrArg nI (by show 36 * s0 + 12 * (33 + c - 33) + j = (s0 * 3 + c) * 12 + j; omega)
  rw [i1, i2, nI_clamp (by omega)]
  exact ⟨⟨rfl, rfl, rfl, rfl, rfl, rfl, rfl, rfl, rfl, rfl, rfl, rfl, rfl⟩, n, m, k, rfl, rfl, rfl, hk, hT, hV, hS.named (by omega) (by omega) c2, hva, hJ⟩
