/-! ===== the model's way through the schemas ===== -/
def okx (x : Int32) (n : Nat) : Prop := x = -1 ∨ ∃ q, q < n ∧ x = nI q
theorem okx_nn {x : Int32} {n : Nat} (h : okx x n) (h0 : ¬ x < 0) : ∃ q, q < n ∧ x = nI q := by
  rcases h with h | h
  · rw [h] at h0; exact absurd neg1_lt h0
  · exact h
/-- where the schemas lead, there are schemas -/
def LdOK (ru le li bn : Nat → Int32) (n : Nat) : Prop := ∀ s, s < 24 → (∀ k, 17 ≤ k → k < 29 → k ≠ 24 → k ≠ 25 → okx (ru (s * 29 + k)) n) ∧ (∀ k i, k < 4 → i < (le (s * 4 + k)).toNatClampNeg → okx (li ((s * 4 + k) * 3 + i)) n) ∧ ∀ k i, k < 2 → i < 12 → okx (bn ((s * 3 + k) * 12 + i)) n
theorem okx_32 {x : Int32} {n : Nat} (h : okx x n) (hn : n ≤ 24) : x = -1 ∨ ∃ q, q < 32 ∧ x = nI q := by
  rcases h with h | ⟨q, hq, h⟩
  · exact Or.inl h
  · exact Or.inr ⟨q, by omega, h⟩
theorem LB_iff {ru le li bn : Nat → Int32} {n s k t : Nat} (hn : n ≤ 24) (h : LdOK ru le li bn n) (hs : s < 24) (hk : k < 4) : bt (sLB le li s k) t = true ↔ t < 32 ∧ ∃ i, i < (le (s * 4 + k)).toNatClampNeg ∧ li ((s * 4 + k) * 3 + i) = nI t := by
  unfold sLB
  rw [orN_bt]
  constructor
  · rintro ⟨i, hi, q⟩
    rw [sBitOf_bt (okx_32 ((h s hs).2.1 k i hk hi) hn)] at q
    exact ⟨q.1, i, hi, q.2⟩
  · rintro ⟨ht, i, hi, q⟩
    exact ⟨i, hi, (sBitOf_bt (okx_32 ((h s hs).2.1 k i hk hi) hn) t).mpr ⟨ht, q⟩⟩
theorem NB_iff {ru le li bn : Nat → Int32} {n s k t : Nat} (hn : n ≤ 24) (h : LdOK ru le li bn n) (hs : s < 24) (hk : k < 2) : bt (sNB bn s k) t = true ↔ t < 32 ∧ ∃ i, i < 12 ∧ bn ((s * 3 + k) * 12 + i) = nI t := by
  unfold sNB
  rw [orN_bt]
  constructor
  · rintro ⟨i, hi, q⟩
    rw [sBitOf_bt (okx_32 ((h s hs).2.2 k i hk hi) hn)] at q
    exact ⟨q.1, i, hi, q.2⟩
  · rintro ⟨ht, i, hi, q⟩
    exact ⟨i, hi, (sBitOf_bt (okx_32 ((h s hs).2.2 k i hk hi) hn) t).mpr ⟨ht, q⟩⟩
theorem RB_iff {ru le li bn : Nat → Int32} {n s lo c t : Nat} (hn : n ≤ 24) (h : LdOK ru le li bn n) (hs : s < 24) (hc : ∀ k, k < c → 17 ≤ lo + k ∧ lo + k < 29 ∧ lo + k ≠ 24 ∧ lo + k ≠ 25) : bt (orN (fun k => sBitOf (ru (s * 29 + (lo + k)))) c) t = true ↔ t < 32 ∧ ∃ j, lo ≤ j ∧ j < lo + c ∧ ru (s * 29 + j) = nI t := by
  rw [orN_bt]
  constructor
  · rintro ⟨i, hi, q⟩
    obtain ⟨c1, c2, c3, c4⟩ := hc i hi
    rw [sBitOf_bt (okx_32 ((h s hs).1 _ c1 c2 c3 c4) hn)] at q
    exact ⟨q.1, lo + i, by omega, by omega, q.2⟩
  · rintro ⟨ht, j, h1, h2, q⟩
    obtain ⟨i, rfl⟩ := Nat.exists_eq_add_of_le h1
    obtain ⟨c1, c2, c3, c4⟩ := hc i (by omega)
    exact ⟨i, by omega, (sBitOf_bt (okx_32 ((h s hs).1 _ c1 c2 c3 c4) hn) t).mpr ⟨ht, q⟩⟩
theorem LIP_iff {ru le li bn : Nat → Int32} {n s t : Nat} (hn : n ≤ 24) (h : LdOK ru le li bn n) (hs : s < 24) : bt (sLIP ru le li bn s) t = true ↔ t < 32 ∧ ((∃ j, 17 ≤ j ∧ j < 22 ∧ ru (s * 29 + j) = nI t) ∨ (∃ k i, k < 3 ∧ i < (le (s * 4 + k)).toNatClampNeg ∧ li ((s * 4 + k) * 3 + i) = nI t) ∨ ∃ i, i < 12 ∧ bn ((s * 3 + 1) * 12 + i) = nI t) := by
  unfold sLIP
  rw [b_or, b_or, Bool.or_eq_true, Bool.or_eq_true, RB_iff hn h hs (lo := 17) (c := 5) (fun k hk => by omega), NB_iff hn h hs (by decide), orN_bt]
  constructor
  · rintro ((⟨ht, q⟩ | ⟨k, hk, q⟩) | ⟨ht, q⟩)
    · exact ⟨ht, Or.inl q⟩
    · rw [LB_iff hn h hs (by omega)] at q
      obtain ⟨ht, i, hi, e⟩ := q
      exact ⟨ht, Or.inr (Or.inl ⟨k, i, hk, hi, e⟩)⟩
    · exact ⟨ht, Or.inr (Or.inr q)⟩
  · rintro ⟨ht, q | ⟨k, i, hk, hi, e⟩ | q⟩
    · exact Or.inl (Or.inl ⟨ht, q⟩)
    · exact Or.inl (Or.inr ⟨k, hk, (LB_iff hn h hs (by omega)).mpr ⟨ht, i, hi, e⟩⟩)
    · exact Or.inr ⟨ht, q⟩
theorem LAN_iff {ru le li bn : Nat → Int32} {n s t : Nat} (hn : n ≤ 24) (h : LdOK ru le li bn n) (hs : s < 24) : bt (sLIP ru le li bn s ||| sLEW ru le li bn s) t = true ↔ t < 32 ∧ ((∃ j, 17 ≤ j ∧ j < 29 ∧ j ≠ 24 ∧ j ≠ 25 ∧ ru (s * 29 + j) = nI t) ∨ (∃ k i, k < 4 ∧ i < (le (s * 4 + k)).toNatClampNeg ∧ li ((s * 4 + k) * 3 + i) = nI t) ∨ ∃ k i, k < 2 ∧ i < 12 ∧ bn ((s * 3 + k) * 12 + i) = nI t) := by
  have c22 := sBitOf_bt (okx_32 ((h s hs).1 22 (by decide) (by decide) (by decide) (by decide)) hn) t
  have c23 := sBitOf_bt (okx_32 ((h s hs).1 23 (by decide) (by decide) (by decide) (by decide)) hn) t
  rw [b_or, Bool.or_eq_true, LIP_iff hn h hs]
  unfold sLEW
  rw [b_or, b_or, b_or, b_or, Bool.or_eq_true, Bool.or_eq_true, Bool.or_eq_true, Bool.or_eq_true, RB_iff hn h hs (lo := 26) (c := 3) (fun k hk => by omega), NB_iff hn h hs (by decide), LB_iff hn h hs (by decide), c22, c23]
  constructor
  · rintro (⟨ht, ⟨j, h1, h2, e⟩ | ⟨k, i, h1, h2, e⟩ | ⟨i, h1, e⟩⟩ | ((⟨ht, i, h1, e⟩ | ⟨ht, i, h1, e⟩) | ⟨ht, e⟩ | ⟨ht, e⟩) | ⟨ht, j, h1, h2, e⟩)
    · exact ⟨ht, Or.inl ⟨j, h1, by omega, by omega, by omega, e⟩⟩
    · exact ⟨ht, Or.inr (Or.inl ⟨k, i, by omega, h2, e⟩)⟩
    · exact ⟨ht, Or.inr (Or.inr ⟨1, i, by decide, h1, e⟩)⟩
    · exact ⟨ht, Or.inr (Or.inl ⟨3, i, by decide, h1, e⟩)⟩
    · exact ⟨ht, Or.inr (Or.inr ⟨0, i, by decide, h1, e⟩)⟩
    · exact ⟨ht, Or.inl ⟨22, by decide, by decide, by decide, by decide, e⟩⟩
    · exact ⟨ht, Or.inl ⟨23, by decide, by decide, by decide, by decide, e⟩⟩
    · exact ⟨ht, Or.inl ⟨j, by omega, by omega, by omega, by omega, e⟩⟩
  · rintro ⟨ht, ⟨j, h1, h2, h3, h4, e⟩ | ⟨k, i, h1, h2, e⟩ | ⟨k, i, h1, h2, e⟩⟩
    · by_cases e1 : j < 22
      · exact Or.inl ⟨ht, Or.inl ⟨j, h1, e1, e⟩⟩
      · by_cases e2 : j = 22
        · subst e2; exact Or.inr (Or.inl (Or.inr (Or.inl ⟨ht, e⟩)))
        · by_cases e3 : j = 23
          · subst e3; exact Or.inr (Or.inl (Or.inr (Or.inr ⟨ht, e⟩)))
          · exact Or.inr (Or.inr ⟨ht, j, by omega, by omega, e⟩)
    · by_cases e1 : k = 3
      · subst e1; exact Or.inr (Or.inl (Or.inl (Or.inl ⟨ht, i, h2, e⟩)))
      · exact Or.inl ⟨ht, Or.inr (Or.inl ⟨k, i, by omega, h2, e⟩)⟩
    · by_cases e1 : k = 1
      · subst e1; exact Or.inl ⟨ht, Or.inr (Or.inr ⟨i, h2, e⟩)⟩
      · obtain rfl : k = 0 := by omega
        exact Or.inr (Or.inl (Or.inl (Or.inr ⟨ht, i, h2, e⟩)))
def RCH (x : Int32) (f : Nat → Int32) (m : Int32) (f' : Nat → Int32) (m' : Int32) : Prop :=
  ((x < 0 ∨ ¬ f x.toNatClampNeg = 0) ∧ f' = f ∧ m' = m) ∨ (¬ x < 0 ∧ f x.toNatClampNeg = 0 ∧ f' = upd f x.toNatClampNeg 1 ∧ m' = 1)
def LOW (x y : Int32) (f : Nat → Int32) (m : Int32) (f' : Nat → Int32) (m' : Int32) : Prop :=
  ((y < 0 ∨ f x.toNatClampNeg < f y.toNatClampNeg) ∧ f' = f ∧ m' = m) ∨ (¬ y < 0 ∧ ¬ f x.toNatClampNeg < f y.toNatClampNeg ∧ f' = upd f y.toNatClampNeg (f x.toNatClampNeg + 1) ∧ m' = 1)
/-- more marked, of P alone; D are among the marked -/
def MkI (P D : Nat → Prop) (f0 : Nat → Int32) (m0 : Int32) (f : Nat → Int32) (m : Int32) : Prop :=
  (∀ t, f t ≠ f0 t → P t ∧ t < 24 ∧ f0 t = 0 ∧ f t = 1) ∧ ((f = f0 ∧ m = m0) ∨ (m = 1 ∧ ∃ t, t < 24 ∧ f0 t = 0 ∧ f t ≠ 0)) ∧ ∀ t, t < 24 → D t → f t ≠ 0
theorem MkI.mono {P D D' : Nat → Prop} {f0 f : Nat → Int32} {m0 m : Int32} (h : MkI P D f0 m0 f m) (hD : ∀ t, t < 24 → D' t → D t) : MkI P D' f0 m0 f m := ⟨h.1, h.2.1, fun t ht q => h.2.2 t ht (hD t ht q)⟩
theorem MkI.step {P D D' : Nat → Prop} {f0 f f' : Nat → Int32} {m0 m m' x : Int32} (h : MkI P D f0 m0 f m) (hr : RCH x f m f' m') (hx : okx x 24) (hP : ∀ t, t < 24 → x = nI t → P t) (hD : ∀ t, t < 24 → D' t → D t ∨ x = nI t) : MkI P D' f0 m0 f' m' := by
  obtain ⟨h1, h2, h3⟩ := h
  rcases hr with ⟨q, rfl, rfl⟩ | ⟨q1, q2, rfl, rfl⟩
  · refine ⟨h1, h2, fun t ht hd => ?_⟩
    rcases hD t ht hd with d | d
    · exact h3 t ht d
    · subst d
      rw [nI_clamp (by omega)] at q
      rcases q with q | q
      · exact absurd q (nI_pos (by omega))
      · exact q
  · obtain ⟨b, hb, rfl⟩ := okx_nn hx q1
    rw [nI_clamp (by omega)] at q2 ⊢
    have fb : f0 b = 0 := by
      by_cases e : f b = f0 b
      · rw [← e]; exact q2
      · have := (h1 b e).2.2.2; rw [q2] at this; exact absurd this (by decide)
    refine ⟨fun t ht => ?_, Or.inr ⟨rfl, b, hb, fb, by rw [upd_at]; decide⟩, fun t ht hd => ?_⟩
    · by_cases e : t = b
      · subst e; exact ⟨hP t hb rfl, hb, fb, upd_at⟩
      · rw [upd_ne e] at ht ⊢; exact h1 t ht
    · by_cases e : t = b
      · subst e; rw [upd_at]; decide
      · rw [upd_ne e]
        rcases hD t ht hd with d | d
        · exact h3 t ht d
        · rw [nI_eq (by omega) (by omega)] at d; exact absurd d.symm e
def lvl (g : Nat → Int32) (t : Nat) : Nat := (g t).toNatClampNeg
/-- within a round r of lowering, from the levels g0: the edges D are done -/
def LvI (E : Nat → Nat → Prop) (r B : Nat) (g0 : Nat → Int32) (D : Nat → Nat → Prop) (g : Nat → Int32) (m : Int32) : Prop :=
  (∀ t, t < 24 → ∃ c, c ≤ B ∧ g t = nI c) ∧ (∀ t, t < 24 → lvl g0 t ≤ lvl g t ∧ (lvl g t = lvl g0 t ∨ r + 1 ≤ lvl g t)) ∧
  ((m = 0 ∧ ∀ t, t < 24 → g t = g0 t) ∨ (m = 1 ∧ ∃ t, t < 24 ∧ r + 1 ≤ lvl g t)) ∧
  (∀ ρ : Nat → Nat, (∀ a b, a < 24 → b < 24 → E a b → ρ a < ρ b) → (∀ t, t < 24 → lvl g0 t ≤ ρ t) → ∀ t, t < 24 → lvl g t ≤ ρ t) ∧
  (∀ a b, a < 24 → b < 24 → D a b → (lvl g a < lvl g b ∨ r + 1 ≤ lvl g a) ∧ (m = 0 → lvl g a < lvl g b))
theorem LvI.mono {E D D' : Nat → Nat → Prop} {r B B' : Nat} {g0 g : Nat → Int32} {m : Int32} (h : LvI E r B g0 D g m) (hB : B ≤ B') (hD : ∀ a b, a < 24 → b < 24 → D' a b → D a b) : LvI E r B' g0 D' g m := by
  obtain ⟨h1, h2, h3, h4, h5⟩ := h
  exact ⟨fun t ht => by obtain ⟨c, hc, e⟩ := h1 t ht; exact ⟨c, by omega, e⟩, h2, h3, h4, fun a b ha hb q => h5 a b ha hb (hD a b ha hb q)⟩
theorem LvI.step {E D D' : Nat → Nat → Prop} {r B a : Nat} {g0 g g' : Nat → Int32} {m m' y : Int32} (h : LvI E r B g0 D g m) (hB : B < 2 ^ 30) (ha : a < 24) (hP : ∀ a b, a < 24 → b < 24 → E a b → lvl g0 a < lvl g0 b ∨ r ≤ lvl g0 a) (hl : LOW (nI a) y g m g' m') (hy : okx y 24) (hE : ∀ b, b < 24 → y = nI b → E a b) (hD : ∀ c d, c < 24 → d < 24 → D' c d → D c d ∨ (c = a ∧ y = nI d)) : LvI E r (B + 1) g0 D' g' m' := by
  obtain ⟨h1, h2, h3, h4, h5⟩ := h
  have nl : ∀ t, t < 24 → g t = nI (lvl g t) ∧ lvl g t ≤ B := fun t ht => by
    obtain ⟨c, hc, e⟩ := h1 t ht
    unfold lvl; rw [e, nI_clamp (by omega)]; exact ⟨rfl, hc⟩
  have cmp : ∀ s t, s < 24 → t < 24 → (g s < g t ↔ lvl g s < lvl g t) := fun s t hs ht => by
    rw [(nl s hs).1, (nl t ht).1]
    have e1 : lvl g s = (nI (lvl g s)).toNatClampNeg := (nI_clamp (by have := (nl s hs).2; omega)).symm
    exact nI_ltI (by have := (nl s hs).2; omega) (by have := (nl t ht).2; omega)
  rcases hl with ⟨q, rfl, rfl⟩ | ⟨q1, q2, rfl, rfl⟩
  · refine ⟨fun t ht => ?_, h2, h3, h4, fun c d hc hd q3 => ?_⟩
    · obtain ⟨c, hc, e⟩ := h1 t ht; exact ⟨c, by omega, e⟩
    · rcases hD c d hc hd q3 with q4 | ⟨rfl, q4⟩
      · exact h5 c d hc hd q4
      · subst q4
        rw [nI_clamp (by omega), nI_clamp (by omega), cmp c d hc hd] at q
        rcases q with q | q
        · exact absurd q (nI_pos (by omega))
        · exact ⟨Or.inl q, fun _ => q⟩
  · obtain ⟨b, hb, rfl⟩ := okx_nn hy q1
    rw [nI_clamp (by omega), nI_clamp (by omega), cmp a b ha hb] at q2
    have hEab := hE b hb rfl
    rw [nI_clamp (n := a) (by omega), nI_clamp (n := b) (by omega)]
    have na := nl a ha
    have vb : upd g b (g a + 1) b = nI (lvl g a + 1) := by rw [upd_at, na.1]; exact nI_1 _
    have lb : lvl (upd g b (g a + 1)) b = lvl g a + 1 := by unfold lvl; rw [vb]; exact nI_clamp (by have := na.2; unfold lvl at this; omega)
    have lo : ∀ t, t ≠ b → lvl (upd g b (g a + 1)) t = lvl g t := fun t ht => by unfold lvl; rw [upd_ne ht]
    have hr : r ≤ lvl g a := by
      obtain ⟨k1, k2⟩ := h2 a ha
      obtain ⟨k3, k4⟩ := h2 b hb
      rcases k2 with k2 | k2
      · rcases hP a b ha hb hEab with k5 | k5 <;> omega
      · omega
    refine ⟨fun t ht => ?_, fun t ht => ?_, Or.inr ⟨rfl, b, hb, by rw [lb]; omega⟩, fun ρ p1 p2 t ht => ?_, fun c d hc hd q3 => ?_⟩
    · by_cases e : t = b
      · subst e; exact ⟨_, by have := na.2; omega, vb⟩
      · obtain ⟨c, hc, e2⟩ := h1 t ht; exact ⟨c, by omega, by rw [upd_ne e]; exact e2⟩
    · by_cases e : t = b
      · subst e; rw [lb]; have := (h2 t ht).1; exact ⟨by omega, Or.inr (by omega)⟩
      · rw [lo t e]; exact h2 t ht
    · by_cases e : t = b
      · subst e; rw [lb]
        have := h4 ρ p1 p2 a ha
        have := p1 a t ha hb hEab
        omega
      · rw [lo t e]; exact h4 ρ p1 p2 t ht
    · refine ⟨?_, fun q => absurd q (by decide)⟩
      have base : lvl g c < lvl g d ∨ r + 1 ≤ lvl g c ∨ (c = a ∧ d = b) := by
        rcases hD c d hc hd q3 with q4 | ⟨rfl, q4⟩
        · rcases (h5 c d hc hd q4).1 with q5 | q5
          · exact Or.inl q5
          · exact Or.inr (Or.inl q5)
        · rw [nI_eq (by omega) (by omega)] at q4
          exact Or.inr (Or.inr ⟨rfl, q4.symm⟩)
      by_cases e : c = b
      · subst e; rw [lb]; exact Or.inr (by omega)
      · rw [lo c e]
        by_cases e2 : d = b
        · subst e2; rw [lb]
          rcases base with q5 | q5 | ⟨rfl, _⟩
          · exact Or.inl (by omega)
          · exact Or.inr q5
          · exact Or.inl (by omega)
        · rw [lo d e2]
          rcases base with q5 | q5 | ⟨_, q5⟩
          · exact Or.inl q5
          · exact Or.inr q5
          · exact absurd q5 e2
theorem nar1 : vp_nar .boolean 1 = 1 := by decide
theorem nar0 : vp_nar .boolean 0 = 0 := by decide
theorem okx.mono {x : Int32} {n k : Nat} (h : okx x n) (hn : n ≤ k) : okx x k := by
  rcases h with h | ⟨q, hq, e⟩
  · exact Or.inl h
  · exact Or.inr ⟨q, by omega, e⟩
theorem jx29 {s k : Nat} : 29 * nI s + nI k = nI (s * 29 + k) := by rw [nI_mulL, nI_add, Nat.mul_comm]
theorem jx4 {s k : Nat} : 4 * nI s + nI (29 + k) - 29 = nI (s * 4 + k) := by
  rw [nI_mulL, nI_add, nI_subR (by omega)]; congr 1; omega
theorem jx12 {s k n : Nat} : 12 * nI s + 3 * (nI (29 + k) - 29) + nI n = nI ((s * 4 + k) * 3 + n) := by
  rw [nI_subR (by omega), nI_mulL, nI_mulL, nI_add, nI_add]; congr 1; omega
theorem jx36 {s n : Nat} : 36 * nI s + 12 * (33 - 33) + nI n = nI ((s * 3 + 0) * 12 + n) := by
  rw [show (12 * (33 - 33) : Int32) = nI 0 from by decide, nI_mulL, nI_add, nI_add]; congr 1; omega
theorem jx36' {s n : Nat} : 36 * nI s + 12 * (34 - 33) + nI n = nI ((s * 3 + 1) * 12 + n) := by
  rw [show (12 * (34 - 33) : Int32) = nI 12 from by decide, nI_mulL, nI_add, nI_add]; congr 1; omega
def V_Mo_reach (mki : Nat → Int32) (msz : Nat → Int64) (mle : Nat → Int32) (mel : Nat → Int32) (mme : Nat → Int32) (mal : Nat → Int32) (mic : Nat → Int32) (mil : Nat → Int32) (mio : Nat → Int32) (mab : Nat → Int32) (mae : Nat → Int32) (msa : Nat → Int32) (mlc : Nat → Int32) (mli : Nat → Int32) (mna : Nat → Int32) (mva : Nat → Int32) (mma : Nat → Int32) (mch : Nat → Int32) (mre : Nat → Int32) (mlv : Nat → Int32) (mwr : Nat → Int64) (msh : Nat → Int32) (mth : Int32) (mnv : Int32) (mns : Int32) (mfa : Int32) (mmo : Int32) (x : Int32) (post : (Nat → Int32) → (Nat → Int64) → (Nat → Int32) → (Nat → Int32) → (Nat → Int32) → (Nat → Int32) → (Nat → Int32) → (Nat → Int32) → (Nat → Int32) → (Nat → Int32) → (Nat → Int32) → (Nat → Int32) → (Nat → Int32) → (Nat → Int32) → (Nat → Int32) → (Nat → Int32) → (Nat → Int32) → (Nat → Int32) → (Nat → Int32) → (Nat → Int32) → (Nat → Int64) → (Nat → Int32) → Int32 → Int32 → Int32 → Int32 → Int32 → Prop) : Prop :=
  ((x < 0 → post mki msz mle mel mme mal mic mil mio mab mae msa mlc mli mna mva mma mch mre mlv mwr msh mth mnv mns mfa mmo) ∧ (¬ x < 0 → (vp_in x 24 ∧ ((¬ (mre x.toNatClampNeg) = 0 → post mki msz mle mel mme mal mic mil mio mab mae msa mlc mli mna mva mma mch mre mlv mwr msh mth mnv mns mfa mmo) ∧ ((mre x.toNatClampNeg) = 0 → (vp_in x 24 ∧ post mki msz mle mel mme mal mic mil mio mab mae msa mlc mli mna mva mma mch (upd mre x.toNatClampNeg (vp_nar .boolean 1)) mlv mwr msh mth mnv mns mfa 1))))))
set_option maxHeartbeats 4000000 in
set_option maxRecDepth 100000 in
theorem g_Mo_reach {p : Program} {l : Launch} {e : Env} {R : Room} {s : State} {m : MethodId} {args : Array Value} {below : List Frame} {meth : Method} {c : Code} {H : Heap} {locs : List Loc} {cells slots : Nat} {Q : State → Prop} {ls : Array Slot} {A : Nat → Prop} (S : CallFix p m c b_Mo_reach 2 s args W0 R_Mo) (hRf : 0 ≤ R.frames) (hRl : 0 ≤ R.locals) (hRc : cells ≤ R.cells ∧ slots ≤ R.slots) (D : va_G) (b : Nat → Nat) (cI cJ cZ : ClassId) (mki : Nat → Int32) (msz : Nat → Int64) (mle : Nat → Int32) (mel : Nat → Int32) (mme : Nat → Int32) (mal : Nat → Int32) (mic : Nat → Int32) (mil : Nat → Int32) (mio : Nat → Int32) (mab : Nat → Int32) (mae : Nat → Int32) (msa : Nat → Int32) (mlc : Nat → Int32) (mli : Nat → Int32) (mna : Nat → Int32) (mva : Nat → Int32) (mma : Nat → Int32) (mch : Nat → Int32) (mre : Nat → Int32) (mlv : Nat → Int32) (mwr : Nat → Int64) (msh : Nat → Int32) (mth : Int32) (mnv : Int32) (mns : Int32) (mfa : Int32) (mmo : Int32) (x : Int32) (hK : va_K D vwCl (tyA cI cJ cZ) s) (hP : va_P D vwCl (wM b cI cJ cZ mki msz mle mel mme mal mic mil mio mab mae msa mlc mli mna mva mma mch mre mlv mwr msh mth mnv mns mfa mmo) H) (hD : va_D A (wM b cI cJ cZ mki msz mle mel mme mal mic mil mio mab mae msa mlc mli mna mva mma mch mre mlv mwr msh mth mnv mns mfa mmo)) (hA : ∀ q, s.heap.size ≤ q → A q) (hS : va_S A s.heap H locs) (hl : lv_has ls 2 [(0, .ref (b 0)), (1, .int x)]) {post : (Nat → Int32) → (Nat → Int64) → (Nat → Int32) → (Nat → Int32) → (Nat → Int32) → (Nat → Int32) → (Nat → Int32) → (Nat → Int32) → (Nat → Int32) → (Nat → Int32) → (Nat → Int32) → (Nat → Int32) → (Nat → Int32) → (Nat → Int32) → (Nat → Int32) → (Nat → Int32) → (Nat → Int32) → (Nat → Int32) → (Nat → Int32) → (Nat → Int32) → (Nat → Int64) → (Nat → Int32) → Int32 → Int32 → Int32 → Int32 → Int32 → Prop} (vc : V_Mo_reach mki msz mle mel mme mal mic mil mio mab mae msa mlc mli mna mva mma mch mre mlv mwr msh mth mnv mns mfa mmo x post)
    (hret : ∀ (mki : Nat → Int32) (msz : Nat → Int64) (mle : Nat → Int32) (mel : Nat → Int32) (mme : Nat → Int32) (mal : Nat → Int32) (mic : Nat → Int32) (mil : Nat → Int32) (mio : Nat → Int32) (mab : Nat → Int32) (mae : Nat → Int32) (msa : Nat → Int32) (mlc : Nat → Int32) (mli : Nat → Int32) (mna : Nat → Int32) (mva : Nat → Int32) (mma : Nat → Int32) (mch : Nat → Int32) (mre : Nat → Int32) (mlv : Nat → Int32) (mwr : Nat → Int64) (msh : Nat → Int32) (mth : Int32) (mnv : Int32) (mns : Int32) (mfa : Int32) (mmo : Int32) (ls : Array Slot) (pc : Nat) (H : Heap) (locs : List Loc), decode b_Mo_reach pc = .ok (.return_, 1) → post mki msz mle mel mme mal mic mil mio mab mae msa mlc mli mna mva mma mch mre mlv mwr msh mth mnv mns mfa mmo → va_P D vwCl (wM b cI cJ cZ mki msz mle mel mme mal mic mil mio mab mae msa mlc mli mna mva mma mch mre mlv mwr msh mth mnv mns mfa mmo) H → va_D A (wM b cI cJ cZ mki msz mle mel mme mal mic mil mio mab mae msa mlc mli mna mva mma mch mre mlv mwr msh mth mnv mns mfa mmo) → va_S A s.heap H locs → W p l e R s m args below meth c H locs cells slots Q (F0 m pc ls [])) : W p l e R s m args below meth c H locs cells slots Q (F0 m 0 ls []) := by
  have hx := S.1
  have hb := S.2.1
  have hown := S.2.2.2.1
  have hts := S.2.2.2.2
  unfold V_Mo_reach at vc
  refine lv_iload_n hx hb d_Mo_reach_0 rfl (lv_at hl 1 rfl) ?_
  refine lv_if_lt (tgt := 25) hx hb d_Mo_reach_1 (by decide) (fun h => ?_) (fun h => ?_)
  · have vc := vc.1 h
    exact hret _ _ _ _ _ _ _ _ _ _ _ _ _ _ _ _ _ _ _ _ _ _ _ _ _ _ _ ls _ H locs d_Mo_reach_25 vc hP hD hS
  · have vc := vc.2 h
    refine lv_aload_n hx hb d_Mo_reach_4 rfl (lv_at hl 0 rfl) ?_
    refine va_get (D := D) (ci := 6) (v := .ref (b 19)) (C := R_Mo) (T := F_Mo) (N := 27) hx hb hts in_Mo hown hK hP 0 rfl rfl 21 (by decide) (hts _ fl_Mo_66) (fun _ h => h) rfl d_Mo_reach_5 ?_
    refine lv_iload_n hx hb d_Mo_reach_8 rfl (lv_at hl 1 rfl) ?_
    obtain ⟨vcb, vc⟩ := vc
    refine va_zald hx hb hK hP 19 2 rfl rfl vcb d_Mo_reach_9 ?_
    refine lv_if_ne (tgt := 25) hx hb d_Mo_reach_10 (by decide) (fun h => ?_) (fun h => ?_)
    · have vc := vc.1 h
      exact hret _ _ _ _ _ _ _ _ _ _ _ _ _ _ _ _ _ _ _ _ _ _ _ _ _ _ _ ls _ H locs d_Mo_reach_25 vc hP hD hS
    · have vc := vc.2 h
      refine lv_aload_n hx hb d_Mo_reach_13 rfl (lv_at hl 0 rfl) ?_
      refine va_get (D := D) (ci := 6) (v := .ref (b 19)) (C := R_Mo) (T := F_Mo) (N := 27) hx hb hts in_Mo hown hK hP 0 rfl rfl 21 (by decide) (hts _ fl_Mo_66) (fun _ h => h) rfl d_Mo_reach_14 ?_
      refine lv_iload_n hx hb d_Mo_reach_17 rfl (lv_at hl 1 rfl) ?_
      refine lv_iconst (v := 1) hx hb d_Mo_reach_18 (by decide) ?_
      obtain ⟨vcb, vc⟩ := vc
      refine va_zast hx hb hK hP hD hS 19 2 rfl rfl vcb d_Mo_reach_19 (fun H locs hP hD hS => ?_)
      have hP : va_P D vwCl (wM b cI cJ cZ mki msz mle mel mme mal mic mil mio mab mae msa mlc mli mna mva mma mch (upd mre x.toNatClampNeg (vp_nar .boolean 1)) mlv mwr msh mth mnv mns mfa mmo) H := hP
      have hD : va_D A (wM b cI cJ cZ mki msz mle mel mme mal mic mil mio mab mae msa mlc mli mna mva mma mch (upd mre x.toNatClampNeg (vp_nar .boolean 1)) mlv mwr msh mth mnv mns mfa mmo) := hD
      refine lv_aload_n hx hb d_Mo_reach_20 rfl (lv_at hl 0 rfl) ?_
      refine lv_iconst (v := 1) hx hb d_Mo_reach_21 (by decide) ?_
      refine va_put (D := D) (ci := 6) (v := .int 1) (ty := .boolean) (C := R_Mo) (T := F_Mo) (N := 27) hx hb hts in_Mo t_Mo t_Mo_ok n_Mo hown hK hP hD hS 0 rfl rfl 26 (by decide) (hts _ fl_Mo_137) (fun _ h => h) rfl (by decide +kernel) (by decide) (by decide) (Nat.le_of_ble_eq_true rfl) d_Mo_reach_22 (fun H locs hP hD hS => ?_)
      have hP : va_P D vwCl (wM b cI cJ cZ mki msz mle mel mme mal mic mil mio mab mae msa mlc mli mna mva mma mch (upd mre x.toNatClampNeg (vp_nar .boolean 1)) mlv mwr msh mth mnv mns mfa 1) H := hP
      have hD : va_D A (wM b cI cJ cZ mki msz mle mel mme mal mic mil mio mab mae msa mlc mli mna mva mma mch (upd mre x.toNatClampNeg (vp_nar .boolean 1)) mlv mwr msh mth mnv mns mfa 1) := hD
      exact hret _ _ _ _ _ _ _ _ _ _ _ _ _ _ _ _ _ _ _ _ _ _ _ _ _ _ _ ls _ H locs d_Mo_reach_25 vc hP hD hS
set_option maxHeartbeats 4000000 in
theorem v_Mo_reach (mki : Nat → Int32) (msz : Nat → Int64) (mle : Nat → Int32) (mel : Nat → Int32) (mme : Nat → Int32) (mal : Nat → Int32) (mic : Nat → Int32) (mil : Nat → Int32) (mio : Nat → Int32) (mab : Nat → Int32) (mae : Nat → Int32) (msa : Nat → Int32) (mlc : Nat → Int32) (mli : Nat → Int32) (mna : Nat → Int32) (mva : Nat → Int32) (mma : Nat → Int32) (mch : Nat → Int32) (mre : Nat → Int32) (mlv : Nat → Int32) (mwr : Nat → Int64) (msh : Nat → Int32) (mth : Int32) (mnv : Int32) (mns : Int32) (mfa : Int32) (mmo : Int32) (x : Int32) (hpre : okx x 24) : V_Mo_reach mki msz mle mel mme mal mic mil mio mab mae msa mlc mli mna mva mma mch mre mlv mwr msh mth mnv mns mfa mmo x (fun mki' msz' mle' mel' mme' mal' mic' mil' mio' mab' mae' msa' mlc' mli' mna' mva' mma' mch' mre' mlv' mwr' msh' mth' mnv' mns' mfa' mmo' => (RCH x mre mmo mre' mmo') ∧ mki' = mki ∧ msz' = msz ∧ mle' = mle ∧ mel' = mel ∧ mme' = mme ∧ mal' = mal ∧ mic' = mic ∧ mil' = mil ∧ mio' = mio ∧ mab' = mab ∧ mae' = mae ∧ msa' = msa ∧ mlc' = mlc ∧ mli' = mli ∧ mna' = mna ∧ mva' = mva ∧ mma' = mma ∧ mch' = mch ∧ mlv' = mlv ∧ mwr' = mwr ∧ msh' = msh ∧ mth' = mth ∧ mnv' = mnv ∧ mns' = mns ∧ mfa' = mfa) := by
  unfold V_Mo_reach
  have hin : ¬ x < 0 → vp_in x 24 := fun h => by
    obtain ⟨q, hq, rfl⟩ := okx_nn hpre h
    exact vp_in_nI hq (by decide)
  refine ⟨fun h => ⟨Or.inl ⟨Or.inl h, rfl, rfl⟩, rfl, rfl, rfl, rfl, rfl, rfl, rfl, rfl, rfl, rfl, rfl, rfl, rfl, rfl, rfl, rfl, rfl, rfl, rfl, rfl, rfl, rfl, rfl, rfl, rfl⟩, fun h => ⟨hin h, fun h2 => ⟨Or.inl ⟨Or.inr h2, rfl, rfl⟩, rfl, rfl, rfl, rfl, rfl, rfl, rfl, rfl, rfl, rfl, rfl, rfl, rfl, rfl, rfl, rfl, rfl, rfl, rfl, rfl, rfl, rfl, rfl, rfl, rfl⟩, fun h2 => ⟨hin h, Or.inr ⟨h, h2, by rw [nar1], rfl⟩, rfl, rfl, rfl, rfl, rfl, rfl, rfl, rfl, rfl, rfl, rfl, rfl, rfl, rfl, rfl, rfl, rfl, rfl, rfl, rfl, rfl, rfl, rfl, rfl, rfl⟩⟩⟩
theorem c_Mo_reach (l : Launch) (D : va_G) (b : Nat → Nat) (cI cJ cZ : ClassId) (mki : Nat → Int32) (msz : Nat → Int64) (mle : Nat → Int32) (mel : Nat → Int32) (mme : Nat → Int32) (mal : Nat → Int32) (mic : Nat → Int32) (mil : Nat → Int32) (mio : Nat → Int32) (mab : Nat → Int32) (mae : Nat → Int32) (msa : Nat → Int32) (mlc : Nat → Int32) (mli : Nat → Int32) (mna : Nat → Int32) (mva : Nat → Int32) (mma : Nat → Int32) (mch : Nat → Int32) (mre : Nat → Int32) (mlv : Nat → Int32) (mwr : Nat → Int64) (msh : Nat → Int32) (mth : Int32) (mnv : Int32) (mns : Int32) (mfa : Int32) (mmo : Int32) (x : Int32) (hpre : okx x 24) : Wm (S := (Nat → Int32) × Int32) l y_Mo_reach b_Mo_reach 2 none 0 0 [.ref (b 0), .int x] D (tyA cI cJ cZ) (wM b cI cJ cZ mki msz mle mel mme mal mic mil mio mab mae msa mlc mli mna mva mma mch mre mlv mwr msh mth mnv mns mfa mmo) (fun uu => RCH x mre mmo uu.1 uu.2) (fun uu => none) (fun uu => (wM b cI cJ cZ mki msz mle mel mme mal mic mil mio mab mae msa mlc mli mna mva mma mch uu.1 mlv mwr msh mth mnv mns mfa uu.2)) :=
  wm_v (by decide) (Nat.le_of_ble_eq_true rfl) (fun p e s m below meth c ls Q A S hK hP hD hA hS hl hret => g_Mo_reach S (Nat.le_refl _) (Nat.le_refl _) ⟨Nat.le_refl _, Nat.le_refl _⟩ D b cI cJ cZ mki msz mle mel mme mal mic mil mio mab mae msa mlc mli mna mva mma mch mre mlv mwr msh mth mnv mns mfa mmo x hK hP hD hA hS hl (v_Mo_reach mki msz mle mel mme mal mic mil mio mab mae msa mlc mli mna mva mma mch mre mlv mwr msh mth mnv mns mfa mmo x hpre) (fun mki' msz' mle' mel' mme' mal' mic' mil' mio' mab' mae' msa' mlc' mli' mna' mva' mma' mch' mre' mlv' mwr' msh' mth' mnv' mns' mfa' mmo' ls1 pc H1 locs1 hd hv hP1 hD1 hS1 => by obtain ⟨hp, rfl, rfl, rfl, rfl, rfl, rfl, rfl, rfl, rfl, rfl, rfl, rfl, rfl, rfl, rfl, rfl, rfl, rfl, rfl, rfl, rfl, rfl, rfl, rfl, rfl⟩ := hv; exact hret (mre', mmo') ls1 pc H1 locs1 hd hp hP1 hD1 hS1))
theorem hd_Mo_reach : y_Mo_reach.cls ≠ "java/lang/invoke/MethodHandle" ∧ y_Mo_reach.cls ≠ "java/lang/invoke/VarHandle" ∧ (parseMethodDescriptor y_Mo_reach.desc).map (fun d => d.parameters.length) = some 1 := ⟨by decide, by decide, by decide +kernel⟩
def V_Mo_lower (mki : Nat → Int32) (msz : Nat → Int64) (mle : Nat → Int32) (mel : Nat → Int32) (mme : Nat → Int32) (mal : Nat → Int32) (mic : Nat → Int32) (mil : Nat → Int32) (mio : Nat → Int32) (mab : Nat → Int32) (mae : Nat → Int32) (msa : Nat → Int32) (mlc : Nat → Int32) (mli : Nat → Int32) (mna : Nat → Int32) (mva : Nat → Int32) (mma : Nat → Int32) (mch : Nat → Int32) (mre : Nat → Int32) (mlv : Nat → Int32) (mwr : Nat → Int64) (msh : Nat → Int32) (mth : Int32) (mnv : Int32) (mns : Int32) (mfa : Int32) (mmo : Int32) (x : Int32) (y : Int32) (post : (Nat → Int32) → (Nat → Int64) → (Nat → Int32) → (Nat → Int32) → (Nat → Int32) → (Nat → Int32) → (Nat → Int32) → (Nat → Int32) → (Nat → Int32) → (Nat → Int32) → (Nat → Int32) → (Nat → Int32) → (Nat → Int32) → (Nat → Int32) → (Nat → Int32) → (Nat → Int32) → (Nat → Int32) → (Nat → Int32) → (Nat → Int32) → (Nat → Int32) → (Nat → Int64) → (Nat → Int32) → Int32 → Int32 → Int32 → Int32 → Int32 → Prop) : Prop :=
  ((y < 0 → post mki msz mle mel mme mal mic mil mio mab mae msa mlc mli mna mva mma mch mre mlv mwr msh mth mnv mns mfa mmo) ∧ (¬ y < 0 → (vp_in y 24 ∧ (vp_in x 24 ∧ (((mlv x.toNatClampNeg) < (mlv y.toNatClampNeg) → post mki msz mle mel mme mal mic mil mio mab mae msa mlc mli mna mva mma mch mre mlv mwr msh mth mnv mns mfa mmo) ∧ (¬ (mlv x.toNatClampNeg) < (mlv y.toNatClampNeg) → (vp_in x 24 ∧ (vp_in y 24 ∧ post mki msz mle mel mme mal mic mil mio mab mae msa mlc mli mna mva mma mch mre (upd mlv y.toNatClampNeg ((mlv x.toNatClampNeg) + 1)) mwr msh mth mnv mns mfa 1))))))))
set_option maxHeartbeats 4000000 in
set_option maxRecDepth 100000 in
theorem g_Mo_lower {p : Program} {l : Launch} {e : Env} {R : Room} {s : State} {m : MethodId} {args : Array Value} {below : List Frame} {meth : Method} {c : Code} {H : Heap} {locs : List Loc} {cells slots : Nat} {Q : State → Prop} {ls : Array Slot} {A : Nat → Prop} (S : CallFix p m c b_Mo_lower 3 s args W0 R_Mo) (hRf : 0 ≤ R.frames) (hRl : 0 ≤ R.locals) (hRc : cells ≤ R.cells ∧ slots ≤ R.slots) (D : va_G) (b : Nat → Nat) (cI cJ cZ : ClassId) (mki : Nat → Int32) (msz : Nat → Int64) (mle : Nat → Int32) (mel : Nat → Int32) (mme : Nat → Int32) (mal : Nat → Int32) (mic : Nat → Int32) (mil : Nat → Int32) (mio : Nat → Int32) (mab : Nat → Int32) (mae : Nat → Int32) (msa : Nat → Int32) (mlc : Nat → Int32) (mli : Nat → Int32) (mna : Nat → Int32) (mva : Nat → Int32) (mma : Nat → Int32) (mch : Nat → Int32) (mre : Nat → Int32) (mlv : Nat → Int32) (mwr : Nat → Int64) (msh : Nat → Int32) (mth : Int32) (mnv : Int32) (mns : Int32) (mfa : Int32) (mmo : Int32) (x : Int32) (y : Int32) (hK : va_K D vwCl (tyA cI cJ cZ) s) (hP : va_P D vwCl (wM b cI cJ cZ mki msz mle mel mme mal mic mil mio mab mae msa mlc mli mna mva mma mch mre mlv mwr msh mth mnv mns mfa mmo) H) (hD : va_D A (wM b cI cJ cZ mki msz mle mel mme mal mic mil mio mab mae msa mlc mli mna mva mma mch mre mlv mwr msh mth mnv mns mfa mmo)) (hA : ∀ q, s.heap.size ≤ q → A q) (hS : va_S A s.heap H locs) (hl : lv_has ls 3 [(0, .ref (b 0)), (1, .int x), (2, .int y)]) {post : (Nat → Int32) → (Nat → Int64) → (Nat → Int32) → (Nat → Int32) → (Nat → Int32) → (Nat → Int32) → (Nat → Int32) → (Nat → Int32) → (Nat → Int32) → (Nat → Int32) → (Nat → Int32) → (Nat → Int32) → (Nat → Int32) → (Nat → Int32) → (Nat → Int32) → (Nat → Int32) → (Nat → Int32) → (Nat → Int32) → (Nat → Int32) → (Nat → Int32) → (Nat → Int64) → (Nat → Int32) → Int32 → Int32 → Int32 → Int32 → Int32 → Prop} (vc : V_Mo_lower mki msz mle mel mme mal mic mil mio mab mae msa mlc mli mna mva mma mch mre mlv mwr msh mth mnv mns mfa mmo x y post)
    (hret : ∀ (mki : Nat → Int32) (msz : Nat → Int64) (mle : Nat → Int32) (mel : Nat → Int32) (mme : Nat → Int32) (mal : Nat → Int32) (mic : Nat → Int32) (mil : Nat → Int32) (mio : Nat → Int32) (mab : Nat → Int32) (mae : Nat → Int32) (msa : Nat → Int32) (mlc : Nat → Int32) (mli : Nat → Int32) (mna : Nat → Int32) (mva : Nat → Int32) (mma : Nat → Int32) (mch : Nat → Int32) (mre : Nat → Int32) (mlv : Nat → Int32) (mwr : Nat → Int64) (msh : Nat → Int32) (mth : Int32) (mnv : Int32) (mns : Int32) (mfa : Int32) (mmo : Int32) (ls : Array Slot) (pc : Nat) (H : Heap) (locs : List Loc), decode b_Mo_lower pc = .ok (.return_, 1) → post mki msz mle mel mme mal mic mil mio mab mae msa mlc mli mna mva mma mch mre mlv mwr msh mth mnv mns mfa mmo → va_P D vwCl (wM b cI cJ cZ mki msz mle mel mme mal mic mil mio mab mae msa mlc mli mna mva mma mch mre mlv mwr msh mth mnv mns mfa mmo) H → va_D A (wM b cI cJ cZ mki msz mle mel mme mal mic mil mio mab mae msa mlc mli mna mva mma mch mre mlv mwr msh mth mnv mns mfa mmo) → va_S A s.heap H locs → W p l e R s m args below meth c H locs cells slots Q (F0 m pc ls [])) : W p l e R s m args below meth c H locs cells slots Q (F0 m 0 ls []) := by
  have hx := S.1
  have hb := S.2.1
  have hown := S.2.2.2.1
  have hts := S.2.2.2.2
  unfold V_Mo_lower at vc
  refine lv_iload_n hx hb d_Mo_lower_0 rfl (lv_at hl 2 rfl) ?_
  refine lv_if_lt (tgt := 38) hx hb d_Mo_lower_1 (by decide) (fun h => ?_) (fun h => ?_)
  · have vc := vc.1 h
    exact hret _ _ _ _ _ _ _ _ _ _ _ _ _ _ _ _ _ _ _ _ _ _ _ _ _ _ _ ls _ H locs d_Mo_lower_38 vc hP hD hS
  · have vc := vc.2 h
    refine lv_aload_n hx hb d_Mo_lower_4 rfl (lv_at hl 0 rfl) ?_
    refine va_get (D := D) (ci := 6) (v := .ref (b 20)) (C := R_Mo) (T := F_Mo) (N := 27) hx hb hts in_Mo hown hK hP 0 rfl rfl 22 (by decide) (hts _ fl_Mo_69) (fun _ h => h) rfl d_Mo_lower_5 ?_
    refine lv_iload_n hx hb d_Mo_lower_8 rfl (lv_at hl 2 rfl) ?_
    obtain ⟨vcb, vc⟩ := vc
    refine va_iald hx hb hK hP 20 0 rfl rfl vcb d_Mo_lower_9 ?_
    refine lv_aload_n hx hb d_Mo_lower_10 rfl (lv_at hl 0 rfl) ?_
    refine va_get (D := D) (ci := 6) (v := .ref (b 20)) (C := R_Mo) (T := F_Mo) (N := 27) hx hb hts in_Mo hown hK hP 0 rfl rfl 22 (by decide) (hts _ fl_Mo_69) (fun _ h => h) rfl d_Mo_lower_11 ?_
    refine lv_iload_n hx hb d_Mo_lower_14 rfl (lv_at hl 1 rfl) ?_
    obtain ⟨vcb, vc⟩ := vc
    refine va_iald hx hb hK hP 20 0 rfl rfl vcb d_Mo_lower_15 ?_
    refine lv_icmp_gt (tgt := 38) hx hb d_Mo_lower_16 (by decide) (fun h => ?_) (fun h => ?_)
    · have vc := vc.1 h
      exact hret _ _ _ _ _ _ _ _ _ _ _ _ _ _ _ _ _ _ _ _ _ _ _ _ _ _ _ ls _ H locs d_Mo_lower_38 vc hP hD hS
    · have vc := vc.2 h
      refine lv_aload_n hx hb d_Mo_lower_19 rfl (lv_at hl 0 rfl) ?_
      refine va_get (D := D) (ci := 6) (v := .ref (b 20)) (C := R_Mo) (T := F_Mo) (N := 27) hx hb hts in_Mo hown hK hP 0 rfl rfl 22 (by decide) (hts _ fl_Mo_69) (fun _ h => h) rfl d_Mo_lower_20 ?_
      refine lv_iload_n hx hb d_Mo_lower_23 rfl (lv_at hl 2 rfl) ?_
      refine lv_aload_n hx hb d_Mo_lower_24 rfl (lv_at hl 0 rfl) ?_
      refine va_get (D := D) (ci := 6) (v := .ref (b 20)) (C := R_Mo) (T := F_Mo) (N := 27) hx hb hts in_Mo hown hK hP 0 rfl rfl 22 (by decide) (hts _ fl_Mo_69) (fun _ h => h) rfl d_Mo_lower_25 ?_
      refine lv_iload_n hx hb d_Mo_lower_28 rfl (lv_at hl 1 rfl) ?_
      obtain ⟨vcb, vc⟩ := vc
      refine va_iald hx hb hK hP 20 0 rfl rfl vcb d_Mo_lower_29 ?_
      refine lv_iconst (v := 1) hx hb d_Mo_lower_30 (by decide) ?_
      refine lv_iadd hx hb d_Mo_lower_31 ?_
      obtain ⟨vcb, vc⟩ := vc
      refine va_iast hx hb hK hP hD hS 20 0 rfl rfl vcb d_Mo_lower_32 (fun H locs hP hD hS => ?_)
      have hP : va_P D vwCl (wM b cI cJ cZ mki msz mle mel mme mal mic mil mio mab mae msa mlc mli mna mva mma mch mre (upd mlv y.toNatClampNeg ((mlv x.toNatClampNeg) + 1)) mwr msh mth mnv mns mfa mmo) H := hP
      have hD : va_D A (wM b cI cJ cZ mki msz mle mel mme mal mic mil mio mab mae msa mlc mli mna mva mma mch mre (upd mlv y.toNatClampNeg ((mlv x.toNatClampNeg) + 1)) mwr msh mth mnv mns mfa mmo) := hD
      refine lv_aload_n hx hb d_Mo_lower_33 rfl (lv_at hl 0 rfl) ?_
      refine lv_iconst (v := 1) hx hb d_Mo_lower_34 (by decide) ?_
      refine va_put (D := D) (ci := 6) (v := .int 1) (ty := .boolean) (C := R_Mo) (T := F_Mo) (N := 27) hx hb hts in_Mo t_Mo t_Mo_ok n_Mo hown hK hP hD hS 0 rfl rfl 26 (by decide) (hts _ fl_Mo_137) (fun _ h => h) rfl (by decide +kernel) (by decide) (by decide) (Nat.le_of_ble_eq_true rfl) d_Mo_lower_35 (fun H locs hP hD hS => ?_)
      have hP : va_P D vwCl (wM b cI cJ cZ mki msz mle mel mme mal mic mil mio mab mae msa mlc mli mna mva mma mch mre (upd mlv y.toNatClampNeg ((mlv x.toNatClampNeg) + 1)) mwr msh mth mnv mns mfa 1) H := hP
      have hD : va_D A (wM b cI cJ cZ mki msz mle mel mme mal mic mil mio mab mae msa mlc mli mna mva mma mch mre (upd mlv y.toNatClampNeg ((mlv x.toNatClampNeg) + 1)) mwr msh mth mnv mns mfa 1) := hD
      exact hret _ _ _ _ _ _ _ _ _ _ _ _ _ _ _ _ _ _ _ _ _ _ _ _ _ _ _ ls _ H locs d_Mo_lower_38 vc hP hD hS
set_option maxHeartbeats 4000000 in
theorem v_Mo_lower (mki : Nat → Int32) (msz : Nat → Int64) (mle : Nat → Int32) (mel : Nat → Int32) (mme : Nat → Int32) (mal : Nat → Int32) (mic : Nat → Int32) (mil : Nat → Int32) (mio : Nat → Int32) (mab : Nat → Int32) (mae : Nat → Int32) (msa : Nat → Int32) (mlc : Nat → Int32) (mli : Nat → Int32) (mna : Nat → Int32) (mva : Nat → Int32) (mma : Nat → Int32) (mch : Nat → Int32) (mre : Nat → Int32) (mlv : Nat → Int32) (mwr : Nat → Int64) (msh : Nat → Int32) (mth : Int32) (mnv : Int32) (mns : Int32) (mfa : Int32) (mmo : Int32) (x : Int32) (y : Int32) (hpre : (vp_in x 24 ∧ okx y 24)) : V_Mo_lower mki msz mle mel mme mal mic mil mio mab mae msa mlc mli mna mva mma mch mre mlv mwr msh mth mnv mns mfa mmo x y (fun mki' msz' mle' mel' mme' mal' mic' mil' mio' mab' mae' msa' mlc' mli' mna' mva' mma' mch' mre' mlv' mwr' msh' mth' mnv' mns' mfa' mmo' => (LOW x y mlv mmo mlv' mmo') ∧ mki' = mki ∧ msz' = msz ∧ mle' = mle ∧ mel' = mel ∧ mme' = mme ∧ mal' = mal ∧ mic' = mic ∧ mil' = mil ∧ mio' = mio ∧ mab' = mab ∧ mae' = mae ∧ msa' = msa ∧ mlc' = mlc ∧ mli' = mli ∧ mna' = mna ∧ mva' = mva ∧ mma' = mma ∧ mch' = mch ∧ mre' = mre ∧ mwr' = mwr ∧ msh' = msh ∧ mth' = mth ∧ mnv' = mnv ∧ mns' = mns ∧ mfa' = mfa) := by
  unfold V_Mo_lower
  obtain ⟨hx, hpre⟩ := hpre
  have hin : ¬ y < 0 → vp_in y 24 := fun h => by
    obtain ⟨q, hq, rfl⟩ := okx_nn hpre h
    exact vp_in_nI hq (by decide)
  refine ⟨fun h => ⟨Or.inl ⟨Or.inl h, rfl, rfl⟩, rfl, rfl, rfl, rfl, rfl, rfl, rfl, rfl, rfl, rfl, rfl, rfl, rfl, rfl, rfl, rfl, rfl, rfl, rfl, rfl, rfl, rfl, rfl, rfl, rfl⟩, fun h => ⟨hin h, hx, fun h2 => ⟨Or.inl ⟨Or.inr h2, rfl, rfl⟩, rfl, rfl, rfl, rfl, rfl, rfl, rfl, rfl, rfl, rfl, rfl, rfl, rfl, rfl, rfl, rfl, rfl, rfl, rfl, rfl, rfl, rfl, rfl, rfl, rfl⟩, fun h2 => ⟨hx, hin h, Or.inr ⟨h, h2, rfl, rfl⟩, rfl, rfl, rfl, rfl, rfl, rfl, rfl, rfl, rfl, rfl, rfl, rfl, rfl, rfl, rfl, rfl, rfl, rfl, rfl, rfl, rfl, rfl, rfl, rfl, rfl⟩⟩⟩
theorem c_Mo_lower (l : Launch) (D : va_G) (b : Nat → Nat) (cI cJ cZ : ClassId) (mki : Nat → Int32) (msz : Nat → Int64) (mle : Nat → Int32) (mel : Nat → Int32) (mme : Nat → Int32) (mal : Nat → Int32) (mic : Nat → Int32) (mil : Nat → Int32) (mio : Nat → Int32) (mab : Nat → Int32) (mae : Nat → Int32) (msa : Nat → Int32) (mlc : Nat → Int32) (mli : Nat → Int32) (mna : Nat → Int32) (mva : Nat → Int32) (mma : Nat → Int32) (mch : Nat → Int32) (mre : Nat → Int32) (mlv : Nat → Int32) (mwr : Nat → Int64) (msh : Nat → Int32) (mth : Int32) (mnv : Int32) (mns : Int32) (mfa : Int32) (mmo : Int32) (x : Int32) (y : Int32) (hpre : (vp_in x 24 ∧ okx y 24)) : Wm (S := (Nat → Int32) × Int32) l y_Mo_lower b_Mo_lower 3 none 0 0 [.ref (b 0), .int x, .int y] D (tyA cI cJ cZ) (wM b cI cJ cZ mki msz mle mel mme mal mic mil mio mab mae msa mlc mli mna mva mma mch mre mlv mwr msh mth mnv mns mfa mmo) (fun uu => LOW x y mlv mmo uu.1 uu.2) (fun uu => none) (fun uu => (wM b cI cJ cZ mki msz mle mel mme mal mic mil mio mab mae msa mlc mli mna mva mma mch mre uu.1 mwr msh mth mnv mns mfa uu.2)) :=
  wm_v (by decide) (Nat.le_of_ble_eq_true rfl) (fun p e s m below meth c ls Q A S hK hP hD hA hS hl hret => g_Mo_lower S (Nat.le_refl _) (Nat.le_refl _) ⟨Nat.le_refl _, Nat.le_refl _⟩ D b cI cJ cZ mki msz mle mel mme mal mic mil mio mab mae msa mlc mli mna mva mma mch mre mlv mwr msh mth mnv mns mfa mmo x y hK hP hD hA hS hl (v_Mo_lower mki msz mle mel mme mal mic mil mio mab mae msa mlc mli mna mva mma mch mre mlv mwr msh mth mnv mns mfa mmo x y hpre) (fun mki' msz' mle' mel' mme' mal' mic' mil' mio' mab' mae' msa' mlc' mli' mna' mva' mma' mch' mre' mlv' mwr' msh' mth' mnv' mns' mfa' mmo' ls1 pc H1 locs1 hd hv hP1 hD1 hS1 => by obtain ⟨hp, rfl, rfl, rfl, rfl, rfl, rfl, rfl, rfl, rfl, rfl, rfl, rfl, rfl, rfl, rfl, rfl, rfl, rfl, rfl, rfl, rfl, rfl, rfl, rfl, rfl⟩ := hv; exact hret (mlv', mmo') ls1 pc H1 locs1 hd hp hP1 hD1 hS1))
theorem hd_Mo_lower : y_Mo_lower.cls ≠ "java/lang/invoke/MethodHandle" ∧ y_Mo_lower.cls ≠ "java/lang/invoke/VarHandle" ∧ (parseMethodDescriptor y_Mo_lower.desc).map (fun d => d.parameters.length) = some 2 := ⟨by decide, by decide, by decide +kernel⟩
