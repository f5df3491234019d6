/-! ===== a judging reads the asked pairs alone ===== -/
/-- schemas in place -/
def IPc (G : Sp) (s x : Nat) : Prop := (∃ k, 17 ≤ k ∧ k ≤ 21 ∧ ruH G s k ∧ x = ruV G s k) ∨ (∃ k i, k < 3 ∧ i < lsL G s k ∧ x = lsV G s k i) ∨ ∃ n, n < 12 ∧ nmH G s 1 n ∧ x = nmV G s 1 n
/-- schemas for parts -/
def ELc (G : Sp) (s x : Nat) : Prop := (∃ k, (k = 22 ∨ k = 23 ∨ k = 26 ∨ k = 27 ∨ k = 28) ∧ ruH G s k ∧ x = ruV G s k) ∨ (∃ i, i < lsL G s 3 ∧ x = lsV G s 3 i) ∨ ∃ n, n < 12 ∧ nmH G s 0 n ∧ x = nmV G s 0 n
/-- other answers of the asked pairs, all else the same -/
def Oth (G G' : Sp) : Prop := ∃ va mk, G' = (gK G, gPb G, gPt G, gRu G, gLe G, gLi G, gBn G, gPL G, va, mk)
theorem Ask_kind {G : Sp} {s v x w : Nat} (h : Ask G s v x w) : (w = v ∧ IPc G s x) ∨ (ELc G s x ∧ ∃ i, i < 12 ∧ gPb G v i ∧ w = gPt G v i) := by
  have hS : ∀ k, 17 ≤ k → k ≤ 21 → AskS G s v k x w → (w = v ∧ IPc G s x) := fun k h1 h2 q => ⟨q.2.2, Or.inl ⟨k, h1, h2, q.1, q.2.1⟩⟩
  have hL : ∀ k, k < 3 → AskL G s v k x w → (w = v ∧ IPc G s x) := fun k h1 ⟨q1, i, q2, q3⟩ => ⟨q1, Or.inr (Or.inl ⟨k, i, h1, q2, q3⟩)⟩
  rcases h with (q | q | q | q | q | q | q | q) | ⟨h4, ⟨i, q1, q2, q3, ⟨q4, q5⟩ | ⟨q4, q5, q6⟩⟩ | ⟨q1, q2, i, q0, q3, q4⟩ | ⟨q1, q2, i, q0, q3, q4, q5⟩⟩ | ⟨h5, ⟨n, q1, q2, ⟨q3, q4, q5⟩ | ⟨q3, q4, q5, q6⟩ | ⟨q3, q4, q5⟩⟩ | ⟨q1, q2, i, q0, q3, q4, q5⟩⟩
  · exact Or.inl (hS 17 (by decide) (by decide) q)
  · exact Or.inl (hS 18 (by decide) (by decide) q)
  · exact Or.inl (hS 19 (by decide) (by decide) q.2)
  · exact Or.inl (hS 20 (by decide) (by decide) q.2)
  · exact Or.inl (hS 21 (by decide) (by decide) q)
  · exact Or.inl (hL 0 (by decide) q)
  · exact Or.inl (hL 1 (by decide) q)
  · exact Or.inl (hL 2 (by decide) q)
  · exact Or.inr ⟨Or.inr (Or.inl ⟨i, q4, q5⟩), i, q1, q2, q3⟩
  · exact Or.inr ⟨Or.inl ⟨22, by decide, q5, q6⟩, i, q1, q2, q3⟩
  · exact Or.inr ⟨Or.inl ⟨23, by decide, q1, q2⟩, i, q0, q3, q4⟩
  · exact Or.inr ⟨Or.inl ⟨28, by decide, q1, q2⟩, i, q0, q3, q5⟩
  · exact Or.inr ⟨Or.inr (Or.inr ⟨n, q1, q3, q4⟩), n, q1, q2, q5⟩
  · exact Or.inr ⟨Or.inl ⟨26, by decide, q4, q5⟩, n, q1, q2, q6⟩
  · exact Or.inl ⟨q5, Or.inr (Or.inr ⟨n, q1, q3, q4⟩)⟩
  · exact Or.inr ⟨Or.inl ⟨27, by decide, q1, q2⟩, i, q0, q3, q5⟩
theorem Oth_congr {G G' : Sp} {s v : Nat} (hO : Oth G G') (hi : ∀ x, IPc G s x → (gVa G x v ↔ gVa G' x v) ∧ ∀ i, (gMk G x v i ↔ gMk G' x v i)) (he : ∀ x i, ELc G s x → i < 12 → gPb G v i → (gVa G x (gPt G v i) ↔ gVa G' x (gPt G v i))) :
    (∀ i, Mrk0 G s v i ↔ Mrk0 G' s v i) ∧ (∀ b, Bad G s v b ↔ Bad G' s v b) ∧ ∀ x w, Ask G s v x w ↔ Ask G' s v x w := by
  obtain ⟨va, mk, rfl⟩ := hO
  generalize hG' : ((gK G, gPb G, gPt G, gRu G, gLe G, gLi G, gBn G, gPL G, va, mk) : Sp) = G' at hi he ⊢
  have eK : gK G' = gK G := by rw [← hG']
  have eB : gPb G' = gPb G := by rw [← hG']
  have eT : gPt G' = gPt G := by rw [← hG']
  have eL : gPL G' = gPL G := by rw [← hG']
  have eN : gBn G' = gBn G := by rw [← hG']
  have rH : ∀ k, ruH G' s k = ruH G s k := fun k => by rw [← hG']; rfl
  have rV : ∀ k, ruV G' s k = ruV G s k := fun k => by rw [← hG']; rfl
  have lL : ∀ k, lsL G' s k = lsL G s k := fun k => by rw [← hG']; rfl
  have lV : ∀ k i, lsV G' s k i = lsV G s k i := fun k i => by rw [← hG']; rfl
  have nH : ∀ k n, nmH G' s k n = nmH G s k n := fun k n => by rw [← hG']; rfl
  have nV : ∀ k n, nmV G' s k n = nmV G s k n := fun k n => by rw [← hG']; rfl
  have vS : ∀ k, 17 ≤ k → k ≤ 21 → ruH G s k → (gVa G (ruV G s k) v ↔ gVa G' (ruV G s k) v) := fun k h1 h2 h => (hi _ (Or.inl ⟨k, h1, h2, h, rfl⟩)).1
  have mS : ∀ k, 17 ≤ k → k ≤ 21 → ruH G s k → ∀ i, (gMk G (ruV G s k) v i ↔ gMk G' (ruV G s k) v i) := fun k h1 h2 h => (hi _ (Or.inl ⟨k, h1, h2, h, rfl⟩)).2
  have vL : ∀ k i, k < 3 → i < lsL G s k → (gVa G (lsV G s k i) v ↔ gVa G' (lsV G s k i) v) := fun k i h1 h2 => (hi _ (Or.inr (Or.inl ⟨k, i, h1, h2, rfl⟩))).1
  have mL : ∀ k i, k < 3 → i < lsL G s k → ∀ j, (gMk G (lsV G s k i) v j ↔ gMk G' (lsV G s k i) v j) := fun k i h1 h2 => (hi _ (Or.inr (Or.inl ⟨k, i, h1, h2, rfl⟩))).2
  have vN : ∀ n, n < 12 → nmH G s 1 n → (gVa G (nmV G s 1 n) v ↔ gVa G' (nmV G s 1 n) v) := fun n h1 h2 => (hi _ (Or.inr (Or.inr ⟨n, h1, h2, rfl⟩))).1
  have mN : ∀ n, n < 12 → nmH G s 1 n → ∀ j, (gMk G (nmV G s 1 n) v j ↔ gMk G' (nmV G s 1 n) v j) := fun n h1 h2 => (hi _ (Or.inr (Or.inr ⟨n, h1, h2, rfl⟩))).2
  have vE : ∀ k i, (k = 22 ∨ k = 23 ∨ k = 26 ∨ k = 27 ∨ k = 28) → ruH G s k → i < 12 → gPb G v i → (gVa G (ruV G s k) (gPt G v i) ↔ gVa G' (ruV G s k) (gPt G v i)) := fun k i h1 h2 h3 h4 => he _ i (Or.inl ⟨k, h1, h2, rfl⟩) h3 h4
  have tr : ∀ k, trn G s v k ↔ trn G' s v k := fun k => by
    unfold trn; rw [rH, rV]; exact and_congr_right (fun h => iff_congr (vS 18 (by decide) (by decide) h) Iff.rfl)
  have xS : ∀ k x w, AskS G s v k x w ↔ AskS G' s v k x w := fun k x w => by unfold AskS; rw [rH, rV]
  have xL : ∀ k x w, AskL G s v k x w ↔ AskL G' s v k x w := fun k x w => by unfold AskL; rw [lL]; simp only [lV]
  have bS : ∀ k b, 17 ≤ k → k ≤ 21 → (BadS G s v k b ↔ BadS G' s v k b) := fun k b h1 h2 => by
    unfold BadS; rw [rH, rV]; exact and_congr_right (fun _ => and_congr_right (fun h => not_congr (vS k h1 h2 h)))
  have kS : ∀ k i, 17 ≤ k → k ≤ 21 → (MrkS G s v k i ↔ MrkS G' s v k i) := fun k i h1 h2 => by
    unfold MrkS; rw [rH, rV]; exact and_congr_right (fun h => mS k h1 h2 h i)
  have bL : ∀ k b, k < 3 → (BadL G s v k b ↔ BadL G' s v k b) := fun k b hk => by
    have hc : cntL' G s v k = cntL' G' s v k := by
      unfold cntL'; rw [lL]; exact cN_iff _ (fun i hi => by rw [lV]; exact vL k i hk hi)
    unfold BadL; rw [lL, hc]
  have kL : ∀ k i, k < 3 → (MrkL G s v k i ↔ MrkL G' s v k i) := fun k i hk => by
    unfold MrkL; rw [lL]; exact exists_congr (fun j => and_congr_right (fun h => by rw [lV]; exact mL k j hk h i))
  have cC : ruH G s 23 → cntC G s v = cntC G' s v := fun h => by
    unfold cntC; rw [eB, eT, rV]; exact cN_iff _ (fun i hi => and_congr_right (fun hb => vE 23 i (by decide) h hi hb))
  have m0 : ∀ i, Mrk0 G s v i ↔ Mrk0 G' s v i := fun i => by
    unfold Mrk0 MrkIn MrkEl MrkCo MrkMe
    rw [eK, eB, eT, rH, rH, rV, lL]
    refine or_congr (or_congr (kS 18 i (by decide) (by decide)) (or_congr (and_congr (tr 19) (kS 19 i (by decide) (by decide))) (or_congr (and_congr (tr 20) (kS 20 i (by decide) (by decide))) (or_congr (kS 21 i (by decide) (by decide)) (or_congr (kL 0 i (by decide)) (or_congr (kL 1 i (by decide)) (kL 2 i (by decide)))))))) (or_congr (and_congr_right (fun _ => or_congr Iff.rfl (and_congr_right (fun h => and_congr_right (fun hi => and_congr_right (fun hb => vE 23 i (by decide) h hi hb)))))) (and_congr_right (fun _ => exists_congr (fun n => and_congr_right (fun hn => and_congr_right (fun _ => ?_))))))
    rw [nH, nH, nV, rH]
    exact or_congr Iff.rfl (and_congr_right (fun h => mN n hn h i))
  refine ⟨m0, fun b => ?_, fun x w => ?_⟩
  · unfold Bad BadIn
    refine or_congr ?_ (or_congr (or_congr ?_ (or_congr (and_congr (tr 19) (bS 19 b (by decide) (by decide))) (or_congr (and_congr (tr 20) (bS 20 b (by decide) (by decide))) (or_congr (bS 21 b (by decide) (by decide)) (or_congr (bL 0 b (by decide)) (or_congr (bL 1 b (by decide)) (bL 2 b (by decide)))))))) (or_congr ?_ ?_))
    · unfold BadPl; rw [rH, eL]
    · rw [rH, rV]; exact and_congr_right (fun _ => and_congr_right (fun h => vS 17 (by decide) (by decide) h))
    · rw [eK]
      refine and_congr_right (fun _ => or_congr ?_ (or_congr ?_ ?_))
      · unfold BadEl; rw [eB, eT, lL, rH, rV]
        refine exists_congr (fun i => and_congr_right (fun hi12 => and_congr_right (fun hb => or_congr (and_congr_right (fun _ => and_congr_right (fun h => ?_))) (and_congr_right (fun _ => and_congr_right (fun _ => and_congr_right (fun h => not_congr (vE 22 i (by decide) h hi12 hb))))))))
        rw [lV]; exact not_congr (he _ i (Or.inr (Or.inl ⟨i, h, rfl⟩)) hi12 hb)
      · unfold BadCo; rw [rH, rH, rH, rV, rV]
        refine and_congr_right (fun h => ?_)
        rw [cC h]
      · unfold BadUn; rw [rH, rV, eB, eT]
        exact and_congr_right (fun _ => and_congr_right (fun h => exists_congr (fun i => and_congr_right (fun hi12 => and_congr_right (fun hb => and_congr (not_congr (m0 i)) (not_congr (vE 28 i (by decide) h hi12 hb)))))))
    · rw [eK]
      refine and_congr_right (fun _ => or_congr ?_ ?_)
      · unfold BadMe; rw [eB, eT, eN, rH, rV]
        refine exists_congr (fun n => and_congr_right (fun hn => and_congr_right (fun hb => ?_)))
        rw [nH, nH, nH, nV, nV]
        exact or_congr (and_congr_right (fun _ => and_congr_right (fun h => not_congr (he _ n (Or.inr (Or.inr ⟨n, hn, h, rfl⟩)) hn hb)))) (or_congr (and_congr_right (fun _ => and_congr_right (fun _ => and_congr_right (fun h => not_congr (vE 26 n (by decide) h hn hb))))) (or_congr (and_congr_right (fun _ => and_congr_right (fun h => not_congr (vN n hn h)))) Iff.rfl))
      · unfold BadUn; rw [rH, rV, eB, eT]
        exact and_congr_right (fun _ => and_congr_right (fun h => exists_congr (fun i => and_congr_right (fun hi12 => and_congr_right (fun hb => and_congr (not_congr (m0 i)) (not_congr (vE 27 i (by decide) h hi12 hb)))))))
  · unfold Ask AskIn AskEl AskCo AskMe AskUn
    rw [eK, eB, eT, lL, rH, rH, rH, rH, rH, rV, rV, rV, rV, rV]
    refine or_congr (or_congr (xS 17 x w) (or_congr (xS 18 x w) (or_congr (and_congr (tr 19) (xS 19 x w)) (or_congr (and_congr (tr 20) (xS 20 x w)) (or_congr (xS 21 x w) (or_congr (xL 0 x w) (or_congr (xL 1 x w) (xL 2 x w)))))))) (or_congr (and_congr_right (fun _ => or_congr ?_ (or_congr Iff.rfl (and_congr_right (fun _ => and_congr_right (fun _ => exists_congr (fun i => and_congr_right (fun _ => and_congr_right (fun _ => and_congr (not_congr (m0 i)) Iff.rfl))))))))) (and_congr_right (fun _ => or_congr ?_ (and_congr_right (fun _ => and_congr_right (fun _ => exists_congr (fun i => and_congr_right (fun _ => and_congr_right (fun _ => and_congr (not_congr (m0 i)) Iff.rfl)))))))))
    · simp only [lV]
    · simp only [nH, nV]
/-- marks are of parts -/
theorem Mrk0_pb {G : Sp} {s v i : Nat} (hm : ∀ x, IPc G s x → ∀ i, gMk G x v i → gPb G v i) (h : Mrk0 G s v i) : gPb G v i := by
  have hS : ∀ k, 17 ≤ k → k ≤ 21 → MrkS G s v k i → gPb G v i := fun k h1 h2 q => hm _ (Or.inl ⟨k, h1, h2, q.1, rfl⟩) i q.2
  have hL : ∀ k, k < 3 → MrkL G s v k i → gPb G v i := fun k h1 ⟨j, q1, q2⟩ => hm _ (Or.inr (Or.inl ⟨k, j, h1, q1, rfl⟩)) i q2
  rcases h with (q | q | q | q | q | q | q) | ⟨_, q | q⟩ | ⟨_, n, q1, q2, ⟨q3, q4⟩ | ⟨q3, q4⟩⟩
  · exact hS 18 (by decide) (by decide) q
  · exact hS 19 (by decide) (by decide) q.2
  · exact hS 20 (by decide) (by decide) q.2
  · exact hS 21 (by decide) (by decide) q
  · exact hL 0 (by decide) q
  · exact hL 1 (by decide) q
  · exact hL 2 (by decide) q
  · exact q.2.1
  · exact q.2.2.1
  · rw [q3]; exact q2
  · exact hm _ (Or.inr (Or.inr ⟨n, q1, q3, rfl⟩)) i q4
/-- a pair whose answers are right -/
def Fixed (G : Sp) (s v : Nat) : Prop := (gVa G s v ↔ ∀ b, b < 36 → ¬ Bad G s v b) ∧ (∀ i, gMk G s v i ↔ gVa G s v ∧ Mrk1 G s v i) ∧ ∀ i, gMk G s v i → gPb G v i
theorem Fixed.oth {G G' : Sp} {s v : Nat} (hO : Oth G G') (hi : ∀ x, IPc G s x → (gVa G x v ↔ gVa G' x v) ∧ ∀ i, (gMk G x v i ↔ gMk G' x v i)) (he : ∀ x i, ELc G s x → i < 12 → gPb G v i → (gVa G x (gPt G v i) ↔ gVa G' x (gPt G v i))) (hp : (gVa G s v ↔ gVa G' s v) ∧ ∀ i, (gMk G s v i ↔ gMk G' s v i)) (h : Fixed G s v) : Fixed G' s v := by
  obtain ⟨c1, c2, _⟩ := Oth_congr hO hi he
  obtain ⟨h1, h2, h3⟩ := h
  have eB : gPb G' = gPb G := by obtain ⟨va, mk, rfl⟩ := hO; rfl
  have eK : gK G' = gK G := by obtain ⟨va, mk, rfl⟩ := hO; rfl
  have rH : ∀ k, ruH G' s k = ruH G s k := fun k => by obtain ⟨va, mk, rfl⟩ := hO; rfl
  have m1 : ∀ i, Mrk1 G s v i ↔ Mrk1 G' s v i := fun i => by
    unfold Mrk1 MrkUn; rw [eK, eB, rH, rH]
    exact or_congr (c1 i) (or_congr (and_congr_right (fun _ => and_congr_right (fun _ => and_congr_right (fun _ => and_congr_right (fun _ => not_congr (c1 i)))))) (and_congr_right (fun _ => and_congr_right (fun _ => and_congr_right (fun _ => and_congr_right (fun _ => not_congr (c1 i)))))))
  refine ⟨?_, fun i => ?_, fun i q => ?_⟩
  · rw [← hp.1, h1]; exact forall_congr' (fun b => forall_congr' (fun _ => not_congr (c2 b)))
  · rw [← hp.2, ← hp.1, h2 i, m1 i]
  · rw [eB]; exact h3 i ((hp.2 i).mpr q)
