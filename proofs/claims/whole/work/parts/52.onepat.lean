/-! ===== patterns: both ways are one ===== -/
/-- before item i, given what is inside the items -/
def nF (b0 : Bool) (ins : Nat → Bool) (of : Nat → Int32) : Nat → Bool
  | 0 => b0
  | i + 1 => ins i || (nF b0 ins of i && (decide (of i = 1) || decide (of i = 2)))
/-- inside item i after j letters -/
def iS (fit : Nat → Nat → Bool) (of : Nat → Int32) (bg : Bool) : Nat → Nat → Bool
  | 0, _ => false
  | j + 1, i => fit i j && (nF (decide (j = 0) || !bg) (iS fit of bg j) of i || (iS fit of bg j i && decide (¬ of i ≤ 1)))
def nS (fit : Nat → Nat → Bool) (of : Nat → Int32) (bg : Bool) (j i : Nat) : Bool := nF (decide (j = 0) || !bg) (iS fit of bg j) of i
theorem b_shl2 {k c : Nat} {X : Int32} (hX : ∀ i, i < 32 → bt X i = decide (i = c)) (hk : k + c < 32) {i : Nat} (hi : i < 32) : bt (X <<< (nI k &&& 31)) i = decide (i = k + c) := by
  rw [b_shl k (by omega) _ hi]
  by_cases e : k ≤ i
  · rw [hX _ (by omega), decide_eq_true e, Bool.true_and]
    by_cases e2 : i = k + c
    · rw [decide_eq_true e2, decide_eq_true (by omega)]
    · rw [decide_eq_false e2, decide_eq_false (by omega)]
  · rw [decide_eq_false e, Bool.false_and, decide_eq_false (by omega)]
theorem b_4 : ∀ i, i < 32 → bt 4 i = decide (i = 2) := by decide +kernel
theorem b_2 : ∀ i, i < 32 → bt 2 i = decide (i = 1) := by decide +kernel
theorem mSpr_bits (of : Nat → Int32) (y : Int32) : ∀ n, n ≤ 6 → (∀ i, 1 ≤ i → i ≤ 6 → bt y (2 * i) = false) →
    (∀ i, i ≤ 6 → bt (mSpr of y n) (2 * i) = (decide (i ≤ n) && nF (bt y 0) (fun i => bt y (2 * i + 1)) of i)) ∧ ∀ i, i ≤ 6 → bt (mSpr of y n) (2 * i + 1) = bt y (2 * i + 1) := by
  intro n
  induction n with
  | zero =>
    intro _ h
    refine ⟨fun i hi => ?_, fun i _ => rfl⟩
    cases i with
    | zero => simp [mSpr, nF]
    | succ i => simp only [mSpr]; rw [h (i + 1) (by omega) hi]; simp
  | succ n ih =>
    intro hn h
    obtain ⟨a1, a2⟩ := ih (by omega) h
    have c1 := a1 n (by omega)
    rw [decide_eq_true (Nat.le_refl n), Bool.true_and] at c1
    have c2 := a2 n (by omega)
    have key : nF (bt y 0) (fun i => bt y (2 * i + 1)) of (n + 1) = (bt (mSpr of y n) (2 * n + 1) || (bt (mSpr of y n) (2 * n) && (decide (of n = 1) || decide (of n = 2)))) := by
      rw [c1, c2]; rfl
    have hb : ∀ j, j < 32 → bt (mSpr of y (n + 1)) j = (bt (mSpr of y n) j || (nF (bt y 0) (fun i => bt y (2 * i + 1)) of (n + 1) && decide (j = 2 * n + 2))) := fun j hj => by
      rw [key]
      cases e : (bt (mSpr of y n) (2 * n + 1) || (bt (mSpr of y n) (2 * n) && (decide (of n = 1) || decide (of n = 2))))
      · simp [mSpr, e]
      · simp only [mSpr, e, if_true]
        rw [b_or, b_shl2 b_4 (by omega) hj, Bool.true_and]
    refine ⟨fun i hi => ?_, fun i hi => ?_⟩
    · rw [hb _ (by omega), a1 i hi]
      by_cases e : i = n + 1
      · subst e
        rw [decide_eq_false (show ¬ n + 1 ≤ n by omega), decide_eq_true (show 2 * (n + 1) = 2 * n + 2 by omega)]; simp
      · rw [decide_eq_false (show ¬ 2 * i = 2 * n + 2 by omega), Bool.and_false, Bool.or_false]
        by_cases e2 : i ≤ n
        · rw [decide_eq_true e2, decide_eq_true (show i ≤ n + 1 by omega)]
        · rw [decide_eq_false e2, decide_eq_false (show ¬ i ≤ n + 1 by omega)]
    · rw [hb _ (by omega), decide_eq_false (show ¬ 2 * i + 1 = 2 * n + 2 by omega), Bool.and_false, Bool.or_false, a2 i hi]
theorem mOvr_bits (fit : Nat → Bool) (of : Nat → Int32) (y : Int32) : ∀ n, n ≤ 6 → (∀ i, i ≤ 6 → bt (mOvr fit of y n) (2 * i) = false) ∧ ∀ i, i ≤ 6 → bt (mOvr fit of y n) (2 * i + 1) = (decide (i < n) && (fit i && (bt y (2 * i) || (bt y (2 * i + 1) && decide (¬ of i ≤ 1))))) := by
  intro n
  induction n with
  | zero => intro _; exact ⟨fun i _ => b_0 _, fun i _ => by simp [mOvr, b_0]⟩
  | succ n ih =>
    intro hn
    obtain ⟨a1, a2⟩ := ih (by omega)
    have hb : ∀ j, j < 32 → bt (mOvr fit of y (n + 1)) j = (bt (mOvr fit of y n) j || ((fit n && (bt y (2 * n) || (bt y (2 * n + 1) && decide (¬ of n ≤ 1)))) && decide (j = 2 * n + 1))) := fun j hj => by
      cases e : (fit n && (bt y (2 * n) || (bt y (2 * n + 1) && decide (¬ of n ≤ 1))))
      · simp only [mOvr, e]; simp
      · simp only [mOvr, e, if_true]
        rw [b_or, b_shl2 b_2 (by omega) hj, Bool.true_and]
    refine ⟨fun i hi => ?_, fun i hi => ?_⟩
    · rw [hb _ (by omega), a1 i hi, decide_eq_false (show ¬ 2 * i = 2 * n + 1 by omega)]; simp
    · rw [hb _ (by omega), a2 i hi]
      by_cases e : i = n
      · subst e; simp
      · rw [decide_eq_false (show ¬ 2 * i + 1 = 2 * n + 1 by omega), Bool.and_false, Bool.or_false]
        by_cases e2 : i < n
        · rw [decide_eq_true e2, decide_eq_true (show i < n + 1 by omega)]
        · rw [decide_eq_false e2, decide_eq_false (show ¬ i < n + 1 by omega)]
theorem nF_congr {b0 : Bool} {f g : Nat → Bool} {of : Nat → Int32} : ∀ n, (∀ i, i < n → f i = g i) → nF b0 f of n = nF b0 g of n := by
  intro n
  induction n with
  | zero => intro _; rfl
  | succ n ih => intro h; simp only [nF]; rw [h n (by omega), ih (fun i hi => h i (by omega))]
theorem mPlc_bits (il io : Nat → Int32) (bg : Bool) (n t : Nat) (hn : n ≤ 6) : ∀ j,
    (∀ i, i ≤ n → bt (mPlc il io bg n t j) (2 * i) = nS (fun i j => bt (il i) (t / 5 ^ j % 5 - 1)) io bg j i) ∧ ∀ i, i < n → bt (mPlc il io bg n t j) (2 * i + 1) = iS (fun i j => bt (il i) (t / 5 ^ j % 5 - 1)) io bg j i := by
  intro j
  induction j with
  | zero =>
    have h1 : ∀ i, 1 ≤ i → i ≤ 6 → bt (1 : Int32) (2 * i) = false := fun i hi _ => by rw [b_one]; exact decide_eq_false (by omega)
    obtain ⟨a1, a2⟩ := mSpr_bits io 1 n hn h1
    have h3 : (fun i => bt (1 : Int32) (2 * i + 1)) = fun _ => false := by funext i; rw [b_one]; exact decide_eq_false (by omega)
    refine ⟨fun i hi => ?_, fun i hi => ?_⟩
    · show bt (mSpr io 1 n) (2 * i) = _
      rw [a1 i (by omega), decide_eq_true hi, Bool.true_and, h3, b_one]
      exact nF_congr i (fun _ _ => rfl)
    · show bt (mSpr io 1 n) (2 * i + 1) = _
      rw [a2 i (by omega), b_one]; exact decide_eq_false (by omega)
  | succ j ih =>
    obtain ⟨p1, p2⟩ := ih
    obtain ⟨o1, o2⟩ := mOvr_bits (fun i => bt (il i) (t / 5 ^ j % 5 - 1)) io (mPlc il io bg n t j) n hn
    generalize ho : mOvr (fun i => bt (il i) (t / 5 ^ j % 5 - 1)) io (mPlc il io bg n t j) n = o at o1 o2
    have hin : ∀ i, i < n → bt o (2 * i + 1) = iS (fun i j => bt (il i) (t / 5 ^ j % 5 - 1)) io bg (j + 1) i := fun i hi => by
      rw [o2 i (by omega), decide_eq_true hi, Bool.true_and, p1 i (by omega), p2 i hi]; rfl
    obtain ⟨y, hy⟩ : ∃ y, (if bg = true then o else o ||| 1) = y := ⟨_, rfl⟩
    have y1 : ∀ i, i ≤ 6 → bt y (2 * i + 1) = bt o (2 * i + 1) := fun i _ => by
      rw [← hy]; cases bg
      · simp only [Bool.false_eq_true, if_false]; rw [b_or, b_one]; simp
      · rfl
    have y0 : bt y 0 = !bg := by
      have := o1 0 (by omega)
      rw [Nat.mul_zero] at this
      rw [← hy]; cases bg
      · simp only [Bool.false_eq_true, if_false]; rw [b_or, b_one]; simp
      · simp only [if_true]; rw [this]; rfl
    have y2 : ∀ i, 1 ≤ i → i ≤ 6 → bt y (2 * i) = false := fun i h1 h6 => by
      rw [← hy]; cases bg
      · simp only [Bool.false_eq_true, if_false]; rw [b_or, b_one, o1 i h6]; simp; omega
      · exact o1 i h6
    obtain ⟨a1, a2⟩ := mSpr_bits io y n hn y2
    have e : mPlc il io bg n t (j + 1) = mSpr io y n := by rw [← hy, ← ho]; rfl
    rw [e]
    refine ⟨fun i hi => ?_, fun i hi => ?_⟩
    · rw [a1 i (by omega), decide_eq_true hi, Bool.true_and, y0]
      show nF (!bg) _ io i = nF (decide (j + 1 = 0) || !bg) _ io i
      rw [decide_eq_false (by omega), Bool.false_or]
      exact nF_congr i (fun k hk => by rw [y1 k (by omega)]; exact hin k (by omega))
    · rw [a2 i (by omega), y1 i (by omega)]; exact hin i hi
theorem mFnd_iff (il io : Nat → Int32) (bg ae : Bool) (n t : Nat) (hn : n ≤ 6) : ∀ j, mFnd il io bg ae n t j = true ↔
    if ae = true then nS (fun i j => bt (il i) (t / 5 ^ j % 5 - 1)) io bg j n = true else ∃ k, k ≤ j ∧ nS (fun i j => bt (il i) (t / 5 ^ j % 5 - 1)) io bg k n = true := by
  intro j
  have hp : ∀ j, bt (mPlc il io bg n t j) (2 * n) = nS (fun i j => bt (il i) (t / 5 ^ j % 5 - 1)) io bg j n := fun j => (mPlc_bits il io bg n t hn j).1 n (Nat.le_refl _)
  induction j with
  | zero =>
    simp only [mFnd]; rw [hp]
    cases ae
    · simp
    · simp
  | succ j ih =>
    simp only [mFnd]; rw [hp]
    cases ae
    · simp only [Bool.false_eq_true, if_false, Bool.or_eq_true] at ih ⊢
      constructor
      · rintro (h | h)
        · obtain ⟨k, hk, h⟩ := ih.mp h
          exact ⟨k, by omega, h⟩
        · exact ⟨j + 1, Nat.le_refl _, h⟩
      · rintro ⟨k, hk, h⟩
        by_cases e : k = j + 1
        · subst e; exact Or.inr h
        · exact Or.inl (ih.mpr ⟨k, by omega, h⟩)
    · simp
theorem sPl_bits (t : Nat) (y : Int32) : ∀ k, k ≤ 8 → ∀ i, bt (sPl t y k) i = (decide (i < k) && bt y (t / 5 ^ i % 5 - 1)) := by
  intro k
  induction k with
  | zero => intro _ i; simp [sPl, b_0]
  | succ k ih =>
    intro hk i
    have : bt (sPl t y (k + 1)) i = (bt (sPl t y k) i || (bt y (t / 5 ^ k % 5 - 1) && decide (i = k))) := by
      cases e : bt y (t / 5 ^ k % 5 - 1)
      · simp [sPl, e]
      · simp only [sPl, e, if_true]; rw [b_or, b_shl1 (by omega), Bool.true_and]
    rw [this, ih (by omega) i]
    by_cases e : i = k
    · subst e; simp
    · rw [decide_eq_false e, Bool.and_false, Bool.or_false]
      by_cases e2 : i < k
      · rw [decide_eq_true e2, decide_eq_true (show i < k + 1 by omega)]
      · rw [decide_eq_false e2, decide_eq_false (show ¬ i < k + 1 by omega)]
theorem b_once (x y : Int32) {j : Nat} (hj : j < 32) : bt ((x &&& y) <<< ((1 : Int32) &&& 31)) j = (decide (1 ≤ j) && (bt x (j - 1) && bt y (j - 1))) := by
  have := b_shl 1 (by omega) (x &&& y) hj
  rw [b_and] at this; exact this
/-- where base leads, over F -/
def tR (base F : Nat → Bool) : Nat → Bool
  | 0 => base 0
  | j + 1 => base (j + 1) || (tR base F j && F j)
theorem sFol_bits (x y : Int32) : ∀ k, k ≤ 8 → (∀ j, j ≤ k → bt (sFol x y k) j = tR (bt x) (bt y) j) ∧ ∀ j, j < 32 → bt (sFol x y k) j = true → tR (bt x) (bt y) j = true := by
  intro k
  have base : ∀ j, bt x j = true → tR (bt x) (bt y) j = true := fun j h => by cases j with
    | zero => exact h
    | succ j => simp only [tR]; rw [h]; rfl
  induction k with
  | zero =>
    intro _
    refine ⟨fun j hj => ?_, fun j _ h => base j h⟩
    obtain rfl : j = 0 := by omega
    rfl
  | succ k ih =>
    intro hk
    obtain ⟨a1, a2⟩ := ih (by omega)
    have hb : ∀ j, j < 32 → bt (sFol x y (k + 1)) j = (bt (sFol x y k) j || (decide (1 ≤ j) && (bt (sFol x y k) (j - 1) && bt y (j - 1)))) := fun j hj => by
      show bt (sFol x y k ||| _) j = _
      rw [b_or, b_once _ _ hj]
    refine ⟨fun j hj => ?_, fun j hj h => ?_⟩
    · rw [hb j (by omega)]
      cases j with
      | zero => rw [a1 0 (by omega)]; simp
      | succ j =>
        rw [decide_eq_true (show 1 ≤ j + 1 by omega), Bool.true_and, Nat.add_sub_cancel, a1 j (by omega)]
        refine Bool.eq_iff_iff.mpr ⟨fun h => ?_, fun h => ?_⟩
        · rw [Bool.or_eq_true] at h
          rcases h with h | h
          · exact a2 (j + 1) (by omega) h
          · simp only [tR]; rw [h, Bool.or_true]
        · simp only [tR] at h
          rw [Bool.or_eq_true] at h ⊢
          rcases h with h | h
          · refine Or.inl ?_
            have mono : ∀ q, bt (sFol x y q) (j + 1) = true := fun q => by
              induction q with
              | zero => exact h
              | succ q ihq => show bt (sFol x y q ||| _) (j + 1) = true; rw [b_or, ihq]; rfl
            exact mono k
          · exact Or.inr h
    · rw [hb j hj, Bool.or_eq_true] at h
      rcases h with h | h
      · exact a2 j hj h
      · cases j with
        | zero => simp at h
        | succ j =>
          rw [decide_eq_true (show 1 ≤ j + 1 by omega), Bool.true_and, Nat.add_sub_cancel, Bool.and_eq_true] at h
          simp only [tR]; rw [a2 j (by omega) h.1, h.2]; simp
theorem tR_off {base F : Nat → Bool} {L : Nat} (hb : ∀ j, L < j → base j = false) (hF : ∀ j, L ≤ j → F j = false) : ∀ j, L < j → tR base F j = false := by
  intro j hj
  cases j with
  | zero => omega
  | succ j => simp only [tR]; rw [hb _ hj, hF j (by omega)]; simp
/-- one item -/
theorem sFollow_step (fit : Nat → Nat → Bool) (of : Nat → Int32) (bg : Bool) (i L : Nat) (hL : L ≤ 8) (x y : Int32) (hz : of i = 0 ∨ of i = 1 ∨ of i = 2 ∨ of i = 3)
    (hx : ∀ j, j < 32 → bt x j = (decide (j ≤ L) && nS fit of bg j i)) (hy : ∀ j, j < 32 → bt y j = (decide (j < L) && fit i j)) :
    ∀ j, j < 32 → bt (sFollow x y (of i)) j = (decide (j ≤ L) && nS fit of bg j (i + 1)) := by
  intro j hj
  have nx : nS fit of bg j (i + 1) = (iS fit of bg j i || (nS fit of bg j i && (decide (of i = 1) || decide (of i = 2)))) := rfl
  have ix : ∀ j, iS fit of bg (j + 1) i = (fit i j && (nS fit of bg j i || (iS fit of bg j i && decide (¬ of i ≤ 1)))) := fun _ => rfl
  have hoff : ∀ q, L < q → q < 32 → bt x q = false := fun q h1 h2 => by rw [hx q h2, decide_eq_false (by omega)]; rfl
  have yoff : ∀ q, L ≤ q → bt y q = false := fun q h1 => by
    rcases Nat.lt_or_ge q 32 with h | h
    · rw [hy q h, decide_eq_false (by omega)]; rfl
    · exact b_big h
  have xoff : ∀ q, L < q → bt x q = false := fun q h1 => by
    rcases Nat.lt_or_ge q 32 with h | h
    · exact hoff q h1 h
    · exact b_big h
  have once : bt ((x &&& y) <<< ((1 : Int32) &&& 31)) j = (decide (j ≤ L) && (decide (1 ≤ j) && (fit i (j - 1) && nS fit of bg (j - 1) i))) := by
    rw [b_once _ _ hj]
    cases j with
    | zero => simp
    | succ j =>
      rw [decide_eq_true (show 1 ≤ j + 1 by omega), Nat.add_sub_cancel, hx j (by omega), hy j (by omega)]
      by_cases e : j + 1 ≤ L
      · rw [decide_eq_true (show j ≤ L by omega), decide_eq_true (show j < L by omega), decide_eq_true e]
        simp [Bool.and_comm]
      · rw [decide_eq_false (show ¬ j < L by omega), decide_eq_false e]; simp
  have fol : ∀ x0 : Int32, (∀ q, L < q → bt x0 q = false) → bt (sFol x0 y 8) j = tR (bt x0) (bt y) j := fun x0 h0 => by
    obtain ⟨a1, a2⟩ := sFol_bits x0 y 8 (Nat.le_refl _)
    rcases Nat.lt_or_ge j 9 with h | h
    · exact a1 j (by omega)
    · have hf := tR_off h0 yoff j (by omega)
      rw [hf]
      cases e : bt (sFol x0 y 8) j
      · rfl
      · have := a2 j hj e
        rw [hf] at this; cases this
  rcases hz with h | h | h | h
  · rw [show sFollow x y (of i) = (x &&& y) <<< ((1 : Int32) &&& 31) by simp [sFollow, h], once, nx]
    cases j with
    | zero => simp [iS, h]
    | succ j => rw [ix]; simp [h]
  · rw [show sFollow x y (of i) = x ||| ((x &&& y) <<< ((1 : Int32) &&& 31)) by simp [sFollow, h], b_or, once, nx, hx j hj]
    cases j with
    | zero => simp [iS, h]
    | succ j => rw [ix]; simp [h]; rw [← Bool.and_or_distrib_left, Bool.or_comm]
  · rw [show sFollow x y (of i) = sFol x y 8 by simp [sFollow, h], fol x xoff, nx]
    have : ∀ j, j < 32 → j ≤ L → tR (bt x) (bt y) j = (iS fit of bg j i || nS fit of bg j i) := fun j => by
      induction j with
      | zero => intro h1 h2; show bt x 0 = _; rw [hx 0 (by omega), decide_eq_true h2]; simp [iS]
      | succ j ihj =>
        intro h1 h2
        simp only [tR]
        rw [ihj (by omega) (by omega), hx _ h1, hy j (by omega), ix, decide_eq_true h2, decide_eq_true (show j < L by omega), h]
        simp only [Bool.true_and]
        have : decide (¬ (2 : Int32) ≤ 1) = true := by decide
        rw [this, Bool.and_true]
        cases fit i j <;> cases iS fit of bg j i <;> cases nS fit of bg j i <;> simp
    by_cases e : j ≤ L
    · rw [this j hj e, decide_eq_true e, h]; simp
    · rw [decide_eq_false e, tR_off xoff yoff j (by omega)]; simp
  · have ooff : ∀ q, L < q → bt ((x &&& y) <<< ((1 : Int32) &&& 31)) q = false := fun q h1 => by
      rcases Nat.lt_or_ge q 32 with h2 | h2
      · rw [b_once _ _ h2, yoff (q - 1) (by omega)]; simp
      · exact b_big h2
    rw [show sFollow x y (of i) = sFol ((x &&& y) <<< ((1 : Int32) &&& 31)) y 8 by simp [sFollow, h], fol _ ooff, nx]
    have : ∀ j, j < 32 → j ≤ L → tR (bt ((x &&& y) <<< ((1 : Int32) &&& 31))) (bt y) j = iS fit of bg j i := fun j => by
      induction j with
      | zero => intro h1 h2; show bt _ 0 = _; rw [b_once _ _ (by omega)]; simp [iS]
      | succ j ihj =>
        intro h1 h2
        simp only [tR]
        rw [ihj (by omega) (by omega), b_once _ _ h1, Nat.add_sub_cancel, hx j (by omega), hy j (by omega), ix, decide_eq_true (show j ≤ L by omega), decide_eq_true (show j < L by omega), h]
        have : decide (¬ (3 : Int32) ≤ 1) = true := by decide
        rw [this, Bool.and_true]
        cases fit i j <;> cases iS fit of bg j i <;> cases nS fit of bg j i <;> simp
    by_cases e : j ≤ L
    · rw [this j hj e, decide_eq_true e, h]; simp
    · rw [decide_eq_false e, tR_off ooff yoff j (by omega)]; simp
theorem b_all : ∀ L, L ≤ 8 → ∀ j, j < 32 → bt (2 * ((1 : Int32) <<< (nI L &&& 31)) - 1) j = decide (j ≤ L) := by decide +kernel
theorem sMatch_eq (pn pl po pf pt : Nat → Int32) (p t n : Nat) (hn : n ≤ 6) (hpn : pn p = nI n) (hz : ∀ i, i < n → po (6 * p + i) = 0 ∨ po (6 * p + i) = 1 ∨ po (6 * p + i) = 2 ∨ po (6 * p + i) = 3) :
    sMatch pn pl po pf pt p t = mFnd (fun i => pl (6 * p + i)) (fun i => po (6 * p + i)) (decide (¬ pf p = 0)) (decide (¬ pt p = 0)) n t (sTextLen 8 t) := by
  have hL := sTextLen_le 8 t
  unfold sMatch
  rw [hpn, nI_clamp (by omega)]
  generalize sTextLen 8 t = L at hL ⊢
  generalize hbg : decide (¬ pf p = 0) = bg
  have hbits : ∀ i, i ≤ n → ∀ j, j < 32 → bt (sMat pl po p t L (if pf p = 0 then 2 * ((1 : Int32) <<< (nI L &&& 31)) - 1 else 1) i) j = (decide (j ≤ L) && nS (fun i j => bt (pl (6 * p + i)) (t / 5 ^ j % 5 - 1)) (fun i => po (6 * p + i)) bg j i) := by
    intro i
    induction i with
    | zero =>
      intro _ j hj
      show bt (if pf p = 0 then 2 * ((1 : Int32) <<< (nI L &&& 31)) - 1 else 1) j = (decide (j ≤ L) && (decide (j = 0) || !bg))
      rw [← hbg]
      by_cases e : pf p = 0
      · rw [if_pos e, b_all L hL j hj]; simp [e]
      · rw [if_neg e, b_one]; simp [e]; intro h; omega
    | succ i ih =>
      intro hi j hj
      show bt (sFollow (sMat pl po p t L _ i) (sPl t (pl (p * 6 + i)) L) (po (p * 6 + i))) j = _
      rw [Nat.mul_comm p 6]
      exact sFollow_step (fun i j => bt (pl (6 * p + i)) (t / 5 ^ j % 5 - 1)) (fun i => po (6 * p + i)) bg i L hL _ _ (hz i (by omega)) (ih (by omega)) (fun j _ => sPl_bits t _ L hL j) j hj
  have hb := hbits n (Nat.le_refl _)
  refine Bool.eq_iff_iff.mpr ?_
  rw [mFnd_iff _ _ _ _ _ _ hn]
  by_cases e : pt p = 0
  · simp only [e, if_true, not_true, decide_false, Bool.false_eq_true, if_false, decide_eq_true_eq]
    rw [b_nz]
    constructor
    · rintro ⟨j, hj, h⟩
      rw [hb j hj, Bool.and_eq_true, decide_eq_true_eq] at h
      exact ⟨j, h.1, h.2⟩
    · rintro ⟨j, hj, h⟩
      exact ⟨j, by omega, by rw [hb j (by omega), h, decide_eq_true hj]; rfl⟩
  · simp only [e, if_false, not_false_eq_true, decide_true, if_true, decide_eq_true_eq]
    rw [b_nz]
    constructor
    · rintro ⟨j, hj, h⟩
      rw [b_and, b_shl1 (by omega), Bool.and_eq_true, decide_eq_true_eq] at h
      obtain ⟨h1, rfl⟩ := h
      rw [hb j hj, Bool.and_eq_true] at h1
      exact h1.2
    · intro h
      exact ⟨L, by omega, by rw [b_and, b_shl1 (by omega), hb L (by omega), h, decide_eq_true (Nat.le_refl _)]; simp⟩
