/-! ===== what a judging says: over the contents, and an oracle of the asked pairs ===== -/
/-- kinds, which parts there are, the parts, rules, lengths, listed, byName, plain keywords, valid, marks -/
abbrev Sp : Type := (Nat → Int32) × (Nat → Nat → Prop) × (Nat → Nat → Nat) × (Nat → Int32) × (Nat → Int32) × (Nat → Int32) × (Nat → Int32) × (Nat → Nat → Nat → Prop) × (Nat → Nat → Prop) × (Nat → Nat → Nat → Prop)
abbrev gK (G : Sp) := G.1
abbrev gPb (G : Sp) := G.2.1
abbrev gPt (G : Sp) := G.2.2.1
abbrev gRu (G : Sp) := G.2.2.2.1
abbrev gLe (G : Sp) := G.2.2.2.2.1
abbrev gLi (G : Sp) := G.2.2.2.2.2.1
abbrev gBn (G : Sp) := G.2.2.2.2.2.2.1
abbrev gPL (G : Sp) := G.2.2.2.2.2.2.2.1
abbrev gVa (G : Sp) := G.2.2.2.2.2.2.2.2.1
abbrev gMk (G : Sp) := G.2.2.2.2.2.2.2.2.2
def ruH (G : Sp) (s k : Nat) : Prop := ¬ gRu G (s * 29 + k) < 0
def ruV (G : Sp) (s k : Nat) : Nat := (gRu G (s * 29 + k)).toNatClampNeg
def lsL (G : Sp) (s k : Nat) : Nat := (gLe G (s * 4 + k)).toNatClampNeg
def lsV (G : Sp) (s k i : Nat) : Nat := (gLi G ((s * 4 + k) * 3 + i)).toNatClampNeg
def nmH (G : Sp) (s k n : Nat) : Prop := ¬ gBn G ((s * 3 + k) * 12 + n) < 0
def nmV (G : Sp) (s k n : Nat) : Nat := (gBn G ((s * 3 + k) * 12 + n)).toNatClampNeg
def trn (G : Sp) (s v k : Nat) : Prop := ruH G s 18 ∧ (gVa G (ruV G s 18) v ↔ k = 19)
/-- a keyword that asks for one schema in place -/
def AskS (G : Sp) (s v k x w : Nat) : Prop := ruH G s k ∧ x = ruV G s k ∧ w = v
def BadS (G : Sp) (s v k b : Nat) : Prop := b = k ∧ ruH G s k ∧ ¬ gVa G (ruV G s k) v
def MrkS (G : Sp) (s v k i : Nat) : Prop := ruH G s k ∧ gMk G (ruV G s k) v i
/-- a list of them -/
def AskL (G : Sp) (s v k x w : Nat) : Prop := w = v ∧ ∃ i, i < lsL G s k ∧ x = lsV G s k i
noncomputable def cntL' (G : Sp) (s v k : Nat) : Nat := cN (fun i => gVa G (lsV G s k i) v) (lsL G s k)
def BadL (G : Sp) (s v k b : Nat) : Prop := b = 29 + k ∧ 0 < lsL G s k ∧ ¬ (if k = 0 then cntL' G s v k = lsL G s k else if k = 1 then 0 < cntL' G s v k else cntL' G s v k = 1)
def MrkL (G : Sp) (s v k i : Nat) : Prop := ∃ j, j < lsL G s k ∧ gMk G (lsV G s k j) v i
def AskIn (G : Sp) (s v x w : Nat) : Prop := AskS G s v 17 x w ∨ AskS G s v 18 x w ∨ (trn G s v 19 ∧ AskS G s v 19 x w) ∨ (trn G s v 20 ∧ AskS G s v 20 x w) ∨ AskS G s v 21 x w ∨ AskL G s v 0 x w ∨ AskL G s v 1 x w ∨ AskL G s v 2 x w
def BadIn (G : Sp) (s v b : Nat) : Prop := (b = 17 ∧ ruH G s 17 ∧ gVa G (ruV G s 17) v) ∨ (trn G s v 19 ∧ BadS G s v 19 b) ∨ (trn G s v 20 ∧ BadS G s v 20 b) ∨ BadS G s v 21 b ∨ BadL G s v 0 b ∨ BadL G s v 1 b ∨ BadL G s v 2 b
def MrkIn (G : Sp) (s v i : Nat) : Prop := MrkS G s v 18 i ∨ (trn G s v 19 ∧ MrkS G s v 19 i) ∨ (trn G s v 20 ∧ MrkS G s v 20 i) ∨ MrkS G s v 21 i ∨ MrkL G s v 0 i ∨ MrkL G s v 1 i ∨ MrkL G s v 2 i
/-- elements -/
def AskEl (G : Sp) (s v x w : Nat) : Prop := ∃ i, i < 12 ∧ gPb G v i ∧ w = gPt G v i ∧ ((i < lsL G s 3 ∧ x = lsV G s 3 i) ∨ (lsL G s 3 ≤ i ∧ ruH G s 22 ∧ x = ruV G s 22))
def BadEl (G : Sp) (s v b : Nat) : Prop := ∃ i, i < 12 ∧ gPb G v i ∧ ((b = 32 ∧ i < lsL G s 3 ∧ ¬ gVa G (lsV G s 3 i) (gPt G v i)) ∨ (b = 22 ∧ lsL G s 3 ≤ i ∧ ruH G s 22 ∧ ¬ gVa G (ruV G s 22) (gPt G v i)))
def MrkEl (G : Sp) (s v i : Nat) : Prop := i < 12 ∧ gPb G v i ∧ (i < lsL G s 3 ∨ ruH G s 22)
/-- contains -/
def AskCo (G : Sp) (s v x w : Nat) : Prop := ruH G s 23 ∧ x = ruV G s 23 ∧ ∃ i, i < 12 ∧ gPb G v i ∧ w = gPt G v i
def MrkCo (G : Sp) (s v i : Nat) : Prop := ruH G s 23 ∧ i < 12 ∧ gPb G v i ∧ gVa G (ruV G s 23) (gPt G v i)
noncomputable def cntC (G : Sp) (s v : Nat) : Nat := cN (fun i => gPb G v i ∧ gVa G (ruV G s 23) (gPt G v i)) 12
def BadCo (G : Sp) (s v b : Nat) : Prop := ruH G s 23 ∧ ((b = 23 ∧ ((ruH G s 24 ∧ cntC G s v < ruV G s 24) ∨ (¬ ruH G s 24 ∧ cntC G s v < 1))) ∨ (b = 25 ∧ ruH G s 25 ∧ ruV G s 25 < cntC G s v))
/-- members -/
def AskMe (G : Sp) (s v x w : Nat) : Prop := ∃ n, n < 12 ∧ gPb G v n ∧ ((nmH G s 0 n ∧ x = nmV G s 0 n ∧ w = gPt G v n) ∨ (¬ nmH G s 0 n ∧ ruH G s 26 ∧ x = ruV G s 26 ∧ w = gPt G v n) ∨ (nmH G s 1 n ∧ x = nmV G s 1 n ∧ w = v))
def BadMe (G : Sp) (s v b : Nat) : Prop := ∃ n, n < 12 ∧ gPb G v n ∧ ((b = 33 ∧ nmH G s 0 n ∧ ¬ gVa G (nmV G s 0 n) (gPt G v n)) ∨ (b = 26 ∧ ¬ nmH G s 0 n ∧ ruH G s 26 ∧ ¬ gVa G (ruV G s 26) (gPt G v n)) ∨ (b = 34 ∧ nmH G s 1 n ∧ ¬ gVa G (nmV G s 1 n) v) ∨
  (b = 35 ∧ nmH G s 2 n ∧ ∃ i, i < 12 ∧ bt (gBn G ((s * 3 + 2) * 12 + n)) i = true ∧ ¬ gPb G v i))
def MrkMe (G : Sp) (s v i : Nat) : Prop := ∃ n, n < 12 ∧ gPb G v n ∧ ((i = n ∧ (nmH G s 0 n ∨ ruH G s 26)) ∨ (nmH G s 1 n ∧ gMk G (nmV G s 1 n) v i))
/-- the marks before OTHERS and REST -/
def Mrk0 (G : Sp) (s v i : Nat) : Prop := MrkIn G s v i ∨ (gK G v = 4 ∧ (MrkEl G s v i ∨ MrkCo G s v i)) ∨ (gK G v = 5 ∧ MrkMe G s v i)
def AskUn (G : Sp) (s v k x w : Nat) : Prop := ruH G s k ∧ x = ruV G s k ∧ ∃ i, i < 12 ∧ gPb G v i ∧ ¬ Mrk0 G s v i ∧ w = gPt G v i
def BadUn (G : Sp) (s v k b : Nat) : Prop := b = k ∧ ruH G s k ∧ ∃ i, i < 12 ∧ gPb G v i ∧ ¬ Mrk0 G s v i ∧ ¬ gVa G (ruV G s k) (gPt G v i)
def MrkUn (G : Sp) (s v k i : Nat) : Prop := ruH G s k ∧ i < 12 ∧ gPb G v i ∧ ¬ Mrk0 G s v i
def BadPl (G : Sp) (s v b : Nat) : Prop := b < 17 ∧ ruH G s b ∧ ¬ gPL G s v b
def Ask (G : Sp) (s v x w : Nat) : Prop := AskIn G s v x w ∨ (gK G v = 4 ∧ (AskEl G s v x w ∨ AskCo G s v x w ∨ AskUn G s v 28 x w)) ∨ (gK G v = 5 ∧ (AskMe G s v x w ∨ AskUn G s v 27 x w))
def Bad (G : Sp) (s v b : Nat) : Prop := BadPl G s v b ∨ BadIn G s v b ∨ (gK G v = 4 ∧ (BadEl G s v b ∨ BadCo G s v b ∨ BadUn G s v 28 b)) ∨ (gK G v = 5 ∧ (BadMe G s v b ∨ BadUn G s v 27 b))
def Mrk1 (G : Sp) (s v i : Nat) : Prop := Mrk0 G s v i ∨ (gK G v = 4 ∧ MrkUn G s v 28 i) ∨ (gK G v = 5 ∧ MrkUn G s v 27 i)
/-- a chain of j pairs from a pair on -/
def Path (G : Sp) : Nat → Nat → Nat → Prop
  | 0, _, _ => True
  | 1, _, _ => True
  | j + 2, s, v => ∃ x w, Ask G s v x w ∧ Path G (j + 1) x w
theorem Path.s {G : Sp} {j s v : Nat} (hj : 1 ≤ j) : Path G (j + 1) s v ↔ ∃ x w, Ask G s v x w ∧ Path G j x w := by
  obtain ⟨k, rfl⟩ := Nat.exists_eq_add_of_le hj
  rw [Nat.add_comm 1 k]; exact Iff.rfl
theorem Path.down {G : Sp} : ∀ i j, j ≤ i → ∀ s v, Path G i s v → Path G j s v := by
  intro i
  induction i with
  | zero => intro j hj s v _; obtain rfl : j = 0 := by omega
            trivial
  | succ i ih =>
    intro j hj s v h
    match j with
    | 0 => trivial
    | 1 => trivial
    | j + 2 =>
      rw [Path.s (by omega)] at h
      obtain ⟨x, w, h1, h2⟩ := h
      exact ⟨x, w, h1, ih (j + 1) (by omega) x w h2⟩
/-- the order of judging -/
def mu (lv : Nat → Nat) (s v : Nat) : Nat := 32 * v + (24 - lv s)
/-- what the oracle owes, on the pairs R -/
def Ctx (G : Sp) (R : Nat → Nat → Prop) (lv : Nat → Nat) : Prop :=
  (∀ s v, R s v → (gVa G s v ↔ ∀ b, b < 36 → ¬ Bad G s v b) ∧ ∀ i, gMk G s v i ↔ gVa G s v ∧ Mrk1 G s v i) ∧
  (∀ s v x w, R s v → Ask G s v x w → R x w ∧ mu lv x w < mu lv s v) ∧ (∀ s v, R s v → s < 24 ∧ v < 40) ∧ (∀ v i, gPb G v i → i < 12)
/-! ===== the state of a judging ===== -/
def bL (x : Int64) (i : Nat) : Bool := x.toBitVec.getLsbD i
theorem bL_ext {x y : Int64} (h : ∀ i, i < 64 → bL x i = bL y i) : x = y := Int64.toBitVec_inj.mp (BitVec.eq_of_getLsbD_eq (fun i hi => h i hi))
theorem bL_or (x y : Int64) (i : Nat) : bL (x ||| y) i = (bL x i || bL y i) := by unfold bL; rw [Int64.toBitVec_or, BitVec.getLsbD_or]
theorem bL_0 (i : Nat) : bL 0 i = false := BitVec.getLsbD_zero
theorem bL_s : ∀ k, k < 64 → ((1 : Int64) <<< ((nI k).toInt64 &&& 63)).toBitVec = BitVec.twoPow 64 k := by decide +kernel
theorem bL_shl1 {k : Nat} (hk : k < 64) (i : Nat) : bL ((1 : Int64) <<< ((nI k).toInt64 &&& 63)) i = decide (i = k) := by
  unfold bL
  rw [bL_s k hk, BitVec.getLsbD_twoPow]
  by_cases e : i = k
  · subst e; simp [hk]
  · simp [e]; intro _ q; exact e q.symm
theorem bL_z {x : Int64} : x = 0 ↔ ∀ i, i < 64 → ¬ bL x i = true := by
  refine ⟨fun h i _ => by rw [h, bL_0]; decide, fun h => bL_ext (fun i hi => ?_)⟩
  rw [bL_0]; exact Bool.eq_false_iff.mpr (h i hi)
/-- a pair that is done -/
def JGood (G : Sp) (ch ma : Nat → Int32) (br : Nat → Int64) (s v : Nat) : Prop :=
  (∃ c, ch (v * 24 + s) = nI c ∧ 1 ≤ c ∧ c ≤ 30 ∧ ∀ j, 1 ≤ j → (j ≤ c ↔ Path G j s v)) ∧ (∀ k, k < 64 → (bL (br (v * 24 + s)) k = true ↔ k < 36 ∧ Bad G s v k)) ∧ (∀ i, i < 32 → (bt (ma (v * 24 + s)) i = true ↔ gMk G s v i)) ∧ ∀ x w, Ask G s v x w → ¬ ch (w * 24 + x) = 0
def JZero (ch ma : Nat → Int32) (br : Nat → Int64) (s v : Nat) : Prop := ch (v * 24 + s) = 0 ∧ ma (v * 24 + s) = 0 ∧ br (v * 24 + s) = 0
def Jinv (G : Sp) (R : Nat → Nat → Prop) (lv : Nat → Nat) (lim : Nat) (ch ma : Nat → Int32) (br : Nat → Int64) : Prop :=
  ∀ s v, s < 24 → v < 40 → mu lv s v < lim → JZero ch ma br s v ∨ (R s v ∧ JGood G ch ma br s v)
/-- a pair under way: A are asked, B broken, M marked -/
def St (G : Sp) (R : Nat → Nat → Prop) (lv : Nat → Nat) (s v dp : Nat) (A : Nat → Nat → Prop) (B M : Nat → Prop) (ch ma : Nat → Int32) (br : Nat → Int64) : Prop :=
  Jinv G R lv (mu lv s v) ch ma br ∧ (∃ c, ch (v * 24 + s) = nI c ∧ 1 ≤ c ∧ c + dp ≤ 31 ∧ ∀ j, 1 ≤ j → (j ≤ c ↔ (j = 1 ∨ ∃ x w, A x w ∧ Path G (j - 1) x w))) ∧ (∀ x w, A x w → Ask G s v x w ∧ ¬ ch (w * 24 + x) = 0) ∧
  (∀ k, k < 64 → (bL (br (v * 24 + s)) k = true ↔ B k)) ∧ ∀ i, i < 32 → (bt (ma (v * 24 + s)) i = true ↔ M i)
/-- what may have changed while a pair was under way -/
def Fr (lv : Nat → Nat) (s v : Nat) (ch ma : Nat → Int32) (br : Nat → Int64) (ch' ma' : Nat → Int32) (br' : Nat → Int64) : Prop :=
  ∀ x w, x < 24 → w < 40 → ¬ (x = s ∧ w = v) → (mu lv s v ≤ mu lv x w ∨ ¬ ch (w * 24 + x) = 0) → ch' (w * 24 + x) = ch (w * 24 + x) ∧ ma' (w * 24 + x) = ma (w * 24 + x) ∧ br' (w * 24 + x) = br (w * 24 + x)
theorem Fr.refl {lv : Nat → Nat} {s v : Nat} {ch ma : Nat → Int32} {br : Nat → Int64} : Fr lv s v ch ma br ch ma br := fun _ _ _ _ _ _ => ⟨rfl, rfl, rfl⟩
theorem Fr.trans {lv : Nat → Nat} {s v : Nat} {ch ma ch' ma' ch2 ma2 : Nat → Int32} {br br' br2 : Nat → Int64} (h : Fr lv s v ch ma br ch' ma' br') (h' : Fr lv s v ch' ma' br' ch2 ma2 br2) : Fr lv s v ch ma br ch2 ma2 br2 := by
  intro x w hx hw hn hc
  obtain ⟨a1, a2, a3⟩ := h x w hx hw hn hc
  obtain ⟨b1, b2, b3⟩ := h' x w hx hw hn (hc.elim Or.inl (fun q => Or.inr (by rw [a1]; exact q)))
  exact ⟨b1.trans a1, b2.trans a2, b3.trans a3⟩
/-- the effect of a piece of the judging of s and v; Z: what its answer says -/
def Ef (G : Sp) (R : Nat → Nat → Prop) (lv : Nat → Nat) (s v dp : Nat) (A1 : Nat → Nat → Prop) (B1 M1 : Nat → Prop) (Z : Prop) (ch ma : Nat → Int32) (br : Nat → Int64) (tl : Int32) (ch' ma' : Nat → Int32) (br' : Nat → Int64) (tl' : Int32) : Prop :=
  (tl = 1 → tl' = 1) ∧ (tl = 0 → R s v → ∀ A B M, St G R lv s v dp A B M ch ma br → (tl' = 1 ∧ Path G (32 - dp) s v) ∨
    (tl' = 0 ∧ St G R lv s v dp (fun x w => A x w ∨ A1 x w) (fun b => B b ∨ B1 b) (fun i => M i ∨ M1 i) ch' ma' br' ∧ Fr lv s v ch ma br ch' ma' br' ∧ Z))
theorem St.congr {G : Sp} {R : Nat → Nat → Prop} {lv : Nat → Nat} {s v dp : Nat} {A A' : Nat → Nat → Prop} {B M B' M' : Nat → Prop} {ch ma : Nat → Int32} {br : Nat → Int64} (h : St G R lv s v dp A B M ch ma br) (hA : ∀ x w, A x w ↔ A' x w) (hB : ∀ b, B b ↔ B' b) (hM : ∀ i, M i ↔ M' i) : St G R lv s v dp A' B' M' ch ma br := by
  have e1 : A = A' := funext (fun x => funext (fun w => propext (hA x w)))
  have e2 : B = B' := funext (fun b => propext (hB b))
  have e3 : M = M' := funext (fun i => propext (hM i))
  rw [← e1, ← e2, ← e3]; exact h
theorem Ef.congr {G : Sp} {R : Nat → Nat → Prop} {lv : Nat → Nat} {s v dp : Nat} {A A' : Nat → Nat → Prop} {B M B' M' : Nat → Prop} {Z Z' : Prop} {ch ma ch' ma' : Nat → Int32} {br br' : Nat → Int64} {tl tl' : Int32} (h : Ef G R lv s v dp A B M Z ch ma br tl ch' ma' br' tl') (hA : ∀ x w, A x w ↔ A' x w) (hB : ∀ b, B b ↔ B' b) (hM : ∀ i, M i ↔ M' i) (hZ : Z → Z') : Ef G R lv s v dp A' B' M' Z' ch ma br tl ch' ma' br' tl' := by
  have e1 : A = A' := funext (fun x => funext (fun w => propext (hA x w)))
  have e2 : B = B' := funext (fun b => propext (hB b))
  have e3 : M = M' := funext (fun i => propext (hM i))
  rw [← e1, ← e2, ← e3]
  refine ⟨h.1, fun ht hR A0 B0 M0 hs => ?_⟩
  rcases h.2 ht hR A0 B0 M0 hs with q | ⟨q1, q2, q3, q4⟩
  · exact Or.inl q
  · exact Or.inr ⟨q1, q2, q3, hZ q4⟩
theorem Ef.refl {G : Sp} {R : Nat → Nat → Prop} {lv : Nat → Nat} {s v dp : Nat} {Z : Prop} {ch ma : Nat → Int32} {br : Nat → Int64} {tl : Int32} (hZ : Z) : Ef G R lv s v dp (fun _ _ => False) (fun _ => False) (fun _ => False) Z ch ma br tl ch ma br tl :=
  ⟨id, fun ht _ A B M h => Or.inr ⟨ht, h.congr (fun _ _ => ⟨Or.inl, fun q => q.elim id False.elim⟩) (fun _ => ⟨Or.inl, fun q => q.elim id False.elim⟩) (fun _ => ⟨Or.inl, fun q => q.elim id False.elim⟩), Fr.refl, hZ⟩⟩
theorem Ef.trans {G : Sp} {R : Nat → Nat → Prop} {lv : Nat → Nat} {s v dp : Nat} {A A' : Nat → Nat → Prop} {B M B' M' : Nat → Prop} {Z Z' : Prop} {ch ma ch' ma' ch2 ma2 : Nat → Int32} {br br' br2 : Nat → Int64} {tl tl' tl2 : Int32} (h : Ef G R lv s v dp A B M Z ch ma br tl ch' ma' br' tl') (h1 : tl' = 1 → tl2 = 1) (h' : Z → Ef G R lv s v dp A' B' M' Z' ch' ma' br' tl' ch2 ma2 br2 tl2) : Ef G R lv s v dp (fun x w => A x w ∨ A' x w) (fun b => B b ∨ B' b) (fun i => M i ∨ M' i) (Z ∧ Z') ch ma br tl ch2 ma2 br2 tl2 := by
  refine ⟨fun q => h1 (h.1 q), fun ht hR A0 B0 M0 hs => ?_⟩
  rcases h.2 ht hR A0 B0 M0 hs with ⟨q1, q2⟩ | ⟨q1, q2, q3, q4⟩
  · exact Or.inl ⟨h1 q1, q2⟩
  · rcases (h' q4).2 q1 hR _ _ _ q2 with ⟨p1, p2⟩ | ⟨p1, p2, p3, p4⟩
    · exact Or.inl ⟨p1, p2⟩
    · exact Or.inr ⟨p1, p2.congr (fun _ _ => or_assoc) (fun _ => or_assoc) (fun _ => or_assoc), q3.trans p3, q4, p4⟩
