/-! ===== bits of ints: the family bt of the laws to paste, and what is of use beside it ===== -/
def bt (x : Int32) (i : Nat) : Bool := x.toBitVec.getLsbD i
theorem b_ext {x y : Int32} (h : ∀ i, i < 32 → bt x i = bt y i) : x = y := Int32.toBitVec_inj.mp (BitVec.eq_of_getLsbD_eq (fun i hi => h i hi))
theorem b_or (x y : Int32) (i : Nat) : bt (x ||| y) i = (bt x i || bt y i) := by unfold bt; rw [Int32.toBitVec_or, BitVec.getLsbD_or]
theorem b_and (x y : Int32) (i : Nat) : bt (x &&& y) i = (bt x i && bt y i) := by unfold bt; rw [Int32.toBitVec_and, BitVec.getLsbD_and]
theorem b_xor (x y : Int32) (i : Nat) : bt (x ^^^ y) i = (bt x i ^^ bt y i) := by unfold bt; rw [Int32.toBitVec_xor, BitVec.getLsbD_xor]
theorem b_big {x : Int32} {i : Nat} (h : 32 ≤ i) : bt x i = false := BitVec.getLsbD_of_ge _ _ h
theorem b_m1 : ∀ i, i < 32 → bt (-1) i = true := by decide +kernel
theorem b_0 (i : Nat) : bt 0 i = false := BitVec.getLsbD_zero
theorem s_l : ∀ n, n < 32 → ((nI n &&& 31).toBitVec.smod 32).toNat = n := by decide +kernel
theorem b_shl (n : Nat) (hn : n < 32) (x : Int32) {i : Nat} (hi : i < 32) : bt (x <<< (nI n &&& 31)) i = (decide (n ≤ i) && bt x (i - n)) := by
  unfold bt
  rw [Int32.toBitVec_shiftLeft]
  show (x.toBitVec <<< ((nI n &&& 31).toBitVec.smod 32).toNat).getLsbD i = _
  rw [s_l n hn, BitVec.getLsbD_shiftLeft]
  rcases Nat.lt_or_ge i n with h | h
  · simp [h, Nat.not_le.mpr h]
  · simp [hi, h, Nat.not_lt.mpr h]
theorem b_sshr (n : Nat) (hn : n < 32) (x : Int32) {i : Nat} (hi : i < 32) : bt (x >>> (nI n &&& 31)) i = if n + i < 32 then bt x (n + i) else bt x 31 := by
  unfold bt
  rw [Int32.toBitVec_shiftRight]
  show (x.toBitVec.sshiftRight ((nI n &&& 31).toBitVec.smod 32).toNat).getLsbD i = _
  rw [s_l n hn, BitVec.getLsbD_sshiftRight, BitVec.msb_eq_getLsbD_last]
  simp [hi]
/-! ===== numbers: nI over literals ===== -/
theorem nI_mulR (v n : Nat) : nI v * (no_index (OfNat.ofNat n) : Int32) = nI (v * (OfNat.ofNat n : Nat)) := pk_mul v n
theorem nI_mulL (v n : Nat) : (no_index (OfNat.ofNat n) : Int32) * nI v = nI ((OfNat.ofNat n : Nat) * v) := pk_mul n v
theorem nI_addR (v n : Nat) : nI v + (no_index (OfNat.ofNat n) : Int32) = nI (v + (OfNat.ofNat n : Nat)) := nI_add v n
theorem nI_addL (v n : Nat) : (no_index (OfNat.ofNat n) : Int32) + nI v = nI ((OfNat.ofNat n : Nat) + v) := nI_add n v
theorem nI_sub {v n : Nat} (h : n ≤ v) : nI v - nI n = nI (v - n) := by
  obtain ⟨k, rfl⟩ := Nat.exists_eq_add_of_le h
  rw [← nI_add, Nat.add_sub_cancel_left]
  rw [Int32.add_comm, Int32.add_sub_cancel]
theorem nI_subR {v n : Nat} (h : (OfNat.ofNat n : Nat) ≤ v) : nI v - (no_index (OfNat.ofNat n) : Int32) = nI (v - (OfNat.ofNat n : Nat)) := nI_sub h
theorem nI_leL {n k : Nat} (hn : (OfNat.ofNat n : Nat) < 2 ^ 31) (hk : k < 2 ^ 31) : (no_index (OfNat.ofNat n) : Int32) ≤ nI k ↔ (OfNat.ofNat n : Nat) ≤ k := nI_leI hn hk
theorem nI_leR {n k : Nat} (hn : (OfNat.ofNat n : Nat) < 2 ^ 31) (hk : k < 2 ^ 31) : nI k ≤ (no_index (OfNat.ofNat n) : Int32) ↔ k ≤ (OfNat.ofNat n : Nat) := nI_leI hk hn
theorem nI_ltL {n k : Nat} (hn : (OfNat.ofNat n : Nat) < 2 ^ 31) (hk : k < 2 ^ 31) : (no_index (OfNat.ofNat n) : Int32) < nI k ↔ (OfNat.ofNat n : Nat) < k := nI_ltI hn hk
theorem nI_ltR {n k : Nat} (hn : (OfNat.ofNat n : Nat) < 2 ^ 31) (hk : k < 2 ^ 31) : nI k < (no_index (OfNat.ofNat n) : Int32) ↔ k < (OfNat.ofNat n : Nat) := nI_ltI hk hn
theorem nI_eqR {n k : Nat} (hn : (OfNat.ofNat n : Nat) < 2 ^ 31) (hk : k < 2 ^ 31) : nI k = (no_index (OfNat.ofNat n) : Int32) ↔ k = (OfNat.ofNat n : Nat) := nI_eq hk hn
/-! ===== bits ===== -/
theorem b_one (i : Nat) : bt 1 i = decide (i = 0) := by
  rcases Nat.lt_or_ge i 32 with h | h
  · exact (by decide +kernel : ∀ i, i < 32 → bt 1 i = decide (i = 0)) i h
  · rw [b_big h, decide_eq_false (by omega)]
theorem b_shl1 {k : Nat} (hk : k < 32) (i : Nat) : bt ((1 : Int32) <<< (nI k &&& 31)) i = decide (i = k) := by
  rcases Nat.lt_or_ge i 32 with h | h
  · rw [b_shl k hk _ h, b_one]
    by_cases e : i = k
    · subst e; simp
    · by_cases e2 : k ≤ i
      · simp [e, e2]; omega
      · simp [e, e2]
  · rw [b_big h, decide_eq_false (by omega)]
theorem b_inv (x : Int32) {i : Nat} (hi : i < 32) : bt (x ^^^ (-1)) i = !(bt x i) := by rw [b_xor, b_m1 i hi]; simp
theorem b_bI (b : Bool) (i : Nat) : bt (bI b) i = (b && decide (i = 0)) := by
  cases b
  · simp [bI, b_0]
  · simp [bI, b_one]
theorem b_and1 (x : Int32) {k : Nat} (hk : k < 32) : x >>> (nI k &&& 31) &&& 1 = bI (bt x k) := by
  apply b_ext
  intro i hi
  rw [b_and, b_one, b_sshr k hk _ hi, b_bI]
  by_cases e : i = 0
  · subst e; simp [hk]
  · simp [e]
theorem sBit_bt (x : Int32) {k : Nat} (hk : k < 32) : sBit x (nI k) = bt x k := by
  unfold sBit
  rw [b_and1 x hk]
  cases bt x k <;> simp [bI]
theorem bI1 {b : Bool} : bI b = 1 ↔ b = true := by cases b <;> simp [bI]
theorem bI0 {b : Bool} : bI b = 0 ↔ b = false := by cases b <;> simp [bI]
theorem b_nz {x : Int32} : ¬ x = 0 ↔ ∃ i, i < 32 ∧ bt x i = true := by
  refine ⟨fun h => ?_, fun ⟨i, _, h⟩ e => by rw [e, b_0] at h; cases h⟩
  apply Classical.byContradiction
  intro q
  refine h (b_ext (fun i hi => ?_))
  rw [b_0]
  cases e : bt x i
  · rfl
  · exact absurd ⟨i, hi, e⟩ q
theorem b_nI (n i : Nat) (h : n < 2 ^ 32) : bt (nI n) i = n.testBit i := by
  unfold bt
  rw [BitVec.getLsbD, pk_tn h]
/-! ===== joins ===== -/
theorem jn_t {c : Prop} [Decidable c] {α : Type} {x y : α} {R : α → Prop} (h : R (if c then x else y)) : ∃ J : α → Prop, ((c → J x) ∧ (¬ c → J y)) ∧ ∀ z, J z → R z :=
  ⟨fun z => z = if c then x else y, ⟨fun q => (if_pos q).symm, fun q => (if_neg q).symm⟩, fun z e => e ▸ h⟩
theorem jn_f {c : Prop} [Decidable c] {α : Type} {x y : α} {R : α → Prop} (h : R (if c then x else y)) : ∃ J : α → Prop, ((¬ c → J y) ∧ (c → J x)) ∧ ∀ z, J z → R z :=
  ⟨fun z => z = if c then x else y, ⟨fun q => (if_neg q).symm, fun q => (if_pos q).symm⟩, fun z e => e ▸ h⟩
theorem ite_bI {c : Prop} [Decidable c] : (if c then (1 : Int32) else 0) = bI (decide c) := by by_cases h : c <;> simp [bI, h]
theorem upd_at {f : Nat → Int32} {k : Nat} {x : Int32} : upd f k x k = x := if_pos rfl
theorem upd_ne {f : Nat → Int32} {k j : Nat} {x : Int32} (h : j ≠ k) : upd f k x j = f j := if_neg h
theorem updL_at {f : Nat → Int64} {k : Nat} {x : Int64} : vp_updL f k x k = x := if_pos rfl
theorem updL_ne {f : Nat → Int64} {k j : Nat} {x : Int64} (h : j ≠ k) : vp_updL f k x j = f j := if_neg h
theorem vp_at {f : Nat → Int32} {k N : Nat} (h : vp_in (f k) N) (hN : N < 2 ^ 31) : ∃ n, n < N ∧ f k = nI n ∧ (f k).toNatClampNeg = n := vp_nat h hN
