/-! ===== what holds at the law's entry ===== -/
theorem st_in {w : Cond} (i : Nat) (h : tables_1[i]? = some w) : w ∈ lw_tbl := List.mem_append_right _ (List.mem_of_getElem? h)
theorem strs_in : ∀ q ∈ STRS, Cond.stringRef "SchemaJudge" q.1 q.2 ∈ tables_1 := by decide +kernel
theorem strs_ex : ∀ q ∈ STRS, Cond.exactly (.string "SchemaJudge" q.1) "java/lang/String" ∈ flatC (Jvm.Cond.and given_1 narrow_1) := by decide +kernel
theorem thou_el : ∀ j, j < 7 → Cond.eq (.elem (.static "SchemaJudge" "THOUSANDTHS" "[I") (.int (Int32.ofNat j))) (.int (thou j)) ∈ flatC (Jvm.Cond.and given_1 narrow_1) := by decide +kernel
theorem spk_el : ∀ j, j < 17 → Cond.eq (.elem (.static "SchemaJudge$Plain" "SPEAKS_OF" "[I") (.int (Int32.ofNat j))) (.int (spk j)) ∈ flatC (Jvm.Cond.and given_1 narrow_1) := by decide +kernel
theorem start_eX {args : Array Value} {s : State} {A : Nat → Prop} (hts : ∀ w ∈ lw_tbl, w.before args s = true) (hgv : (Jvm.Cond.and given_1 narrow_1).before args s = true) (hA : ∀ a : Nat, a < s.heap.size → ¬ A a) : eX A s s.heap := by
  have hs := flat_of_before _ hgv
  refine ⟨vx_Zqof (hts _ (st_in 216 (by decide +kernel))) (hts _ (st_in 9 (by decide +kernel))) (hs _ (by decide +kernel)) hA, vx_Zqof (hts _ (st_in 218 (by decide +kernel))) (hts _ (st_in 9 (by decide +kernel))) (hs _ (by decide +kernel)) hA, fun w h => va_Nw.of (show w.onTables = true by have := NG_ok w h; cases w <;> first | rfl | cases this) (hts _ (NG_in w h)), fun q h => ?_, ?_, ?_⟩
  · obtain ⟨a, c, cA, kA, q1, -⟩ := Cond.exactly_spec (args := args) (first := s) (o := none) (s := s) (idx := []) (hs _ (strs_ex q h))
    exact ⟨a, vk_R.of (hts _ (List.mem_append_right _ (strs_in q h))) q1⟩
  · obtain ⟨t, ht, hT⟩ := va_Tof (tm := .static "SchemaJudge" "THOUSANDTHS" "[I") (ty := .int) (N := 7) (f := fun j => .int (thou j)) (A := A) (by decide) (hs _ (by decide +kernel)) (va_eqt (z := Int32.ofNat 7) (hs _ (by decide +kernel))) (fun j hj => va_eqt (hs _ (thou_el j hj))) hA
    exact ⟨t, va_Zof (hts _ (st_in 307 (by decide +kernel))) (hts _ (st_in 1 (by decide +kernel))) ht hA, hT⟩
  · obtain ⟨t, ht, hT⟩ := va_Tof (tm := .static "SchemaJudge$Plain" "SPEAKS_OF" "[I") (ty := .int) (N := 17) (f := fun j => .int (spk j)) (A := A) (by decide) (hs _ (by decide +kernel)) (va_eqt (z := Int32.ofNat 17) (hs _ (by decide +kernel))) (fun j hj => va_eqt (hs _ (spk_el j hj))) hA
    exact ⟨t, va_Zof (hts _ (st_in 571 (by decide +kernel))) (hts _ (st_in 7 (by decide +kernel))) ht hA, hT⟩
theorem start_eN {args : Array Value} {s : State} (hgv : (Jvm.Cond.and given_1 narrow_1).before args s = true) : eN s := by
  have hs := flat_of_before _ hgv
  exact ⟨va_Nc.of (hs _ (by decide +kernel)), va_Nc.of (hs _ (by decide +kernel)), va_Nc.of (hs _ (by decide +kernel))⟩
theorem arr_at {args : Array Value} {s : State} {ty : FieldType} (hty : ty = .int ∨ ty = .long ∨ ty = .boolean) (h : (Cond.arrayClass ty).before args s = true) : ∃ cA : ClassId, ArrOfT s cA ty ∧ va_RA s cA ty := by
  obtain ⟨cA, kA, comp, h1, h2, h3⟩ := Cond.arrayClass_spec h
  refine ⟨cA, fun n z => ⟨fun k h => (by cases h), kA, h2, comp, h3⟩, ?_⟩
  rcases hty with rfl | rfl | rfl <;> exact h1
theorem start_K {args : Array Value} {s : State} (hts : ∀ w ∈ W0, w.before args s = true) : ∃ (D : va_G) (cI cJ cZ : ClassId), va_K D vwCl (tyA cI cJ cZ) s := by
  obtain ⟨d0, i0, h0⟩ := u_known hts in_Ju (hts _ m_Ju)
  obtain ⟨d1, i1, h1⟩ := u_known hts in_Pa (hts _ m_Pa)
  obtain ⟨d2, i2, h2⟩ := u_known hts in_Pl (hts _ m_Pl)
  obtain ⟨d3, i3, h3⟩ := u_known hts in_Sc (hts _ m_Sc)
  obtain ⟨d4, i4, h4⟩ := u_known hts in_Va (hts _ m_Va)
  obtain ⟨d5, i5, h5⟩ := u_known hts in_Sj (hts _ m_Sj)
  obtain ⟨d6, i6, h6⟩ := u_known hts in_Mo (hts _ m_Mo)
  obtain ⟨cI, hI⟩ := arr_at (Or.inl rfl) (hts _ ac_int)
  obtain ⟨cJ, hJ⟩ := arr_at (Or.inr (Or.inl rfl)) (hts _ ac_long)
  obtain ⟨cZ, hZ⟩ := arr_at (Or.inr (Or.inr rfl)) (hts _ ac_boolean)
  refine ⟨(fun c => match c with | 0 => d0 | 1 => d1 | 2 => d2 | 3 => d3 | 4 => d4 | 5 => d5 | _ => d6, fun c => match c with | 0 => i0 | 1 => i1 | 2 => i2 | 3 => i3 | 4 => i4 | 5 => i5 | _ => i6), cI, cJ, cZ, ?_, ?_⟩
  · intro c q hq
    match c, hq with
    | 0, hq => cases hq; exact h0
    | 1, hq => cases hq; exact h1
    | 2, hq => cases hq; exact h2
    | 3, hq => cases hq; exact h3
    | 4, hq => cases hq; exact h4
    | 5, hq => cases hq; exact h5
    | 6, hq => cases hq; exact h6
    | n + 7, hq => simp at hq
  · intro k q hk
    match k, hk with
    | 0, hk => cases hk; exact hI
    | 1, hk => cases hk; exact hJ
    | 2, hk => cases hk; exact hZ
    | n + 3, hk => simp at hk
