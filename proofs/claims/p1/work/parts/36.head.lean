def V_Lh (L : Nat) (i k0 : Int32) (P0 P1 P2 P3 P4 P5 P6 P7 P8 P9 P10 P11 P12 P13 P14 P15 P16 PD PE : Prop) : Prop :=
  ((((Int32.ofNat L) - 5) < i → PE) ∧ (¬ ((Int32.ofNat L) - 5) < i → (vp_in i L ∧ ((((k0 &&& 31) = 0) → P0) ∧ (((k0 &&& 31) = 1) → P1) ∧ (((k0 &&& 31) = 2) → P2) ∧ (((k0 &&& 31) = 3) → P3) ∧ (((k0 &&& 31) = 4) → P4) ∧ (((k0 &&& 31) = 5) → P5) ∧ (((k0 &&& 31) = 6) → P6) ∧ (((k0 &&& 31) = 7) → P7) ∧ (((k0 &&& 31) = 8) → P8) ∧ (((k0 &&& 31) = 9) → P9) ∧ (((k0 &&& 31) = 10) → P10) ∧ (((k0 &&& 31) = 11) → P11) ∧ (((k0 &&& 31) = 12) → P12) ∧ (((k0 &&& 31) = 13) → P13) ∧ (((k0 &&& 31) = 14) → P14) ∧ (((k0 &&& 31) = 15) → P15) ∧ (((k0 &&& 31) = 16) → P16) ∧ ((((k0 &&& 31 : Int32).toInt < 0 ∨ 16 < (k0 &&& 31 : Int32).toInt)) → PD)))))
set_option maxHeartbeats 4000000 in
set_option maxRecDepth 100000 in
theorem g_Lh {p : Program} {l : Launch} {e : Env} {R : Room} {s : State} {m : MethodId} {args : Array Value} {below : List Frame} {meth : Method} {c : Code} {H : Heap} {locs : List Loc} {cells slots : Nat} {Q : State → Prop} {ls : Array Slot} {A : Nat → Prop} (S : CallFix p m c code 7 s args W0 "SchemaJudgeLaw") (a b : Nat → Nat) (sc L : Nat) (xs : Nat → Int32) (i k0 : Int32) (hXs : va_X sc L xs s s.heap) (hbl : sc < s.heap.size) (hbA : ¬ A sc) (e0 : xs i.toNatClampNeg = k0) (hS : va_S A s.heap H locs) (hl : lv_has ls 7 [(0, .ref sc), (1, .ref (a 24)), (2, .ref (b 0)), (3, .ref (a 25)), (4, .int i)]) {P0 P1 P2 P3 P4 P5 P6 P7 P8 P9 P10 P11 P12 P13 P14 P15 P16 PD PE : Prop} (vc : V_Lh L i k0 P0 P1 P2 P3 P4 P5 P6 P7 P8 P9 P10 P11 P12 P13 P14 P15 P16 PD PE)
    (tP0 : P0 → W p l e R s m args below meth c H locs cells slots Q (F0 m 120 ls []))
    (tP1 : P1 → W p l e R s m args below meth c H locs cells slots Q (F0 m 176 ls []))
    (tP2 : P2 → W p l e R s m args below meth c H locs cells slots Q (F0 m 248 ls []))
    (tP3 : P3 → W p l e R s m args below meth c H locs cells slots Q (F0 m 316 ls []))
    (tP4 : P4 → W p l e R s m args below meth c H locs cells slots Q (F0 m 372 ls []))
    (tP5 : P5 → W p l e R s m args below meth c H locs cells slots Q (F0 m 440 ls []))
    (tP6 : P6 → W p l e R s m args below meth c H locs cells slots Q (F0 m 500 ls []))
    (tP7 : P7 → W p l e R s m args below meth c H locs cells slots Q (F0 m 580 ls []))
    (tP8 : P8 → W p l e R s m args below meth c H locs cells slots Q (F0 m 672 ls []))
    (tP9 : P9 → W p l e R s m args below meth c H locs cells slots Q (F0 m 716 ls []))
    (tP10 : P10 → W p l e R s m args below meth c H locs cells slots Q (F0 m 776 ls []))
    (tP11 : P11 → W p l e R s m args below meth c H locs cells slots Q (F0 m 856 ls []))
    (tP12 : P12 → W p l e R s m args below meth c H locs cells slots Q (F0 m 928 ls []))
    (tP13 : P13 → W p l e R s m args below meth c H locs cells slots Q (F0 m 1003 ls []))
    (tP14 : P14 → W p l e R s m args below meth c H locs cells slots Q (F0 m 1071 ls []))
    (tP15 : P15 → W p l e R s m args below meth c H locs cells slots Q (F0 m 1084 ls []))
    (tP16 : P16 → W p l e R s m args below meth c H locs cells slots Q (F0 m 1140 ls []))
    (tPD : PD → W p l e R s m args below meth c H locs cells slots Q (F0 m 1215 ls []))
    (tPE : PE → W p l e R s m args below meth c H locs cells slots Q (F0 m 1221 ls [])) : W p l e R s m args below meth c H locs cells slots Q (F0 m 23 ls []) := by
  have hx := S.1
  have hb := S.2.1
  unfold V_Lh at vc
  refine lv_iload hx hb d_La_law_23 (lv_at hl 4 rfl) ?_
  refine lv_aload_n hx hb d_La_law_25 rfl (lv_at hl 0 rfl) ?_
  refine va_slen hx hb hXs hbl hbA hS d_La_law_26 ?_
  refine lv_iconst (v := 5) hx hb d_La_law_27 (by decide) ?_
  refine lv_isub hx hb d_La_law_28 ?_
  refine lv_icmp_gt (tgt := 1221) hx hb d_La_law_29 (by decide) (fun h => ?_) (fun h => ?_)
  · have vc := vc.1 h
    exact tPE vc
  · have vc := vc.2 h
    refine lv_aload_n hx hb d_La_law_32 rfl (lv_at hl 0 rfl) ?_
    refine lv_iload hx hb d_La_law_33 (lv_at hl 4 rfl) ?_
    obtain ⟨vcb, vc⟩ := vc
    refine va_sld hx hb hXs hbl hbA hS vcb d_La_law_35 ?_
    rw [e0]
    refine lv_bipush (v := 31) hx hb d_La_law_36 (by decide) ?_
    refine lv_iand hx hb d_La_law_38 ?_
    refine lv_topi (fun xs es => ?_)
    have a120 : ((k0 &&& 31) = 0) → W p l e R s m args below meth c H locs cells slots Q (F0 m 120 ls []) := by
      intro h
      have vc := vc.1 h
      exact tP0 vc
    have a176 : ((k0 &&& 31) = 1) → W p l e R s m args below meth c H locs cells slots Q (F0 m 176 ls []) := by
      intro h
      have vc := vc.2.1 h
      exact tP1 vc
    have a248 : ((k0 &&& 31) = 2) → W p l e R s m args below meth c H locs cells slots Q (F0 m 248 ls []) := by
      intro h
      have vc := vc.2.2.1 h
      exact tP2 vc
    have a316 : ((k0 &&& 31) = 3) → W p l e R s m args below meth c H locs cells slots Q (F0 m 316 ls []) := by
      intro h
      have vc := vc.2.2.2.1 h
      exact tP3 vc
    have a372 : ((k0 &&& 31) = 4) → W p l e R s m args below meth c H locs cells slots Q (F0 m 372 ls []) := by
      intro h
      have vc := vc.2.2.2.2.1 h
      exact tP4 vc
    have a440 : ((k0 &&& 31) = 5) → W p l e R s m args below meth c H locs cells slots Q (F0 m 440 ls []) := by
      intro h
      have vc := vc.2.2.2.2.2.1 h
      exact tP5 vc
    have a500 : ((k0 &&& 31) = 6) → W p l e R s m args below meth c H locs cells slots Q (F0 m 500 ls []) := by
      intro h
      have vc := vc.2.2.2.2.2.2.1 h
      exact tP6 vc
    have a580 : ((k0 &&& 31) = 7) → W p l e R s m args below meth c H locs cells slots Q (F0 m 580 ls []) := by
      intro h
      have vc := vc.2.2.2.2.2.2.2.1 h
      exact tP7 vc
    have a672 : ((k0 &&& 31) = 8) → W p l e R s m args below meth c H locs cells slots Q (F0 m 672 ls []) := by
      intro h
      have vc := vc.2.2.2.2.2.2.2.2.1 h
      exact tP8 vc
    have a716 : ((k0 &&& 31) = 9) → W p l e R s m args below meth c H locs cells slots Q (F0 m 716 ls []) := by
      intro h
      have vc := vc.2.2.2.2.2.2.2.2.2.1 h
      exact tP9 vc
    have a776 : ((k0 &&& 31) = 10) → W p l e R s m args below meth c H locs cells slots Q (F0 m 776 ls []) := by
      intro h
      have vc := vc.2.2.2.2.2.2.2.2.2.2.1 h
      exact tP10 vc
    have a856 : ((k0 &&& 31) = 11) → W p l e R s m args below meth c H locs cells slots Q (F0 m 856 ls []) := by
      intro h
      have vc := vc.2.2.2.2.2.2.2.2.2.2.2.1 h
      exact tP11 vc
    have a928 : ((k0 &&& 31) = 12) → W p l e R s m args below meth c H locs cells slots Q (F0 m 928 ls []) := by
      intro h
      have vc := vc.2.2.2.2.2.2.2.2.2.2.2.2.1 h
      exact tP12 vc
    have a1003 : ((k0 &&& 31) = 13) → W p l e R s m args below meth c H locs cells slots Q (F0 m 1003 ls []) := by
      intro h
      have vc := vc.2.2.2.2.2.2.2.2.2.2.2.2.2.1 h
      exact tP13 vc
    have a1071 : ((k0 &&& 31) = 14) → W p l e R s m args below meth c H locs cells slots Q (F0 m 1071 ls []) := by
      intro h
      have vc := vc.2.2.2.2.2.2.2.2.2.2.2.2.2.2.1 h
      exact tP14 vc
    have a1084 : ((k0 &&& 31) = 15) → W p l e R s m args below meth c H locs cells slots Q (F0 m 1084 ls []) := by
      intro h
      have vc := vc.2.2.2.2.2.2.2.2.2.2.2.2.2.2.2.1 h
      exact tP15 vc
    have a1140 : ((k0 &&& 31) = 16) → W p l e R s m args below meth c H locs cells slots Q (F0 m 1140 ls []) := by
      intro h
      have vc := vc.2.2.2.2.2.2.2.2.2.2.2.2.2.2.2.2.1 h
      exact tP16 vc
    have a1215 : (((k0 &&& 31 : Int32).toInt < 0 ∨ 16 < (k0 &&& 31 : Int32).toInt)) → W p l e R s m args below meth c H locs cells slots Q (F0 m 1215 ls []) := by
      intro h
      have vc := vc.2.2.2.2.2.2.2.2.2.2.2.2.2.2.2.2.2 h
      exact tPD vc
    by_cases h0 : xs.toInt < 0 ∨ 16 < xs.toInt
    · exact lv_tableOut (tgt := 1215) hx hb d_La_law_39 h0 (by decide) (a1215 ((by rw [← es]; exact h0)))
    · obtain ⟨k, hk, rfl⟩ := sw_of (lo := 0) (n := 16) (fun h => h0 (Or.inl h)) (fun h => h0 (Or.inr h))
      have hk : k = 0 ∨ k = 1 ∨ k = 2 ∨ k = 3 ∨ k = 4 ∨ k = 5 ∨ k = 6 ∨ k = 7 ∨ k = 8 ∨ k = 9 ∨ k = 10 ∨ k = 11 ∨ k = 12 ∨ k = 13 ∨ k = 14 ∨ k = 15 ∨ k = 16 := by omega
      rcases hk with rfl | rfl | rfl | rfl | rfl | rfl | rfl | rfl | rfl | rfl | rfl | rfl | rfl | rfl | rfl | rfl | rfl
      · exact lv_tableIn (off := 81) (tgt := 120) hx hb d_La_law_39 (by decide) (by decide) (by decide) (by decide) (a120 (es.symm))
      · exact lv_tableIn (off := 137) (tgt := 176) hx hb d_La_law_39 (by decide) (by decide) (by decide) (by decide) (a176 (es.symm))
      · exact lv_tableIn (off := 209) (tgt := 248) hx hb d_La_law_39 (by decide) (by decide) (by decide) (by decide) (a248 (es.symm))
      · exact lv_tableIn (off := 277) (tgt := 316) hx hb d_La_law_39 (by decide) (by decide) (by decide) (by decide) (a316 (es.symm))
      · exact lv_tableIn (off := 333) (tgt := 372) hx hb d_La_law_39 (by decide) (by decide) (by decide) (by decide) (a372 (es.symm))
      · exact lv_tableIn (off := 401) (tgt := 440) hx hb d_La_law_39 (by decide) (by decide) (by decide) (by decide) (a440 (es.symm))
      · exact lv_tableIn (off := 461) (tgt := 500) hx hb d_La_law_39 (by decide) (by decide) (by decide) (by decide) (a500 (es.symm))
      · exact lv_tableIn (off := 541) (tgt := 580) hx hb d_La_law_39 (by decide) (by decide) (by decide) (by decide) (a580 (es.symm))
      · exact lv_tableIn (off := 633) (tgt := 672) hx hb d_La_law_39 (by decide) (by decide) (by decide) (by decide) (a672 (es.symm))
      · exact lv_tableIn (off := 677) (tgt := 716) hx hb d_La_law_39 (by decide) (by decide) (by decide) (by decide) (a716 (es.symm))
      · exact lv_tableIn (off := 737) (tgt := 776) hx hb d_La_law_39 (by decide) (by decide) (by decide) (by decide) (a776 (es.symm))
      · exact lv_tableIn (off := 817) (tgt := 856) hx hb d_La_law_39 (by decide) (by decide) (by decide) (by decide) (a856 (es.symm))
      · exact lv_tableIn (off := 889) (tgt := 928) hx hb d_La_law_39 (by decide) (by decide) (by decide) (by decide) (a928 (es.symm))
      · exact lv_tableIn (off := 964) (tgt := 1003) hx hb d_La_law_39 (by decide) (by decide) (by decide) (by decide) (a1003 (es.symm))
      · exact lv_tableIn (off := 1032) (tgt := 1071) hx hb d_La_law_39 (by decide) (by decide) (by decide) (by decide) (a1071 (es.symm))
      · exact lv_tableIn (off := 1045) (tgt := 1084) hx hb d_La_law_39 (by decide) (by decide) (by decide) (by decide) (a1084 (es.symm))
      · exact lv_tableIn (off := 1101) (tgt := 1140) hx hb d_La_law_39 (by decide) (by decide) (by decide) (by decide) (a1140 (es.symm))
