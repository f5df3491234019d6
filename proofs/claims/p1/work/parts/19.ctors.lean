set_option maxHeartbeats 8000000 in
set_option maxRecDepth 100000 in
theorem c_Va_init (l : Launch) (D : va_G) (cI cJ cZ : ClassId) (v : Nat) : Cm (S := Nat → Nat) l y_Va_init b_Va_init 1 1 20 5 640 [.ref v] D (tyA cI cJ cZ) [(v, .inr (4, [.null, .null, .null, .null, .null, .int 0, .int 0]))] (fun a => a 0 = v) (fun a => wV a cI cJ (fun _ => 0) (fun _ => 0) (fun _ => 0) (fun _ => 0) (fun _ => 0) 0 0) :=
  cm_of (by decide) rfl (Nat.le_of_ble_eq_true rfl) (fun p e s m below meth c ls Q A S hin hK hP hD hA hS hl hret => by
      have hx := S.1
      have hb := S.2.1
      have hown := S.2.2.2.1
      have hts := S.2.2.2.2
      refine lv_aload_n hx hb d_Va_init_0 rfl (lv_at hl 0 rfl) ?_
      refine W.objInit hx hb hown (hts _ ml_Va_1) (hts _ i_Object) (hts _ k_Object) rfl (by rw [S.2.2.1]; exact hl.1) rfl d_Va_init_1 (Nat.le_of_ble_eq_true rfl) (Nat.le_of_ble_eq_true rfl) ?_
      refine W.eq (g2 := F0 m 4 ls []) rfl ?_
      refine lv_aload_n hx hb d_Va_init_4 rfl (lv_at hl 0 rfl) ?_
      refine lv_bipush (v := 40) hx hb d_Va_init_5 (by decide) ?_
      refine va_newa (atype := .int) (ty := .int) (a0 := (40, .inl (fun _ => 0))) (N' := 40) hx hb (hts _ ac_int) rfl hK hP hD hS hA (fun cA => vp_cell_i cA 40 _) (by decide) (by decide) (Nat.le_of_ble_eq_true rfl) (Nat.le_of_ble_eq_true rfl) (Nat.le_of_ble_eq_true rfl) d_Va_init_7 (fun q1 cA H hK9 hP hD hS => ?_)
      obtain rfl : cI = cA := arr_eq (by simp) (hK.2 0 _ rfl).2 (hK9.2 3 _ rfl).2
      have hP : va_P D vwCl [(v, .inr (4, [.null, .null, .null, .null, .null, .int 0, .int 0])), (q1, .inl (cI, 40, .inl (fun _ => 0)))] H := hP
      have hD : va_D A [(v, .inr (4, [.null, .null, .null, .null, .null, .int 0, .int 0])), (q1, .inl (cI, 40, .inl (fun _ => 0)))] := hD
      refine va_putF (D := D) (ci := 4) (v := .ref q1) (ty := (.array .int)) (C := R_Va) (T := F_Va) (N := 7) hx hb hts in_Va t_Va t_Va_ok n_Va hown hK hP hD hS 0 rfl rfl 0 (by decide) (hts _ fl_Va_9) (fun _ h => h) rfl hin rfl (by decide +kernel) rfl rfl (Nat.le_of_ble_eq_true rfl) d_Va_init_9 (fun H locs hP hD hS => ?_)
      have hP : va_P D vwCl [(v, .inr (4, [.ref q1, .null, .null, .null, .null, .int 0, .int 0])), (q1, .inl (cI, 40, .inl (fun _ => 0)))] H := hP
      have hD : va_D A [(v, .inr (4, [.ref q1, .null, .null, .null, .null, .int 0, .int 0])), (q1, .inl (cI, 40, .inl (fun _ => 0)))] := hD
      refine lv_aload_n hx hb d_Va_init_12 rfl (lv_at hl 0 rfl) ?_
      refine lv_bipush (v := 40) hx hb d_Va_init_13 (by decide) ?_
      refine va_newa (atype := .long) (ty := .long) (a0 := (40, .inr (.inl (fun _ => 0)))) (N' := 40) hx hb (hts _ ac_long) rfl hK hP hD hS hA (fun cA => vp_cell_l cA 40 _) (by decide) (by decide) (Nat.le_of_ble_eq_true rfl) (Nat.le_of_ble_eq_true rfl) (Nat.le_of_ble_eq_true rfl) d_Va_init_15 (fun q2 cA H hK9 hP hD hS => ?_)
      obtain rfl : cJ = cA := arr_eq (by simp) (hK.2 1 _ rfl).2 (hK9.2 3 _ rfl).2
      have hP : va_P D vwCl [(v, .inr (4, [.ref q1, .null, .null, .null, .null, .int 0, .int 0])), (q1, .inl (cI, 40, .inl (fun _ => 0))), (q2, .inl (cJ, 40, .inr (.inl (fun _ => 0))))] H := hP
      have hD : va_D A [(v, .inr (4, [.ref q1, .null, .null, .null, .null, .int 0, .int 0])), (q1, .inl (cI, 40, .inl (fun _ => 0))), (q2, .inl (cJ, 40, .inr (.inl (fun _ => 0))))] := hD
      refine va_putF (D := D) (ci := 4) (v := .ref q2) (ty := (.array .long)) (C := R_Va) (T := F_Va) (N := 7) hx hb hts in_Va t_Va t_Va_ok n_Va hown hK hP hD hS 0 rfl rfl 1 (by decide) (hts _ fl_Va_13) (fun _ h => h) rfl hin rfl (by decide +kernel) rfl rfl (Nat.le_of_ble_eq_true rfl) d_Va_init_17 (fun H locs hP hD hS => ?_)
      have hP : va_P D vwCl [(v, .inr (4, [.ref q1, .ref q2, .null, .null, .null, .int 0, .int 0])), (q1, .inl (cI, 40, .inl (fun _ => 0))), (q2, .inl (cJ, 40, .inr (.inl (fun _ => 0))))] H := hP
      have hD : va_D A [(v, .inr (4, [.ref q1, .ref q2, .null, .null, .null, .int 0, .int 0])), (q1, .inl (cI, 40, .inl (fun _ => 0))), (q2, .inl (cJ, 40, .inr (.inl (fun _ => 0))))] := hD
      refine lv_aload_n hx hb d_Va_init_20 rfl (lv_at hl 0 rfl) ?_
      refine lv_bipush (v := 40) hx hb d_Va_init_21 (by decide) ?_
      refine va_newa (atype := .int) (ty := .int) (a0 := (40, .inl (fun _ => 0))) (N' := 40) hx hb (hts _ ac_int) rfl hK hP hD hS hA (fun cA => vp_cell_i cA 40 _) (by decide) (by decide) (Nat.le_of_ble_eq_true rfl) (Nat.le_of_ble_eq_true rfl) (Nat.le_of_ble_eq_true rfl) d_Va_init_23 (fun q3 cA H hK9 hP hD hS => ?_)
      obtain rfl : cI = cA := arr_eq (by simp) (hK.2 0 _ rfl).2 (hK9.2 3 _ rfl).2
      have hP : va_P D vwCl [(v, .inr (4, [.ref q1, .ref q2, .null, .null, .null, .int 0, .int 0])), (q1, .inl (cI, 40, .inl (fun _ => 0))), (q2, .inl (cJ, 40, .inr (.inl (fun _ => 0)))), (q3, .inl (cI, 40, .inl (fun _ => 0)))] H := hP
      have hD : va_D A [(v, .inr (4, [.ref q1, .ref q2, .null, .null, .null, .int 0, .int 0])), (q1, .inl (cI, 40, .inl (fun _ => 0))), (q2, .inl (cJ, 40, .inr (.inl (fun _ => 0)))), (q3, .inl (cI, 40, .inl (fun _ => 0)))] := hD
      refine va_putF (D := D) (ci := 4) (v := .ref q3) (ty := (.array .int)) (C := R_Va) (T := F_Va) (N := 7) hx hb hts in_Va t_Va t_Va_ok n_Va hown hK hP hD hS 0 rfl rfl 2 (by decide) (hts _ fl_Va_17) (fun _ h => h) rfl hin rfl (by decide +kernel) rfl rfl (Nat.le_of_ble_eq_true rfl) d_Va_init_25 (fun H locs hP hD hS => ?_)
      have hP : va_P D vwCl [(v, .inr (4, [.ref q1, .ref q2, .ref q3, .null, .null, .int 0, .int 0])), (q1, .inl (cI, 40, .inl (fun _ => 0))), (q2, .inl (cJ, 40, .inr (.inl (fun _ => 0)))), (q3, .inl (cI, 40, .inl (fun _ => 0)))] H := hP
      have hD : va_D A [(v, .inr (4, [.ref q1, .ref q2, .ref q3, .null, .null, .int 0, .int 0])), (q1, .inl (cI, 40, .inl (fun _ => 0))), (q2, .inl (cJ, 40, .inr (.inl (fun _ => 0)))), (q3, .inl (cI, 40, .inl (fun _ => 0)))] := hD
      refine lv_aload_n hx hb d_Va_init_28 rfl (lv_at hl 0 rfl) ?_
      refine lv_sipush (v := 480) hx hb d_Va_init_29 (by decide) ?_
      refine va_newa (atype := .int) (ty := .int) (a0 := (480, .inl (fun _ => 0))) (N' := 480) hx hb (hts _ ac_int) rfl hK hP hD hS hA (fun cA => vp_cell_i cA 480 _) (by decide) (by decide) (Nat.le_of_ble_eq_true rfl) (Nat.le_of_ble_eq_true rfl) (Nat.le_of_ble_eq_true rfl) d_Va_init_32 (fun q4 cA H hK9 hP hD hS => ?_)
      obtain rfl : cI = cA := arr_eq (by simp) (hK.2 0 _ rfl).2 (hK9.2 3 _ rfl).2
      have hP : va_P D vwCl [(v, .inr (4, [.ref q1, .ref q2, .ref q3, .null, .null, .int 0, .int 0])), (q1, .inl (cI, 40, .inl (fun _ => 0))), (q2, .inl (cJ, 40, .inr (.inl (fun _ => 0)))), (q3, .inl (cI, 40, .inl (fun _ => 0))), (q4, .inl (cI, 480, .inl (fun _ => 0)))] H := hP
      have hD : va_D A [(v, .inr (4, [.ref q1, .ref q2, .ref q3, .null, .null, .int 0, .int 0])), (q1, .inl (cI, 40, .inl (fun _ => 0))), (q2, .inl (cJ, 40, .inr (.inl (fun _ => 0)))), (q3, .inl (cI, 40, .inl (fun _ => 0))), (q4, .inl (cI, 480, .inl (fun _ => 0)))] := hD
      refine va_putF (D := D) (ci := 4) (v := .ref q4) (ty := (.array .int)) (C := R_Va) (T := F_Va) (N := 7) hx hb hts in_Va t_Va t_Va_ok n_Va hown hK hP hD hS 0 rfl rfl 3 (by decide) (hts _ fl_Va_20) (fun _ h => h) rfl hin rfl (by decide +kernel) rfl rfl (Nat.le_of_ble_eq_true rfl) d_Va_init_34 (fun H locs hP hD hS => ?_)
      have hP : va_P D vwCl [(v, .inr (4, [.ref q1, .ref q2, .ref q3, .ref q4, .null, .int 0, .int 0])), (q1, .inl (cI, 40, .inl (fun _ => 0))), (q2, .inl (cJ, 40, .inr (.inl (fun _ => 0)))), (q3, .inl (cI, 40, .inl (fun _ => 0))), (q4, .inl (cI, 480, .inl (fun _ => 0)))] H := hP
      have hD : va_D A [(v, .inr (4, [.ref q1, .ref q2, .ref q3, .ref q4, .null, .int 0, .int 0])), (q1, .inl (cI, 40, .inl (fun _ => 0))), (q2, .inl (cJ, 40, .inr (.inl (fun _ => 0)))), (q3, .inl (cI, 40, .inl (fun _ => 0))), (q4, .inl (cI, 480, .inl (fun _ => 0)))] := hD
      refine lv_aload_n hx hb d_Va_init_37 rfl (lv_at hl 0 rfl) ?_
      refine lv_bipush (v := 40) hx hb d_Va_init_38 (by decide) ?_
      refine va_newa (atype := .int) (ty := .int) (a0 := (40, .inl (fun _ => 0))) (N' := 40) hx hb (hts _ ac_int) rfl hK hP hD hS hA (fun cA => vp_cell_i cA 40 _) (by decide) (by decide) (Nat.le_of_ble_eq_true rfl) (Nat.le_of_ble_eq_true rfl) (Nat.le_of_ble_eq_true rfl) d_Va_init_40 (fun q5 cA H hK9 hP hD hS => ?_)
      obtain rfl : cI = cA := arr_eq (by simp) (hK.2 0 _ rfl).2 (hK9.2 3 _ rfl).2
      have hP : va_P D vwCl [(v, .inr (4, [.ref q1, .ref q2, .ref q3, .ref q4, .null, .int 0, .int 0])), (q1, .inl (cI, 40, .inl (fun _ => 0))), (q2, .inl (cJ, 40, .inr (.inl (fun _ => 0)))), (q3, .inl (cI, 40, .inl (fun _ => 0))), (q4, .inl (cI, 480, .inl (fun _ => 0))), (q5, .inl (cI, 40, .inl (fun _ => 0)))] H := hP
      have hD : va_D A [(v, .inr (4, [.ref q1, .ref q2, .ref q3, .ref q4, .null, .int 0, .int 0])), (q1, .inl (cI, 40, .inl (fun _ => 0))), (q2, .inl (cJ, 40, .inr (.inl (fun _ => 0)))), (q3, .inl (cI, 40, .inl (fun _ => 0))), (q4, .inl (cI, 480, .inl (fun _ => 0))), (q5, .inl (cI, 40, .inl (fun _ => 0)))] := hD
      refine va_putF (D := D) (ci := 4) (v := .ref q5) (ty := (.array .int)) (C := R_Va) (T := F_Va) (N := 7) hx hb hts in_Va t_Va t_Va_ok n_Va hown hK hP hD hS 0 rfl rfl 4 (by decide) (hts _ fl_Va_23) (fun _ h => h) rfl hin rfl (by decide +kernel) rfl rfl (Nat.le_of_ble_eq_true rfl) d_Va_init_42 (fun H locs hP hD hS => ?_)
      have hP : va_P D vwCl [(v, .inr (4, [.ref q1, .ref q2, .ref q3, .ref q4, .ref q5, .int 0, .int 0])), (q1, .inl (cI, 40, .inl (fun _ => 0))), (q2, .inl (cJ, 40, .inr (.inl (fun _ => 0)))), (q3, .inl (cI, 40, .inl (fun _ => 0))), (q4, .inl (cI, 480, .inl (fun _ => 0))), (q5, .inl (cI, 40, .inl (fun _ => 0)))] H := hP
      have hD : va_D A [(v, .inr (4, [.ref q1, .ref q2, .ref q3, .ref q4, .ref q5, .int 0, .int 0])), (q1, .inl (cI, 40, .inl (fun _ => 0))), (q2, .inl (cJ, 40, .inr (.inl (fun _ => 0)))), (q3, .inl (cI, 40, .inl (fun _ => 0))), (q4, .inl (cI, 480, .inl (fun _ => 0))), (q5, .inl (cI, 40, .inl (fun _ => 0)))] := hD
      exact hret (fun i => match i with | 0 => v | 1 => q1 | 2 => q2 | 3 => q3 | 4 => q4 | _ => q5) ls _ H locs _ _ d_Va_init_45 (Nat.le_of_ble_eq_true rfl) (Nat.le_of_ble_eq_true rfl) rfl hP hD hS)
theorem hd_Va_init : y_Va_init.cls ≠ "java/lang/invoke/MethodHandle" ∧ y_Va_init.cls ≠ "java/lang/invoke/VarHandle" ∧ (parseMethodDescriptor y_Va_init.desc).map (fun d => d.parameters.length) = some 0 := ⟨by decide, by decide, by decide +kernel⟩
set_option maxHeartbeats 8000000 in
set_option maxRecDepth 100000 in
theorem c_Pa_init (l : Launch) (D : va_G) (cI cJ cZ : ClassId) (v : Nat) : Cm (S := Nat → Nat) l y_Pa_init b_Pa_init 1 1 20 5 120 [.ref v] D (tyA cI cJ cZ) [(v, .inr (1, [.null, .null, .null, .null, .null]))] (fun a => a 6 = v) (fun a => wP a cI cZ (fun _ => 0) (fun _ => 0) (fun _ => 0) (fun _ => 0) (fun _ => 0)) :=
  cm_of (by decide) rfl (Nat.le_of_ble_eq_true rfl) (fun p e s m below meth c ls Q A S hin hK hP hD hA hS hl hret => by
      have hx := S.1
      have hb := S.2.1
      have hown := S.2.2.2.1
      have hts := S.2.2.2.2
      refine lv_aload_n hx hb d_Pa_init_0 rfl (lv_at hl 0 rfl) ?_
      refine W.objInit hx hb hown (hts _ ml_Pa_1) (hts _ i_Object) (hts _ k_Object) rfl (by rw [S.2.2.1]; exact hl.1) rfl d_Pa_init_1 (Nat.le_of_ble_eq_true rfl) (Nat.le_of_ble_eq_true rfl) ?_
      refine W.eq (g2 := F0 m 4 ls []) rfl ?_
      refine lv_aload_n hx hb d_Pa_init_4 rfl (lv_at hl 0 rfl) ?_
      refine lv_bipush (v := 8) hx hb d_Pa_init_5 (by decide) ?_
      refine va_newa (atype := .int) (ty := .int) (a0 := (8, .inl (fun _ => 0))) (N' := 8) hx hb (hts _ ac_int) rfl hK hP hD hS hA (fun cA => vp_cell_i cA 8 _) (by decide) (by decide) (Nat.le_of_ble_eq_true rfl) (Nat.le_of_ble_eq_true rfl) (Nat.le_of_ble_eq_true rfl) d_Pa_init_7 (fun q1 cA H hK9 hP hD hS => ?_)
      obtain rfl : cI = cA := arr_eq (by simp) (hK.2 0 _ rfl).2 (hK9.2 3 _ rfl).2
      have hP : va_P D vwCl [(v, .inr (1, [.null, .null, .null, .null, .null])), (q1, .inl (cI, 8, .inl (fun _ => 0)))] H := hP
      have hD : va_D A [(v, .inr (1, [.null, .null, .null, .null, .null])), (q1, .inl (cI, 8, .inl (fun _ => 0)))] := hD
      refine va_putF (D := D) (ci := 1) (v := .ref q1) (ty := (.array .int)) (C := R_Pa) (T := F_Pa) (N := 5) hx hb hts in_Pa t_Pa t_Pa_ok n_Pa hown hK hP hD hS 0 rfl rfl 0 (by decide) (hts _ fl_Pa_9) (fun _ h => h) rfl hin rfl (by decide +kernel) rfl rfl (Nat.le_of_ble_eq_true rfl) d_Pa_init_9 (fun H locs hP hD hS => ?_)
      have hP : va_P D vwCl [(v, .inr (1, [.ref q1, .null, .null, .null, .null])), (q1, .inl (cI, 8, .inl (fun _ => 0)))] H := hP
      have hD : va_D A [(v, .inr (1, [.ref q1, .null, .null, .null, .null])), (q1, .inl (cI, 8, .inl (fun _ => 0)))] := hD
      refine lv_aload_n hx hb d_Pa_init_12 rfl (lv_at hl 0 rfl) ?_
      refine lv_bipush (v := 48) hx hb d_Pa_init_13 (by decide) ?_
      refine va_newa (atype := .int) (ty := .int) (a0 := (48, .inl (fun _ => 0))) (N' := 48) hx hb (hts _ ac_int) rfl hK hP hD hS hA (fun cA => vp_cell_i cA 48 _) (by decide) (by decide) (Nat.le_of_ble_eq_true rfl) (Nat.le_of_ble_eq_true rfl) (Nat.le_of_ble_eq_true rfl) d_Pa_init_15 (fun q2 cA H hK9 hP hD hS => ?_)
      obtain rfl : cI = cA := arr_eq (by simp) (hK.2 0 _ rfl).2 (hK9.2 3 _ rfl).2
      have hP : va_P D vwCl [(v, .inr (1, [.ref q1, .null, .null, .null, .null])), (q1, .inl (cI, 8, .inl (fun _ => 0))), (q2, .inl (cI, 48, .inl (fun _ => 0)))] H := hP
      have hD : va_D A [(v, .inr (1, [.ref q1, .null, .null, .null, .null])), (q1, .inl (cI, 8, .inl (fun _ => 0))), (q2, .inl (cI, 48, .inl (fun _ => 0)))] := hD
      refine va_putF (D := D) (ci := 1) (v := .ref q2) (ty := (.array .int)) (C := R_Pa) (T := F_Pa) (N := 5) hx hb hts in_Pa t_Pa t_Pa_ok n_Pa hown hK hP hD hS 0 rfl rfl 1 (by decide) (hts _ fl_Pa_13) (fun _ h => h) rfl hin rfl (by decide +kernel) rfl rfl (Nat.le_of_ble_eq_true rfl) d_Pa_init_17 (fun H locs hP hD hS => ?_)
      have hP : va_P D vwCl [(v, .inr (1, [.ref q1, .ref q2, .null, .null, .null])), (q1, .inl (cI, 8, .inl (fun _ => 0))), (q2, .inl (cI, 48, .inl (fun _ => 0)))] H := hP
      have hD : va_D A [(v, .inr (1, [.ref q1, .ref q2, .null, .null, .null])), (q1, .inl (cI, 8, .inl (fun _ => 0))), (q2, .inl (cI, 48, .inl (fun _ => 0)))] := hD
      refine lv_aload_n hx hb d_Pa_init_20 rfl (lv_at hl 0 rfl) ?_
      refine lv_bipush (v := 48) hx hb d_Pa_init_21 (by decide) ?_
      refine va_newa (atype := .int) (ty := .int) (a0 := (48, .inl (fun _ => 0))) (N' := 48) hx hb (hts _ ac_int) rfl hK hP hD hS hA (fun cA => vp_cell_i cA 48 _) (by decide) (by decide) (Nat.le_of_ble_eq_true rfl) (Nat.le_of_ble_eq_true rfl) (Nat.le_of_ble_eq_true rfl) d_Pa_init_23 (fun q3 cA H hK9 hP hD hS => ?_)
      obtain rfl : cI = cA := arr_eq (by simp) (hK.2 0 _ rfl).2 (hK9.2 3 _ rfl).2
      have hP : va_P D vwCl [(v, .inr (1, [.ref q1, .ref q2, .null, .null, .null])), (q1, .inl (cI, 8, .inl (fun _ => 0))), (q2, .inl (cI, 48, .inl (fun _ => 0))), (q3, .inl (cI, 48, .inl (fun _ => 0)))] H := hP
      have hD : va_D A [(v, .inr (1, [.ref q1, .ref q2, .null, .null, .null])), (q1, .inl (cI, 8, .inl (fun _ => 0))), (q2, .inl (cI, 48, .inl (fun _ => 0))), (q3, .inl (cI, 48, .inl (fun _ => 0)))] := hD
      refine va_putF (D := D) (ci := 1) (v := .ref q3) (ty := (.array .int)) (C := R_Pa) (T := F_Pa) (N := 5) hx hb hts in_Pa t_Pa t_Pa_ok n_Pa hown hK hP hD hS 0 rfl rfl 2 (by decide) (hts _ fl_Pa_16) (fun _ h => h) rfl hin rfl (by decide +kernel) rfl rfl (Nat.le_of_ble_eq_true rfl) d_Pa_init_25 (fun H locs hP hD hS => ?_)
      have hP : va_P D vwCl [(v, .inr (1, [.ref q1, .ref q2, .ref q3, .null, .null])), (q1, .inl (cI, 8, .inl (fun _ => 0))), (q2, .inl (cI, 48, .inl (fun _ => 0))), (q3, .inl (cI, 48, .inl (fun _ => 0)))] H := hP
      have hD : va_D A [(v, .inr (1, [.ref q1, .ref q2, .ref q3, .null, .null])), (q1, .inl (cI, 8, .inl (fun _ => 0))), (q2, .inl (cI, 48, .inl (fun _ => 0))), (q3, .inl (cI, 48, .inl (fun _ => 0)))] := hD
      refine lv_aload_n hx hb d_Pa_init_28 rfl (lv_at hl 0 rfl) ?_
      refine lv_bipush (v := 8) hx hb d_Pa_init_29 (by decide) ?_
      refine va_newa (atype := .boolean) (ty := .boolean) (a0 := (8, .inl (fun _ => 0))) (N' := 8) hx hb (hts _ ac_boolean) rfl hK hP hD hS hA (fun cA => vp_cell_i cA 8 _) (by decide) (by decide) (Nat.le_of_ble_eq_true rfl) (Nat.le_of_ble_eq_true rfl) (Nat.le_of_ble_eq_true rfl) d_Pa_init_31 (fun q4 cA H hK9 hP hD hS => ?_)
      obtain rfl : cZ = cA := arr_eq (by simp) (hK.2 2 _ rfl).2 (hK9.2 3 _ rfl).2
      have hP : va_P D vwCl [(v, .inr (1, [.ref q1, .ref q2, .ref q3, .null, .null])), (q1, .inl (cI, 8, .inl (fun _ => 0))), (q2, .inl (cI, 48, .inl (fun _ => 0))), (q3, .inl (cI, 48, .inl (fun _ => 0))), (q4, .inl (cZ, 8, .inl (fun _ => 0)))] H := hP
      have hD : va_D A [(v, .inr (1, [.ref q1, .ref q2, .ref q3, .null, .null])), (q1, .inl (cI, 8, .inl (fun _ => 0))), (q2, .inl (cI, 48, .inl (fun _ => 0))), (q3, .inl (cI, 48, .inl (fun _ => 0))), (q4, .inl (cZ, 8, .inl (fun _ => 0)))] := hD
      refine va_putF (D := D) (ci := 1) (v := .ref q4) (ty := (.array .boolean)) (C := R_Pa) (T := F_Pa) (N := 5) hx hb hts in_Pa t_Pa t_Pa_ok n_Pa hown hK hP hD hS 0 rfl rfl 3 (by decide) (hts _ fl_Pa_19) (fun _ h => h) rfl hin rfl (by decide +kernel) rfl rfl (Nat.le_of_ble_eq_true rfl) d_Pa_init_33 (fun H locs hP hD hS => ?_)
      have hP : va_P D vwCl [(v, .inr (1, [.ref q1, .ref q2, .ref q3, .ref q4, .null])), (q1, .inl (cI, 8, .inl (fun _ => 0))), (q2, .inl (cI, 48, .inl (fun _ => 0))), (q3, .inl (cI, 48, .inl (fun _ => 0))), (q4, .inl (cZ, 8, .inl (fun _ => 0)))] H := hP
      have hD : va_D A [(v, .inr (1, [.ref q1, .ref q2, .ref q3, .ref q4, .null])), (q1, .inl (cI, 8, .inl (fun _ => 0))), (q2, .inl (cI, 48, .inl (fun _ => 0))), (q3, .inl (cI, 48, .inl (fun _ => 0))), (q4, .inl (cZ, 8, .inl (fun _ => 0)))] := hD
      refine lv_aload_n hx hb d_Pa_init_36 rfl (lv_at hl 0 rfl) ?_
      refine lv_bipush (v := 8) hx hb d_Pa_init_37 (by decide) ?_
      refine va_newa (atype := .boolean) (ty := .boolean) (a0 := (8, .inl (fun _ => 0))) (N' := 8) hx hb (hts _ ac_boolean) rfl hK hP hD hS hA (fun cA => vp_cell_i cA 8 _) (by decide) (by decide) (Nat.le_of_ble_eq_true rfl) (Nat.le_of_ble_eq_true rfl) (Nat.le_of_ble_eq_true rfl) d_Pa_init_39 (fun q5 cA H hK9 hP hD hS => ?_)
      obtain rfl : cZ = cA := arr_eq (by simp) (hK.2 2 _ rfl).2 (hK9.2 3 _ rfl).2
      have hP : va_P D vwCl [(v, .inr (1, [.ref q1, .ref q2, .ref q3, .ref q4, .null])), (q1, .inl (cI, 8, .inl (fun _ => 0))), (q2, .inl (cI, 48, .inl (fun _ => 0))), (q3, .inl (cI, 48, .inl (fun _ => 0))), (q4, .inl (cZ, 8, .inl (fun _ => 0))), (q5, .inl (cZ, 8, .inl (fun _ => 0)))] H := hP
      have hD : va_D A [(v, .inr (1, [.ref q1, .ref q2, .ref q3, .ref q4, .null])), (q1, .inl (cI, 8, .inl (fun _ => 0))), (q2, .inl (cI, 48, .inl (fun _ => 0))), (q3, .inl (cI, 48, .inl (fun _ => 0))), (q4, .inl (cZ, 8, .inl (fun _ => 0))), (q5, .inl (cZ, 8, .inl (fun _ => 0)))] := hD
      refine va_putF (D := D) (ci := 1) (v := .ref q5) (ty := (.array .boolean)) (C := R_Pa) (T := F_Pa) (N := 5) hx hb hts in_Pa t_Pa t_Pa_ok n_Pa hown hK hP hD hS 0 rfl rfl 4 (by decide) (hts _ fl_Pa_23) (fun _ h => h) rfl hin rfl (by decide +kernel) rfl rfl (Nat.le_of_ble_eq_true rfl) d_Pa_init_41 (fun H locs hP hD hS => ?_)
      have hP : va_P D vwCl [(v, .inr (1, [.ref q1, .ref q2, .ref q3, .ref q4, .ref q5])), (q1, .inl (cI, 8, .inl (fun _ => 0))), (q2, .inl (cI, 48, .inl (fun _ => 0))), (q3, .inl (cI, 48, .inl (fun _ => 0))), (q4, .inl (cZ, 8, .inl (fun _ => 0))), (q5, .inl (cZ, 8, .inl (fun _ => 0)))] H := hP
      have hD : va_D A [(v, .inr (1, [.ref q1, .ref q2, .ref q3, .ref q4, .ref q5])), (q1, .inl (cI, 8, .inl (fun _ => 0))), (q2, .inl (cI, 48, .inl (fun _ => 0))), (q3, .inl (cI, 48, .inl (fun _ => 0))), (q4, .inl (cZ, 8, .inl (fun _ => 0))), (q5, .inl (cZ, 8, .inl (fun _ => 0)))] := hD
      exact hret (fun i => match i with | 6 => v | 7 => q1 | 8 => q2 | 9 => q3 | 10 => q4 | _ => q5) ls _ H locs _ _ d_Pa_init_44 (Nat.le_of_ble_eq_true rfl) (Nat.le_of_ble_eq_true rfl) rfl hP hD hS)
theorem hd_Pa_init : y_Pa_init.cls ≠ "java/lang/invoke/MethodHandle" ∧ y_Pa_init.cls ≠ "java/lang/invoke/VarHandle" ∧ (parseMethodDescriptor y_Pa_init.desc).map (fun d => d.parameters.length) = some 0 := ⟨by decide, by decide, by decide +kernel⟩
set_option maxHeartbeats 8000000 in
set_option maxRecDepth 100000 in
theorem c_Sc_init (l : Launch) (D : va_G) (cI cJ cZ : ClassId) (v : Nat) : Cm (S := Nat → Nat) l y_Sc_init b_Sc_init 1 1 23 6 1992 [.ref v] D (tyA cI cJ cZ) [(v, .inr (3, [.null, .null, .null, .null, .null, .null, .int 0]))] (fun a => a 12 = v) (fun a => wS a cI (fillN (-1) 696 (fun _ => 0)) (fun _ => 0) (fun _ => 0) (fillN (-1) 864 (fun _ => 0)) (fun _ => 0) (fun _ => 0) 0) :=
  cm_of (by decide) rfl (Nat.le_of_ble_eq_true rfl) (fun p e s m below meth c ls Q A S hin hK hP hD hA hS hl hret => by
      have hx := S.1
      have hb := S.2.1
      have hown := S.2.2.2.1
      have hts := S.2.2.2.2
      refine lv_aload_n hx hb d_Sc_init_0 rfl (lv_at hl 0 rfl) ?_
      refine W.objInit hx hb hown (hts _ ml_Sc_3) (hts _ i_Object) (hts _ k_Object) rfl (by rw [S.2.2.1]; exact hl.1) rfl d_Sc_init_1 (Nat.le_of_ble_eq_true rfl) (Nat.le_of_ble_eq_true rfl) ?_
      refine W.eq (g2 := F0 m 4 ls []) rfl ?_
      refine lv_aload_n hx hb d_Sc_init_4 rfl (lv_at hl 0 rfl) ?_
      refine lv_sipush (v := 696) hx hb d_Sc_init_5 (by decide) ?_
      refine va_newa (atype := .int) (ty := .int) (a0 := (696, .inl (fun _ => 0))) (N' := 696) hx hb (hts _ ac_int) rfl hK hP hD hS hA (fun cA => vp_cell_i cA 696 _) (by decide) (by decide) (Nat.le_of_ble_eq_true rfl) (Nat.le_of_ble_eq_true rfl) (Nat.le_of_ble_eq_true rfl) d_Sc_init_8 (fun q1 cA H hK9 hP hD hS => ?_)
      obtain rfl : cI = cA := arr_eq (by simp) (hK.2 0 _ rfl).2 (hK9.2 3 _ rfl).2
      have hP : va_P D vwCl [(v, .inr (3, [.null, .null, .null, .null, .null, .null, .int 0])), (q1, .inl (cI, 696, .inl (fun _ => 0)))] H := hP
      have hD : va_D A [(v, .inr (3, [.null, .null, .null, .null, .null, .null, .int 0])), (q1, .inl (cI, 696, .inl (fun _ => 0)))] := hD
      refine va_putF (D := D) (ci := 3) (v := .ref q1) (ty := (.array .int)) (C := R_Sc) (T := F_Sc) (N := 7) hx hb hts in_Sc t_Sc t_Sc_ok n_Sc hown hK hP hD hS 0 rfl rfl 0 (by decide) (hts _ fl_Sc_11) (fun _ h => h) rfl hin rfl (by decide +kernel) rfl rfl (Nat.le_of_ble_eq_true rfl) d_Sc_init_10 (fun H locs hP hD hS => ?_)
      have hP : va_P D vwCl [(v, .inr (3, [.ref q1, .null, .null, .null, .null, .null, .int 0])), (q1, .inl (cI, 696, .inl (fun _ => 0)))] H := hP
      have hD : va_D A [(v, .inr (3, [.ref q1, .null, .null, .null, .null, .null, .int 0])), (q1, .inl (cI, 696, .inl (fun _ => 0)))] := hD
      refine lv_aload_n hx hb d_Sc_init_13 rfl (lv_at hl 0 rfl) ?_
      refine va_get (D := D) (ci := 3) (v := .ref q1) (C := R_Sc) (T := F_Sc) (N := 7) hx hb hts in_Sc hown hK hP 0 rfl rfl 0 (by decide) (hts _ fl_Sc_11) (fun _ h => h) rfl d_Sc_init_14 ?_
      refine lv_iconst (v := (-1)) hx hb d_Sc_init_17 (by decide) ?_
      refine wc_S (As := [.ref q1, .int (-1)]) (rest := []) (wr := [(v, .inr (3, [.ref q1, .null, .null, .null, .null, .null, .int 0]))]) S (c_Ar_fill l D (fun _ => q1) cI cJ cZ (fun _ => 0) (-1) 696 (by decide)) k_Ar_fill s_Ar_fill o_Ar ml_Sc_15 hd_Ar_fill (Nat.le_of_ble_eq_true rfl) (Nat.le_of_ble_eq_true rfl) ⟨Nat.le_of_ble_eq_true rfl, Nat.le_of_ble_eq_true rfl⟩ hK hP hD hS hA [1] [0] rfl rfl rfl (by decide) (by decide) (by decide) hl.1 rfl (Nat.le_of_ble_eq_true rfl) d_Sc_init_18 (fun _ H locs _ hP hD hS => ?_)
      have hP : va_P D vwCl [(v, .inr (3, [.ref q1, .null, .null, .null, .null, .null, .int 0])), (q1, .inl (cI, 696, .inl (fillN (-1) 696 (fun _ => 0))))] H := hP.sub [0, 1] rfl
      have hD : va_D A [(v, .inr (3, [.ref q1, .null, .null, .null, .null, .null, .int 0])), (q1, .inl (cI, 696, .inl (fillN (-1) 696 (fun _ => 0))))] := hD.sub [0, 1] (by decide) rfl
      refine lv_aload_n hx hb d_Sc_init_21 rfl (lv_at hl 0 rfl) ?_
      refine lv_bipush (v := 96) hx hb d_Sc_init_22 (by decide) ?_
      refine va_newa (atype := .int) (ty := .int) (a0 := (96, .inl (fun _ => 0))) (N' := 96) hx hb (hts _ ac_int) rfl hK hP hD hS hA (fun cA => vp_cell_i cA 96 _) (by decide) (by decide) (Nat.le_of_ble_eq_true rfl) (Nat.le_of_ble_eq_true rfl) (Nat.le_of_ble_eq_true rfl) d_Sc_init_24 (fun q2 cA H hK9 hP hD hS => ?_)
      obtain rfl : cI = cA := arr_eq (by simp) (hK.2 0 _ rfl).2 (hK9.2 3 _ rfl).2
      have hP : va_P D vwCl [(v, .inr (3, [.ref q1, .null, .null, .null, .null, .null, .int 0])), (q1, .inl (cI, 696, .inl (fillN (-1) 696 (fun _ => 0)))), (q2, .inl (cI, 96, .inl (fun _ => 0)))] H := hP
      have hD : va_D A [(v, .inr (3, [.ref q1, .null, .null, .null, .null, .null, .int 0])), (q1, .inl (cI, 696, .inl (fillN (-1) 696 (fun _ => 0)))), (q2, .inl (cI, 96, .inl (fun _ => 0)))] := hD
      refine va_putF (D := D) (ci := 3) (v := .ref q2) (ty := (.array .int)) (C := R_Sc) (T := F_Sc) (N := 7) hx hb hts in_Sc t_Sc t_Sc_ok n_Sc hown hK hP hD hS 0 rfl rfl 1 (by decide) (hts _ fl_Sc_21) (fun _ h => h) rfl hin rfl (by decide +kernel) rfl rfl (Nat.le_of_ble_eq_true rfl) d_Sc_init_26 (fun H locs hP hD hS => ?_)
      have hP : va_P D vwCl [(v, .inr (3, [.ref q1, .ref q2, .null, .null, .null, .null, .int 0])), (q1, .inl (cI, 696, .inl (fillN (-1) 696 (fun _ => 0)))), (q2, .inl (cI, 96, .inl (fun _ => 0)))] H := hP
      have hD : va_D A [(v, .inr (3, [.ref q1, .ref q2, .null, .null, .null, .null, .int 0])), (q1, .inl (cI, 696, .inl (fillN (-1) 696 (fun _ => 0)))), (q2, .inl (cI, 96, .inl (fun _ => 0)))] := hD
      refine lv_aload_n hx hb d_Sc_init_29 rfl (lv_at hl 0 rfl) ?_
      refine lv_sipush (v := 288) hx hb d_Sc_init_30 (by decide) ?_
      refine va_newa (atype := .int) (ty := .int) (a0 := (288, .inl (fun _ => 0))) (N' := 288) hx hb (hts _ ac_int) rfl hK hP hD hS hA (fun cA => vp_cell_i cA 288 _) (by decide) (by decide) (Nat.le_of_ble_eq_true rfl) (Nat.le_of_ble_eq_true rfl) (Nat.le_of_ble_eq_true rfl) d_Sc_init_33 (fun q3 cA H hK9 hP hD hS => ?_)
      obtain rfl : cI = cA := arr_eq (by simp) (hK.2 0 _ rfl).2 (hK9.2 3 _ rfl).2
      have hP : va_P D vwCl [(v, .inr (3, [.ref q1, .ref q2, .null, .null, .null, .null, .int 0])), (q1, .inl (cI, 696, .inl (fillN (-1) 696 (fun _ => 0)))), (q2, .inl (cI, 96, .inl (fun _ => 0))), (q3, .inl (cI, 288, .inl (fun _ => 0)))] H := hP
      have hD : va_D A [(v, .inr (3, [.ref q1, .ref q2, .null, .null, .null, .null, .int 0])), (q1, .inl (cI, 696, .inl (fillN (-1) 696 (fun _ => 0)))), (q2, .inl (cI, 96, .inl (fun _ => 0))), (q3, .inl (cI, 288, .inl (fun _ => 0)))] := hD
      refine va_putF (D := D) (ci := 3) (v := .ref q3) (ty := (.array .int)) (C := R_Sc) (T := F_Sc) (N := 7) hx hb hts in_Sc t_Sc t_Sc_ok n_Sc hown hK hP hD hS 0 rfl rfl 2 (by decide) (hts _ fl_Sc_24) (fun _ h => h) rfl hin rfl (by decide +kernel) rfl rfl (Nat.le_of_ble_eq_true rfl) d_Sc_init_35 (fun H locs hP hD hS => ?_)
      have hP : va_P D vwCl [(v, .inr (3, [.ref q1, .ref q2, .ref q3, .null, .null, .null, .int 0])), (q1, .inl (cI, 696, .inl (fillN (-1) 696 (fun _ => 0)))), (q2, .inl (cI, 96, .inl (fun _ => 0))), (q3, .inl (cI, 288, .inl (fun _ => 0)))] H := hP
      have hD : va_D A [(v, .inr (3, [.ref q1, .ref q2, .ref q3, .null, .null, .null, .int 0])), (q1, .inl (cI, 696, .inl (fillN (-1) 696 (fun _ => 0)))), (q2, .inl (cI, 96, .inl (fun _ => 0))), (q3, .inl (cI, 288, .inl (fun _ => 0)))] := hD
      refine lv_aload_n hx hb d_Sc_init_38 rfl (lv_at hl 0 rfl) ?_
      refine lv_sipush (v := 864) hx hb d_Sc_init_39 (by decide) ?_
      refine va_newa (atype := .int) (ty := .int) (a0 := (864, .inl (fun _ => 0))) (N' := 864) hx hb (hts _ ac_int) rfl hK hP hD hS hA (fun cA => vp_cell_i cA 864 _) (by decide) (by decide) (Nat.le_of_ble_eq_true rfl) (Nat.le_of_ble_eq_true rfl) (Nat.le_of_ble_eq_true rfl) d_Sc_init_42 (fun q4 cA H hK9 hP hD hS => ?_)
      obtain rfl : cI = cA := arr_eq (by simp) (hK.2 0 _ rfl).2 (hK9.2 3 _ rfl).2
      have hP : va_P D vwCl [(v, .inr (3, [.ref q1, .ref q2, .ref q3, .null, .null, .null, .int 0])), (q1, .inl (cI, 696, .inl (fillN (-1) 696 (fun _ => 0)))), (q2, .inl (cI, 96, .inl (fun _ => 0))), (q3, .inl (cI, 288, .inl (fun _ => 0))), (q4, .inl (cI, 864, .inl (fun _ => 0)))] H := hP
      have hD : va_D A [(v, .inr (3, [.ref q1, .ref q2, .ref q3, .null, .null, .null, .int 0])), (q1, .inl (cI, 696, .inl (fillN (-1) 696 (fun _ => 0)))), (q2, .inl (cI, 96, .inl (fun _ => 0))), (q3, .inl (cI, 288, .inl (fun _ => 0))), (q4, .inl (cI, 864, .inl (fun _ => 0)))] := hD
      refine va_putF (D := D) (ci := 3) (v := .ref q4) (ty := (.array .int)) (C := R_Sc) (T := F_Sc) (N := 7) hx hb hts in_Sc t_Sc t_Sc_ok n_Sc hown hK hP hD hS 0 rfl rfl 3 (by decide) (hts _ fl_Sc_29) (fun _ h => h) rfl hin rfl (by decide +kernel) rfl rfl (Nat.le_of_ble_eq_true rfl) d_Sc_init_44 (fun H locs hP hD hS => ?_)
      have hP : va_P D vwCl [(v, .inr (3, [.ref q1, .ref q2, .ref q3, .ref q4, .null, .null, .int 0])), (q1, .inl (cI, 696, .inl (fillN (-1) 696 (fun _ => 0)))), (q2, .inl (cI, 96, .inl (fun _ => 0))), (q3, .inl (cI, 288, .inl (fun _ => 0))), (q4, .inl (cI, 864, .inl (fun _ => 0)))] H := hP
      have hD : va_D A [(v, .inr (3, [.ref q1, .ref q2, .ref q3, .ref q4, .null, .null, .int 0])), (q1, .inl (cI, 696, .inl (fillN (-1) 696 (fun _ => 0)))), (q2, .inl (cI, 96, .inl (fun _ => 0))), (q3, .inl (cI, 288, .inl (fun _ => 0))), (q4, .inl (cI, 864, .inl (fun _ => 0)))] := hD
      refine lv_aload_n hx hb d_Sc_init_47 rfl (lv_at hl 0 rfl) ?_
      refine va_get (D := D) (ci := 3) (v := .ref q4) (C := R_Sc) (T := F_Sc) (N := 7) hx hb hts in_Sc hown hK hP 0 rfl rfl 3 (by decide) (hts _ fl_Sc_29) (fun _ h => h) rfl d_Sc_init_48 ?_
      refine lv_iconst (v := (-1)) hx hb d_Sc_init_51 (by decide) ?_
      refine wc_S (As := [.ref q4, .int (-1)]) (rest := []) (wr := [(v, .inr (3, [.ref q1, .ref q2, .ref q3, .ref q4, .null, .null, .int 0])), (q1, .inl (cI, 696, .inl (fillN (-1) 696 (fun _ => 0)))), (q2, .inl (cI, 96, .inl (fun _ => 0))), (q3, .inl (cI, 288, .inl (fun _ => 0)))]) S (c_Ar_fill l D (fun _ => q4) cI cJ cZ (fun _ => 0) (-1) 864 (by decide)) k_Ar_fill s_Ar_fill o_Ar ml_Sc_15 hd_Ar_fill (Nat.le_of_ble_eq_true rfl) (Nat.le_of_ble_eq_true rfl) ⟨Nat.le_of_ble_eq_true rfl, Nat.le_of_ble_eq_true rfl⟩ hK hP hD hS hA [4] [0, 1, 2, 3] rfl rfl rfl (by decide) (by decide) (by decide) hl.1 rfl (Nat.le_of_ble_eq_true rfl) d_Sc_init_52 (fun _ H locs _ hP hD hS => ?_)
      have hP : va_P D vwCl [(v, .inr (3, [.ref q1, .ref q2, .ref q3, .ref q4, .null, .null, .int 0])), (q1, .inl (cI, 696, .inl (fillN (-1) 696 (fun _ => 0)))), (q2, .inl (cI, 96, .inl (fun _ => 0))), (q3, .inl (cI, 288, .inl (fun _ => 0))), (q4, .inl (cI, 864, .inl (fillN (-1) 864 (fun _ => 0))))] H := hP.sub [0, 1, 2, 3, 4] rfl
      have hD : va_D A [(v, .inr (3, [.ref q1, .ref q2, .ref q3, .ref q4, .null, .null, .int 0])), (q1, .inl (cI, 696, .inl (fillN (-1) 696 (fun _ => 0)))), (q2, .inl (cI, 96, .inl (fun _ => 0))), (q3, .inl (cI, 288, .inl (fun _ => 0))), (q4, .inl (cI, 864, .inl (fillN (-1) 864 (fun _ => 0))))] := hD.sub [0, 1, 2, 3, 4] (by decide) rfl
      refine lv_aload_n hx hb d_Sc_init_55 rfl (lv_at hl 0 rfl) ?_
      refine lv_bipush (v := 24) hx hb d_Sc_init_56 (by decide) ?_
      refine va_newa (atype := .int) (ty := .int) (a0 := (24, .inl (fun _ => 0))) (N' := 24) hx hb (hts _ ac_int) rfl hK hP hD hS hA (fun cA => vp_cell_i cA 24 _) (by decide) (by decide) (Nat.le_of_ble_eq_true rfl) (Nat.le_of_ble_eq_true rfl) (Nat.le_of_ble_eq_true rfl) d_Sc_init_58 (fun q5 cA H hK9 hP hD hS => ?_)
      obtain rfl : cI = cA := arr_eq (by simp) (hK.2 0 _ rfl).2 (hK9.2 3 _ rfl).2
      have hP : va_P D vwCl [(v, .inr (3, [.ref q1, .ref q2, .ref q3, .ref q4, .null, .null, .int 0])), (q1, .inl (cI, 696, .inl (fillN (-1) 696 (fun _ => 0)))), (q2, .inl (cI, 96, .inl (fun _ => 0))), (q3, .inl (cI, 288, .inl (fun _ => 0))), (q4, .inl (cI, 864, .inl (fillN (-1) 864 (fun _ => 0)))), (q5, .inl (cI, 24, .inl (fun _ => 0)))] H := hP
      have hD : va_D A [(v, .inr (3, [.ref q1, .ref q2, .ref q3, .ref q4, .null, .null, .int 0])), (q1, .inl (cI, 696, .inl (fillN (-1) 696 (fun _ => 0)))), (q2, .inl (cI, 96, .inl (fun _ => 0))), (q3, .inl (cI, 288, .inl (fun _ => 0))), (q4, .inl (cI, 864, .inl (fillN (-1) 864 (fun _ => 0)))), (q5, .inl (cI, 24, .inl (fun _ => 0)))] := hD
      refine va_putF (D := D) (ci := 3) (v := .ref q5) (ty := (.array .int)) (C := R_Sc) (T := F_Sc) (N := 7) hx hb hts in_Sc t_Sc t_Sc_ok n_Sc hown hK hP hD hS 0 rfl rfl 4 (by decide) (hts _ fl_Sc_32) (fun _ h => h) rfl hin rfl (by decide +kernel) rfl rfl (Nat.le_of_ble_eq_true rfl) d_Sc_init_60 (fun H locs hP hD hS => ?_)
      have hP : va_P D vwCl [(v, .inr (3, [.ref q1, .ref q2, .ref q3, .ref q4, .ref q5, .null, .int 0])), (q1, .inl (cI, 696, .inl (fillN (-1) 696 (fun _ => 0)))), (q2, .inl (cI, 96, .inl (fun _ => 0))), (q3, .inl (cI, 288, .inl (fun _ => 0))), (q4, .inl (cI, 864, .inl (fillN (-1) 864 (fun _ => 0)))), (q5, .inl (cI, 24, .inl (fun _ => 0)))] H := hP
      have hD : va_D A [(v, .inr (3, [.ref q1, .ref q2, .ref q3, .ref q4, .ref q5, .null, .int 0])), (q1, .inl (cI, 696, .inl (fillN (-1) 696 (fun _ => 0)))), (q2, .inl (cI, 96, .inl (fun _ => 0))), (q3, .inl (cI, 288, .inl (fun _ => 0))), (q4, .inl (cI, 864, .inl (fillN (-1) 864 (fun _ => 0)))), (q5, .inl (cI, 24, .inl (fun _ => 0)))] := hD
      refine lv_aload_n hx hb d_Sc_init_63 rfl (lv_at hl 0 rfl) ?_
      refine lv_bipush (v := 24) hx hb d_Sc_init_64 (by decide) ?_
      refine va_newa (atype := .int) (ty := .int) (a0 := (24, .inl (fun _ => 0))) (N' := 24) hx hb (hts _ ac_int) rfl hK hP hD hS hA (fun cA => vp_cell_i cA 24 _) (by decide) (by decide) (Nat.le_of_ble_eq_true rfl) (Nat.le_of_ble_eq_true rfl) (Nat.le_of_ble_eq_true rfl) d_Sc_init_66 (fun q6 cA H hK9 hP hD hS => ?_)
      obtain rfl : cI = cA := arr_eq (by simp) (hK.2 0 _ rfl).2 (hK9.2 3 _ rfl).2
      have hP : va_P D vwCl [(v, .inr (3, [.ref q1, .ref q2, .ref q3, .ref q4, .ref q5, .null, .int 0])), (q1, .inl (cI, 696, .inl (fillN (-1) 696 (fun _ => 0)))), (q2, .inl (cI, 96, .inl (fun _ => 0))), (q3, .inl (cI, 288, .inl (fun _ => 0))), (q4, .inl (cI, 864, .inl (fillN (-1) 864 (fun _ => 0)))), (q5, .inl (cI, 24, .inl (fun _ => 0))), (q6, .inl (cI, 24, .inl (fun _ => 0)))] H := hP
      have hD : va_D A [(v, .inr (3, [.ref q1, .ref q2, .ref q3, .ref q4, .ref q5, .null, .int 0])), (q1, .inl (cI, 696, .inl (fillN (-1) 696 (fun _ => 0)))), (q2, .inl (cI, 96, .inl (fun _ => 0))), (q3, .inl (cI, 288, .inl (fun _ => 0))), (q4, .inl (cI, 864, .inl (fillN (-1) 864 (fun _ => 0)))), (q5, .inl (cI, 24, .inl (fun _ => 0))), (q6, .inl (cI, 24, .inl (fun _ => 0)))] := hD
      refine va_putF (D := D) (ci := 3) (v := .ref q6) (ty := (.array .int)) (C := R_Sc) (T := F_Sc) (N := 7) hx hb hts in_Sc t_Sc t_Sc_ok n_Sc hown hK hP hD hS 0 rfl rfl 5 (by decide) (hts _ fl_Sc_35) (fun _ h => h) rfl hin rfl (by decide +kernel) rfl rfl (Nat.le_of_ble_eq_true rfl) d_Sc_init_68 (fun H locs hP hD hS => ?_)
      have hP : va_P D vwCl [(v, .inr (3, [.ref q1, .ref q2, .ref q3, .ref q4, .ref q5, .ref q6, .int 0])), (q1, .inl (cI, 696, .inl (fillN (-1) 696 (fun _ => 0)))), (q2, .inl (cI, 96, .inl (fun _ => 0))), (q3, .inl (cI, 288, .inl (fun _ => 0))), (q4, .inl (cI, 864, .inl (fillN (-1) 864 (fun _ => 0)))), (q5, .inl (cI, 24, .inl (fun _ => 0))), (q6, .inl (cI, 24, .inl (fun _ => 0)))] H := hP
      have hD : va_D A [(v, .inr (3, [.ref q1, .ref q2, .ref q3, .ref q4, .ref q5, .ref q6, .int 0])), (q1, .inl (cI, 696, .inl (fillN (-1) 696 (fun _ => 0)))), (q2, .inl (cI, 96, .inl (fun _ => 0))), (q3, .inl (cI, 288, .inl (fun _ => 0))), (q4, .inl (cI, 864, .inl (fillN (-1) 864 (fun _ => 0)))), (q5, .inl (cI, 24, .inl (fun _ => 0))), (q6, .inl (cI, 24, .inl (fun _ => 0)))] := hD
      exact hret (fun i => match i with | 12 => v | 13 => q1 | 14 => q2 | 15 => q3 | 16 => q4 | 17 => q5 | _ => q6) ls _ H locs _ _ d_Sc_init_71 (Nat.le_of_ble_eq_true rfl) (Nat.le_of_ble_eq_true rfl) rfl hP hD hS)
theorem hd_Sc_init : y_Sc_init.cls ≠ "java/lang/invoke/MethodHandle" ∧ y_Sc_init.cls ≠ "java/lang/invoke/VarHandle" ∧ (parseMethodDescriptor y_Sc_init.desc).map (fun d => d.parameters.length) = some 0 := ⟨by decide, by decide, by decide +kernel⟩
