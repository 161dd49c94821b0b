theorem dX0_init_0 : decode cX0_init 0 = .ok (.aload_n 0, 1) := by decide +kernel
theorem dX0_init_1 : decode cX0_init 1 = .ok (.invokespecial 3, 3) := by decide +kernel
theorem dX0_init_4 : decode cX0_init 4 = .ok (.aload_n 0, 1) := by decide +kernel
theorem dX0_init_5 : decode cX0_init 5 = .ok (.bipush 24, 2) := by decide +kernel
theorem dX0_init_7 : decode cX0_init 7 = .ok (.newarray .int, 2) := by decide +kernel
theorem dX0_init_9 : decode cX0_init 9 = .ok (.putfield 11, 3) := by decide +kernel
theorem dX0_init_12 : decode cX0_init 12 = .ok (.return_, 1) := by decide +kernel
theorem cv_X0 : zVi yX0_init cX0_init 1 RX0 := ⟨by decide +kernel, rfl, tb_of (tq_2 70 rfl) rfl, tb_of (tq_1 13 rfl) rfl, tb_of (tq_2 71 rfl) rfl⟩
set_option maxHeartbeats 4000000 in
set_option maxRecDepth 100000 in
theorem ct_X0 {cA : Nat → ClassId} {D : va_G} {E : Nat → Nat} {l : Launch} : zct cA D E l yX0_init cX0_init 1 1 1 24 40 (.inr (0, [.null, .int 0, .int 0, .int 0, .int 0])) (fun h0 w => ∃ q1 : Nat, w = ((h0, .inr (0, [.ref q1, .int 0, .int 0, .int 0, .int 0])) :: (q1, .inl (cA 0, 24, .inl (fun _ => 0))) :: ([] : va_W))) := by
  refine zcstart (own := RX0) (by decide) rfl rfl (by decide) ?_
  intro p e s m args below meth c h0 A X hAO hinit hA hP hD ls hl
  have hx := X.1
  have hb := X.2.1
  have hS : va_S A s.heap s.heap [] := va_S.rf
  refine lv_aload_n hx hb dX0_init_0 rfl (lv_at hl 0 rfl) ?_
  refine zinit X hl.1 ml_X0_3 (tb_of (tq_1 27 rfl) rfl) (tb_of (tq_1 28 rfl) rfl) ⟨Nat.le_of_ble_eq_true rfl, Nat.le_of_ble_eq_true rfl⟩ dX0_init_1 ?_
  refine lv_aload_n hx hb dX0_init_4 rfl (lv_at hl 0 rfl) ?_
  refine lv_bipush (v := 24) hx hb dX0_init_5 (by decide) ?_
  refine znewa_i X hP hD hS hA (tb_of (tq_1 67 rfl) rfl) (N' := 24) (by decide) (by decide) (Nat.le_of_ble_eq_true rfl) ⟨Nat.le_of_ble_eq_true rfl, Nat.le_of_ble_eq_true rfl⟩ dX0_init_7 (fun q1 H hP9 hD9 hS9 => ?_)
  clear hP hD hS; rename va_P D ZCL _ H => hP; rename va_D A _ => hD; rename va_S A s.heap H _ => hS
  replace hP : va_P D ZCL ((h0, .inr (0, [.null, .int 0, .int 0, .int 0, .int 0])) :: (q1, .inl (cA 0, 24, .inl (fun _ => 0))) :: ([] : va_W)) H := hP
  replace hD : va_D A ((h0, .inr (0, [.null, .int 0, .int 0, .int 0, .int 0])) :: (q1, .inl (cA 0, 24, .inl (fun _ => 0))) :: ([] : va_W)) := hD
  refine W.widen (k := 1) (n := 24) (Nat.le_of_ble_eq_true rfl) (Nat.le_of_ble_eq_true rfl) ?_
  refine zputF X hinit hP hD hS (C := RX0) (T := TX0) (NN := 5) (ci := 0) in_X0 tyX0 tyX0_ok nmX0 0 rfl rfl 0 (by decide) fl_X0_11 rfl rfl (ty := (tyX0 0)) (by decide +kernel) rfl rfl (Nat.le_of_ble_eq_true rfl) dX0_init_9 (fun H locs hP9 hD9 hS9 => ?_)
  clear hP hD hS; rename va_P D ZCL _ H => hP; rename va_D A _ => hD; rename va_S A s.heap H _ => hS
  replace hP : va_P D ZCL ((h0, .inr (0, [.ref q1, .int 0, .int 0, .int 0, .int 0])) :: (q1, .inl (cA 0, 24, .inl (fun _ => 0))) :: ([] : va_W)) H := hP
  replace hD : va_D A ((h0, .inr (0, [.ref q1, .int 0, .int 0, .int 0, .int 0])) :: (q1, .inl (cA 0, 24, .inl (fun _ => 0))) :: ([] : va_W)) := hD
  exact zcret X hP hD hS ⟨q1, rfl⟩ dX0_init_12
theorem dX1_init_0 : decode cX1_init 0 = .ok (.aload_n 0, 1) := by decide +kernel
theorem dX1_init_1 : decode cX1_init 1 = .ok (.invokespecial 1, 3) := by decide +kernel
theorem dX1_init_4 : decode cX1_init 4 = .ok (.aload_n 0, 1) := by decide +kernel
theorem dX1_init_5 : decode cX1_init 5 = .ok (.bipush 12, 2) := by decide +kernel
theorem dX1_init_7 : decode cX1_init 7 = .ok (.newarray .int, 2) := by decide +kernel
theorem dX1_init_9 : decode cX1_init 9 = .ok (.putfield 9, 3) := by decide +kernel
theorem dX1_init_12 : decode cX1_init 12 = .ok (.aload_n 0, 1) := by decide +kernel
theorem dX1_init_13 : decode cX1_init 13 = .ok (.bipush 12, 2) := by decide +kernel
theorem dX1_init_15 : decode cX1_init 15 = .ok (.newarray .int, 2) := by decide +kernel
theorem dX1_init_17 : decode cX1_init 17 = .ok (.putfield 13, 3) := by decide +kernel
theorem dX1_init_20 : decode cX1_init 20 = .ok (.aload_n 0, 1) := by decide +kernel
theorem dX1_init_21 : decode cX1_init 21 = .ok (.bipush 12, 2) := by decide +kernel
theorem dX1_init_23 : decode cX1_init 23 = .ok (.newarray .int, 2) := by decide +kernel
theorem dX1_init_25 : decode cX1_init 25 = .ok (.putfield 16, 3) := by decide +kernel
theorem dX1_init_28 : decode cX1_init 28 = .ok (.aload_n 0, 1) := by decide +kernel
theorem dX1_init_29 : decode cX1_init 29 = .ok (.bipush 12, 2) := by decide +kernel
theorem dX1_init_31 : decode cX1_init 31 = .ok (.newarray .int, 2) := by decide +kernel
theorem dX1_init_33 : decode cX1_init 33 = .ok (.putfield 19, 3) := by decide +kernel
theorem dX1_init_36 : decode cX1_init 36 = .ok (.return_, 1) := by decide +kernel
theorem cv_X1 : zVi yX1_init cX1_init 1 RX1 := ⟨by decide +kernel, rfl, tb_of (tq_1 197 rfl) rfl, tb_of (tq_1 7 rfl) rfl, tb_of (tq_1 198 rfl) rfl⟩
set_option maxHeartbeats 4000000 in
set_option maxRecDepth 100000 in
theorem ct_X1 {cA : Nat → ClassId} {D : va_G} {E : Nat → Nat} {l : Launch} : zct cA D E l yX1_init cX1_init 1 1 4 48 40 (.inr (1, [.null, .null, .null, .null, .int 0, .int 0])) (fun h0 w => ∃ q1 q2 q3 q4 : Nat, w = ((h0, .inr (1, [.ref q1, .ref q2, .ref q3, .ref q4, .int 0, .int 0])) :: (q1, .inl (cA 0, 12, .inl (fun _ => 0))) :: (q2, .inl (cA 0, 12, .inl (fun _ => 0))) :: (q3, .inl (cA 0, 12, .inl (fun _ => 0))) :: (q4, .inl (cA 0, 12, .inl (fun _ => 0))) :: ([] : va_W))) := by
  refine zcstart (own := RX1) (by decide) rfl rfl (by decide) ?_
  intro p e s m args below meth c h0 A X hAO hinit hA hP hD ls hl
  have hx := X.1
  have hb := X.2.1
  have hS : va_S A s.heap s.heap [] := va_S.rf
  refine lv_aload_n hx hb dX1_init_0 rfl (lv_at hl 0 rfl) ?_
  refine zinit X hl.1 ml_X1_1 (tb_of (tq_1 27 rfl) rfl) (tb_of (tq_1 28 rfl) rfl) ⟨Nat.le_of_ble_eq_true rfl, Nat.le_of_ble_eq_true rfl⟩ dX1_init_1 ?_
  refine lv_aload_n hx hb dX1_init_4 rfl (lv_at hl 0 rfl) ?_
  refine lv_bipush (v := 12) hx hb dX1_init_5 (by decide) ?_
  refine znewa_i X hP hD hS hA (tb_of (tq_1 67 rfl) rfl) (N' := 12) (by decide) (by decide) (Nat.le_of_ble_eq_true rfl) ⟨Nat.le_of_ble_eq_true rfl, Nat.le_of_ble_eq_true rfl⟩ dX1_init_7 (fun q1 H hP9 hD9 hS9 => ?_)
  clear hP hD hS; rename va_P D ZCL _ H => hP; rename va_D A _ => hD; rename va_S A s.heap H _ => hS
  replace hP : va_P D ZCL ((h0, .inr (1, [.null, .null, .null, .null, .int 0, .int 0])) :: (q1, .inl (cA 0, 12, .inl (fun _ => 0))) :: ([] : va_W)) H := hP
  replace hD : va_D A ((h0, .inr (1, [.null, .null, .null, .null, .int 0, .int 0])) :: (q1, .inl (cA 0, 12, .inl (fun _ => 0))) :: ([] : va_W)) := hD
  refine W.widen (k := 1) (n := 12) (Nat.le_of_ble_eq_true rfl) (Nat.le_of_ble_eq_true rfl) ?_
  refine zputF X hinit hP hD hS (C := RX1) (T := TX1) (NN := 6) (ci := 1) in_X1 tyX1 tyX1_ok nmX1 0 rfl rfl 0 (by decide) fl_X1_9 rfl rfl (ty := (tyX1 0)) (by decide +kernel) rfl rfl (Nat.le_of_ble_eq_true rfl) dX1_init_9 (fun H locs hP9 hD9 hS9 => ?_)
  clear hP hD hS; rename va_P D ZCL _ H => hP; rename va_D A _ => hD; rename va_S A s.heap H _ => hS
  replace hP : va_P D ZCL ((h0, .inr (1, [.ref q1, .null, .null, .null, .int 0, .int 0])) :: (q1, .inl (cA 0, 12, .inl (fun _ => 0))) :: ([] : va_W)) H := hP
  replace hD : va_D A ((h0, .inr (1, [.ref q1, .null, .null, .null, .int 0, .int 0])) :: (q1, .inl (cA 0, 12, .inl (fun _ => 0))) :: ([] : va_W)) := hD
  refine lv_aload_n hx hb dX1_init_12 rfl (lv_at hl 0 rfl) ?_
  refine lv_bipush (v := 12) hx hb dX1_init_13 (by decide) ?_
  refine znewa_i X hP hD hS hA (tb_of (tq_1 67 rfl) rfl) (N' := 12) (by decide) (by decide) (Nat.le_of_ble_eq_true rfl) ⟨Nat.le_of_ble_eq_true rfl, Nat.le_of_ble_eq_true rfl⟩ dX1_init_15 (fun q2 H hP9 hD9 hS9 => ?_)
  clear hP hD hS; rename va_P D ZCL _ H => hP; rename va_D A _ => hD; rename va_S A s.heap H _ => hS
  replace hP : va_P D ZCL ((h0, .inr (1, [.ref q1, .null, .null, .null, .int 0, .int 0])) :: (q1, .inl (cA 0, 12, .inl (fun _ => 0))) :: (q2, .inl (cA 0, 12, .inl (fun _ => 0))) :: ([] : va_W)) H := hP
  replace hD : va_D A ((h0, .inr (1, [.ref q1, .null, .null, .null, .int 0, .int 0])) :: (q1, .inl (cA 0, 12, .inl (fun _ => 0))) :: (q2, .inl (cA 0, 12, .inl (fun _ => 0))) :: ([] : va_W)) := hD
  refine W.widen (k := 2) (n := 24) (Nat.le_of_ble_eq_true rfl) (Nat.le_of_ble_eq_true rfl) ?_
  refine zputF X hinit hP hD hS (C := RX1) (T := TX1) (NN := 6) (ci := 1) in_X1 tyX1 tyX1_ok nmX1 0 rfl rfl 1 (by decide) fl_X1_13 rfl rfl (ty := (tyX1 1)) (by decide +kernel) rfl rfl (Nat.le_of_ble_eq_true rfl) dX1_init_17 (fun H locs hP9 hD9 hS9 => ?_)
  clear hP hD hS; rename va_P D ZCL _ H => hP; rename va_D A _ => hD; rename va_S A s.heap H _ => hS
  replace hP : va_P D ZCL ((h0, .inr (1, [.ref q1, .ref q2, .null, .null, .int 0, .int 0])) :: (q1, .inl (cA 0, 12, .inl (fun _ => 0))) :: (q2, .inl (cA 0, 12, .inl (fun _ => 0))) :: ([] : va_W)) H := hP
  replace hD : va_D A ((h0, .inr (1, [.ref q1, .ref q2, .null, .null, .int 0, .int 0])) :: (q1, .inl (cA 0, 12, .inl (fun _ => 0))) :: (q2, .inl (cA 0, 12, .inl (fun _ => 0))) :: ([] : va_W)) := hD
  refine lv_aload_n hx hb dX1_init_20 rfl (lv_at hl 0 rfl) ?_
  refine lv_bipush (v := 12) hx hb dX1_init_21 (by decide) ?_
  refine znewa_i X hP hD hS hA (tb_of (tq_1 67 rfl) rfl) (N' := 12) (by decide) (by decide) (Nat.le_of_ble_eq_true rfl) ⟨Nat.le_of_ble_eq_true rfl, Nat.le_of_ble_eq_true rfl⟩ dX1_init_23 (fun q3 H hP9 hD9 hS9 => ?_)
  clear hP hD hS; rename va_P D ZCL _ H => hP; rename va_D A _ => hD; rename va_S A s.heap H _ => hS
  replace hP : va_P D ZCL ((h0, .inr (1, [.ref q1, .ref q2, .null, .null, .int 0, .int 0])) :: (q1, .inl (cA 0, 12, .inl (fun _ => 0))) :: (q2, .inl (cA 0, 12, .inl (fun _ => 0))) :: (q3, .inl (cA 0, 12, .inl (fun _ => 0))) :: ([] : va_W)) H := hP
  replace hD : va_D A ((h0, .inr (1, [.ref q1, .ref q2, .null, .null, .int 0, .int 0])) :: (q1, .inl (cA 0, 12, .inl (fun _ => 0))) :: (q2, .inl (cA 0, 12, .inl (fun _ => 0))) :: (q3, .inl (cA 0, 12, .inl (fun _ => 0))) :: ([] : va_W)) := hD
  refine W.widen (k := 3) (n := 36) (Nat.le_of_ble_eq_true rfl) (Nat.le_of_ble_eq_true rfl) ?_
  refine zputF X hinit hP hD hS (C := RX1) (T := TX1) (NN := 6) (ci := 1) in_X1 tyX1 tyX1_ok nmX1 0 rfl rfl 2 (by decide) fl_X1_16 rfl rfl (ty := (tyX1 2)) (by decide +kernel) rfl rfl (Nat.le_of_ble_eq_true rfl) dX1_init_25 (fun H locs hP9 hD9 hS9 => ?_)
  clear hP hD hS; rename va_P D ZCL _ H => hP; rename va_D A _ => hD; rename va_S A s.heap H _ => hS
  replace hP : va_P D ZCL ((h0, .inr (1, [.ref q1, .ref q2, .ref q3, .null, .int 0, .int 0])) :: (q1, .inl (cA 0, 12, .inl (fun _ => 0))) :: (q2, .inl (cA 0, 12, .inl (fun _ => 0))) :: (q3, .inl (cA 0, 12, .inl (fun _ => 0))) :: ([] : va_W)) H := hP
  replace hD : va_D A ((h0, .inr (1, [.ref q1, .ref q2, .ref q3, .null, .int 0, .int 0])) :: (q1, .inl (cA 0, 12, .inl (fun _ => 0))) :: (q2, .inl (cA 0, 12, .inl (fun _ => 0))) :: (q3, .inl (cA 0, 12, .inl (fun _ => 0))) :: ([] : va_W)) := hD
  refine lv_aload_n hx hb dX1_init_28 rfl (lv_at hl 0 rfl) ?_
  refine lv_bipush (v := 12) hx hb dX1_init_29 (by decide) ?_
  refine znewa_i X hP hD hS hA (tb_of (tq_1 67 rfl) rfl) (N' := 12) (by decide) (by decide) (Nat.le_of_ble_eq_true rfl) ⟨Nat.le_of_ble_eq_true rfl, Nat.le_of_ble_eq_true rfl⟩ dX1_init_31 (fun q4 H hP9 hD9 hS9 => ?_)
  clear hP hD hS; rename va_P D ZCL _ H => hP; rename va_D A _ => hD; rename va_S A s.heap H _ => hS
  replace hP : va_P D ZCL ((h0, .inr (1, [.ref q1, .ref q2, .ref q3, .null, .int 0, .int 0])) :: (q1, .inl (cA 0, 12, .inl (fun _ => 0))) :: (q2, .inl (cA 0, 12, .inl (fun _ => 0))) :: (q3, .inl (cA 0, 12, .inl (fun _ => 0))) :: (q4, .inl (cA 0, 12, .inl (fun _ => 0))) :: ([] : va_W)) H := hP
  replace hD : va_D A ((h0, .inr (1, [.ref q1, .ref q2, .ref q3, .null, .int 0, .int 0])) :: (q1, .inl (cA 0, 12, .inl (fun _ => 0))) :: (q2, .inl (cA 0, 12, .inl (fun _ => 0))) :: (q3, .inl (cA 0, 12, .inl (fun _ => 0))) :: (q4, .inl (cA 0, 12, .inl (fun _ => 0))) :: ([] : va_W)) := hD
  refine W.widen (k := 4) (n := 48) (Nat.le_of_ble_eq_true rfl) (Nat.le_of_ble_eq_true rfl) ?_
  refine zputF X hinit hP hD hS (C := RX1) (T := TX1) (NN := 6) (ci := 1) in_X1 tyX1 tyX1_ok nmX1 0 rfl rfl 3 (by decide) fl_X1_19 rfl rfl (ty := (tyX1 3)) (by decide +kernel) rfl rfl (Nat.le_of_ble_eq_true rfl) dX1_init_33 (fun H locs hP9 hD9 hS9 => ?_)
  clear hP hD hS; rename va_P D ZCL _ H => hP; rename va_D A _ => hD; rename va_S A s.heap H _ => hS
  replace hP : va_P D ZCL ((h0, .inr (1, [.ref q1, .ref q2, .ref q3, .ref q4, .int 0, .int 0])) :: (q1, .inl (cA 0, 12, .inl (fun _ => 0))) :: (q2, .inl (cA 0, 12, .inl (fun _ => 0))) :: (q3, .inl (cA 0, 12, .inl (fun _ => 0))) :: (q4, .inl (cA 0, 12, .inl (fun _ => 0))) :: ([] : va_W)) H := hP
  replace hD : va_D A ((h0, .inr (1, [.ref q1, .ref q2, .ref q3, .ref q4, .int 0, .int 0])) :: (q1, .inl (cA 0, 12, .inl (fun _ => 0))) :: (q2, .inl (cA 0, 12, .inl (fun _ => 0))) :: (q3, .inl (cA 0, 12, .inl (fun _ => 0))) :: (q4, .inl (cA 0, 12, .inl (fun _ => 0))) :: ([] : va_W)) := hD
  exact zcret X hP hD hS ⟨q1, q2, q3, q4, rfl⟩ dX1_init_36
theorem dX4_init_0 : decode cX4_init 0 = .ok (.aload_n 0, 1) := by decide +kernel
theorem dX4_init_1 : decode cX4_init 1 = .ok (.invokespecial 3, 3) := by decide +kernel
theorem dX4_init_4 : decode cX4_init 4 = .ok (.aload_n 0, 1) := by decide +kernel
theorem dX4_init_5 : decode cX4_init 5 = .ok (.sipush 462, 3) := by decide +kernel
theorem dX4_init_8 : decode cX4_init 8 = .ok (.newarray .long, 2) := by decide +kernel
theorem dX4_init_10 : decode cX4_init 10 = .ok (.putfield 11, 3) := by decide +kernel
theorem dX4_init_13 : decode cX4_init 13 = .ok (.return_, 1) := by decide +kernel
theorem cv_X4 : zVi yX4_init cX4_init 1 RX4 := ⟨by decide +kernel, rfl, tb_of (tq_1 72 rfl) rfl, tb_of (tq_1 4 rfl) rfl, tb_of (tq_1 73 rfl) rfl⟩
set_option maxHeartbeats 4000000 in
set_option maxRecDepth 100000 in
theorem ct_X4 {cA : Nat → ClassId} {D : va_G} {E : Nat → Nat} {l : Launch} : zct cA D E l yX4_init cX4_init 1 1 1 462 40 (.inr (4, [.int 0, .int 0, .null])) (fun h0 w => ∃ q1 : Nat, w = ((h0, .inr (4, [.int 0, .int 0, .ref q1])) :: (q1, .inl (cA 1, 462, .inr (.inl (fun _ => 0)))) :: ([] : va_W))) := by
  refine zcstart (own := RX4) (by decide) rfl rfl (by decide) ?_
  intro p e s m args below meth c h0 A X hAO hinit hA hP hD ls hl
  have hx := X.1
  have hb := X.2.1
  have hS : va_S A s.heap s.heap [] := va_S.rf
  refine lv_aload_n hx hb dX4_init_0 rfl (lv_at hl 0 rfl) ?_
  refine zinit X hl.1 ml_X4_3 (tb_of (tq_1 27 rfl) rfl) (tb_of (tq_1 28 rfl) rfl) ⟨Nat.le_of_ble_eq_true rfl, Nat.le_of_ble_eq_true rfl⟩ dX4_init_1 ?_
  refine lv_aload_n hx hb dX4_init_4 rfl (lv_at hl 0 rfl) ?_
  refine lv_sipush (v := 462) hx hb dX4_init_5 (by decide) ?_
  refine znewa_l X hP hD hS hA (tb_of (tq_1 93 rfl) rfl) (N' := 462) (by decide) (by decide) (Nat.le_of_ble_eq_true rfl) ⟨Nat.le_of_ble_eq_true rfl, Nat.le_of_ble_eq_true rfl⟩ dX4_init_8 (fun q1 H hP9 hD9 hS9 => ?_)
  clear hP hD hS; rename va_P D ZCL _ H => hP; rename va_D A _ => hD; rename va_S A s.heap H _ => hS
  replace hP : va_P D ZCL ((h0, .inr (4, [.int 0, .int 0, .null])) :: (q1, .inl (cA 1, 462, .inr (.inl (fun _ => 0)))) :: ([] : va_W)) H := hP
  replace hD : va_D A ((h0, .inr (4, [.int 0, .int 0, .null])) :: (q1, .inl (cA 1, 462, .inr (.inl (fun _ => 0)))) :: ([] : va_W)) := hD
  refine W.widen (k := 1) (n := 462) (Nat.le_of_ble_eq_true rfl) (Nat.le_of_ble_eq_true rfl) ?_
  refine zputF X hinit hP hD hS (C := RX4) (T := TX4) (NN := 3) (ci := 4) in_X4 tyX4 tyX4_ok nmX4 0 rfl rfl 2 (by decide) fl_X4_11 rfl rfl (ty := (tyX4 2)) (by decide +kernel) rfl rfl (Nat.le_of_ble_eq_true rfl) dX4_init_10 (fun H locs hP9 hD9 hS9 => ?_)
  clear hP hD hS; rename va_P D ZCL _ H => hP; rename va_D A _ => hD; rename va_S A s.heap H _ => hS
  replace hP : va_P D ZCL ((h0, .inr (4, [.int 0, .int 0, .ref q1])) :: (q1, .inl (cA 1, 462, .inr (.inl (fun _ => 0)))) :: ([] : va_W)) H := hP
  replace hD : va_D A ((h0, .inr (4, [.int 0, .int 0, .ref q1])) :: (q1, .inl (cA 1, 462, .inr (.inl (fun _ => 0)))) :: ([] : va_W)) := hD
  exact zcret X hP hD hS ⟨q1, rfl⟩ dX4_init_13
theorem dX7_init_0 : decode cX7_init 0 = .ok (.aload_n 0, 1) := by decide +kernel
theorem dX7_init_1 : decode cX7_init 1 = .ok (.invokespecial 3, 3) := by decide +kernel
theorem dX7_init_4 : decode cX7_init 4 = .ok (.aload_n 0, 1) := by decide +kernel
theorem dX7_init_5 : decode cX7_init 5 = .ok (.iconst 3, 1) := by decide +kernel
theorem dX7_init_6 : decode cX7_init 6 = .ok (.newarray .int, 2) := by decide +kernel
theorem dX7_init_8 : decode cX7_init 8 = .ok (.putfield 9, 3) := by decide +kernel
theorem dX7_init_11 : decode cX7_init 11 = .ok (.aload_n 0, 1) := by decide +kernel
theorem dX7_init_12 : decode cX7_init 12 = .ok (.iconst 3, 1) := by decide +kernel
theorem dX7_init_13 : decode cX7_init 13 = .ok (.newarray .int, 2) := by decide +kernel
theorem dX7_init_15 : decode cX7_init 15 = .ok (.putfield 15, 3) := by decide +kernel
theorem dX7_init_18 : decode cX7_init 18 = .ok (.aload_n 0, 1) := by decide +kernel
theorem dX7_init_19 : decode cX7_init 19 = .ok (.iconst 3, 1) := by decide +kernel
theorem dX7_init_20 : decode cX7_init 20 = .ok (.newarray .int, 2) := by decide +kernel
theorem dX7_init_22 : decode cX7_init 22 = .ok (.putfield 18, 3) := by decide +kernel
theorem dX7_init_25 : decode cX7_init 25 = .ok (.return_, 1) := by decide +kernel
theorem cv_X7 : zVi yX7_init cX7_init 1 RX7 := ⟨by decide +kernel, rfl, tb_of (tq_1 38 rfl) rfl, tb_of (tq_1 3 rfl) rfl, tb_of (tq_1 39 rfl) rfl⟩
set_option maxHeartbeats 4000000 in
set_option maxRecDepth 100000 in
theorem ct_X7 {cA : Nat → ClassId} {D : va_G} {E : Nat → Nat} {l : Launch} : zct cA D E l yX7_init cX7_init 1 1 3 9 40 (.inr (7, [.int 0, .int 0, .int 0, .null, .null, .null])) (fun h0 w => ∃ q1 q2 q3 : Nat, w = ((h0, .inr (7, [.int 0, .int 0, .int 0, .ref q1, .ref q2, .ref q3])) :: (q1, .inl (cA 0, 3, .inl (fun _ => 0))) :: (q2, .inl (cA 0, 3, .inl (fun _ => 0))) :: (q3, .inl (cA 0, 3, .inl (fun _ => 0))) :: ([] : va_W))) := by
  refine zcstart (own := RX7) (by decide) rfl rfl (by decide) ?_
  intro p e s m args below meth c h0 A X hAO hinit hA hP hD ls hl
  have hx := X.1
  have hb := X.2.1
  have hS : va_S A s.heap s.heap [] := va_S.rf
  refine lv_aload_n hx hb dX7_init_0 rfl (lv_at hl 0 rfl) ?_
  refine zinit X hl.1 ml_X7_3 (tb_of (tq_1 27 rfl) rfl) (tb_of (tq_1 28 rfl) rfl) ⟨Nat.le_of_ble_eq_true rfl, Nat.le_of_ble_eq_true rfl⟩ dX7_init_1 ?_
  refine lv_aload_n hx hb dX7_init_4 rfl (lv_at hl 0 rfl) ?_
  refine lv_iconst (v := 3) hx hb dX7_init_5 (by decide) ?_
  refine znewa_i X hP hD hS hA (tb_of (tq_1 67 rfl) rfl) (N' := 3) (by decide) (by decide) (Nat.le_of_ble_eq_true rfl) ⟨Nat.le_of_ble_eq_true rfl, Nat.le_of_ble_eq_true rfl⟩ dX7_init_6 (fun q1 H hP9 hD9 hS9 => ?_)
  clear hP hD hS; rename va_P D ZCL _ H => hP; rename va_D A _ => hD; rename va_S A s.heap H _ => hS
  replace hP : va_P D ZCL ((h0, .inr (7, [.int 0, .int 0, .int 0, .null, .null, .null])) :: (q1, .inl (cA 0, 3, .inl (fun _ => 0))) :: ([] : va_W)) H := hP
  replace hD : va_D A ((h0, .inr (7, [.int 0, .int 0, .int 0, .null, .null, .null])) :: (q1, .inl (cA 0, 3, .inl (fun _ => 0))) :: ([] : va_W)) := hD
  refine W.widen (k := 1) (n := 3) (Nat.le_of_ble_eq_true rfl) (Nat.le_of_ble_eq_true rfl) ?_
  refine zputF X hinit hP hD hS (C := RX7) (T := TX7) (NN := 6) (ci := 7) in_X7 tyX7 tyX7_ok nmX7 0 rfl rfl 3 (by decide) fl_X7_9 rfl rfl (ty := (tyX7 3)) (by decide +kernel) rfl rfl (Nat.le_of_ble_eq_true rfl) dX7_init_8 (fun H locs hP9 hD9 hS9 => ?_)
  clear hP hD hS; rename va_P D ZCL _ H => hP; rename va_D A _ => hD; rename va_S A s.heap H _ => hS
  replace hP : va_P D ZCL ((h0, .inr (7, [.int 0, .int 0, .int 0, .ref q1, .null, .null])) :: (q1, .inl (cA 0, 3, .inl (fun _ => 0))) :: ([] : va_W)) H := hP
  replace hD : va_D A ((h0, .inr (7, [.int 0, .int 0, .int 0, .ref q1, .null, .null])) :: (q1, .inl (cA 0, 3, .inl (fun _ => 0))) :: ([] : va_W)) := hD
  refine lv_aload_n hx hb dX7_init_11 rfl (lv_at hl 0 rfl) ?_
  refine lv_iconst (v := 3) hx hb dX7_init_12 (by decide) ?_
  refine znewa_i X hP hD hS hA (tb_of (tq_1 67 rfl) rfl) (N' := 3) (by decide) (by decide) (Nat.le_of_ble_eq_true rfl) ⟨Nat.le_of_ble_eq_true rfl, Nat.le_of_ble_eq_true rfl⟩ dX7_init_13 (fun q2 H hP9 hD9 hS9 => ?_)
  clear hP hD hS; rename va_P D ZCL _ H => hP; rename va_D A _ => hD; rename va_S A s.heap H _ => hS
  replace hP : va_P D ZCL ((h0, .inr (7, [.int 0, .int 0, .int 0, .ref q1, .null, .null])) :: (q1, .inl (cA 0, 3, .inl (fun _ => 0))) :: (q2, .inl (cA 0, 3, .inl (fun _ => 0))) :: ([] : va_W)) H := hP
  replace hD : va_D A ((h0, .inr (7, [.int 0, .int 0, .int 0, .ref q1, .null, .null])) :: (q1, .inl (cA 0, 3, .inl (fun _ => 0))) :: (q2, .inl (cA 0, 3, .inl (fun _ => 0))) :: ([] : va_W)) := hD
  refine W.widen (k := 2) (n := 6) (Nat.le_of_ble_eq_true rfl) (Nat.le_of_ble_eq_true rfl) ?_
  refine zputF X hinit hP hD hS (C := RX7) (T := TX7) (NN := 6) (ci := 7) in_X7 tyX7 tyX7_ok nmX7 0 rfl rfl 4 (by decide) fl_X7_15 rfl rfl (ty := (tyX7 4)) (by decide +kernel) rfl rfl (Nat.le_of_ble_eq_true rfl) dX7_init_15 (fun H locs hP9 hD9 hS9 => ?_)
  clear hP hD hS; rename va_P D ZCL _ H => hP; rename va_D A _ => hD; rename va_S A s.heap H _ => hS
  replace hP : va_P D ZCL ((h0, .inr (7, [.int 0, .int 0, .int 0, .ref q1, .ref q2, .null])) :: (q1, .inl (cA 0, 3, .inl (fun _ => 0))) :: (q2, .inl (cA 0, 3, .inl (fun _ => 0))) :: ([] : va_W)) H := hP
  replace hD : va_D A ((h0, .inr (7, [.int 0, .int 0, .int 0, .ref q1, .ref q2, .null])) :: (q1, .inl (cA 0, 3, .inl (fun _ => 0))) :: (q2, .inl (cA 0, 3, .inl (fun _ => 0))) :: ([] : va_W)) := hD
  refine lv_aload_n hx hb dX7_init_18 rfl (lv_at hl 0 rfl) ?_
  refine lv_iconst (v := 3) hx hb dX7_init_19 (by decide) ?_
  refine znewa_i X hP hD hS hA (tb_of (tq_1 67 rfl) rfl) (N' := 3) (by decide) (by decide) (Nat.le_of_ble_eq_true rfl) ⟨Nat.le_of_ble_eq_true rfl, Nat.le_of_ble_eq_true rfl⟩ dX7_init_20 (fun q3 H hP9 hD9 hS9 => ?_)
  clear hP hD hS; rename va_P D ZCL _ H => hP; rename va_D A _ => hD; rename va_S A s.heap H _ => hS
  replace hP : va_P D ZCL ((h0, .inr (7, [.int 0, .int 0, .int 0, .ref q1, .ref q2, .null])) :: (q1, .inl (cA 0, 3, .inl (fun _ => 0))) :: (q2, .inl (cA 0, 3, .inl (fun _ => 0))) :: (q3, .inl (cA 0, 3, .inl (fun _ => 0))) :: ([] : va_W)) H := hP
  replace hD : va_D A ((h0, .inr (7, [.int 0, .int 0, .int 0, .ref q1, .ref q2, .null])) :: (q1, .inl (cA 0, 3, .inl (fun _ => 0))) :: (q2, .inl (cA 0, 3, .inl (fun _ => 0))) :: (q3, .inl (cA 0, 3, .inl (fun _ => 0))) :: ([] : va_W)) := hD
  refine W.widen (k := 3) (n := 9) (Nat.le_of_ble_eq_true rfl) (Nat.le_of_ble_eq_true rfl) ?_
  refine zputF X hinit hP hD hS (C := RX7) (T := TX7) (NN := 6) (ci := 7) in_X7 tyX7 tyX7_ok nmX7 0 rfl rfl 5 (by decide) fl_X7_18 rfl rfl (ty := (tyX7 5)) (by decide +kernel) rfl rfl (Nat.le_of_ble_eq_true rfl) dX7_init_22 (fun H locs hP9 hD9 hS9 => ?_)
  clear hP hD hS; rename va_P D ZCL _ H => hP; rename va_D A _ => hD; rename va_S A s.heap H _ => hS
  replace hP : va_P D ZCL ((h0, .inr (7, [.int 0, .int 0, .int 0, .ref q1, .ref q2, .ref q3])) :: (q1, .inl (cA 0, 3, .inl (fun _ => 0))) :: (q2, .inl (cA 0, 3, .inl (fun _ => 0))) :: (q3, .inl (cA 0, 3, .inl (fun _ => 0))) :: ([] : va_W)) H := hP
  replace hD : va_D A ((h0, .inr (7, [.int 0, .int 0, .int 0, .ref q1, .ref q2, .ref q3])) :: (q1, .inl (cA 0, 3, .inl (fun _ => 0))) :: (q2, .inl (cA 0, 3, .inl (fun _ => 0))) :: (q3, .inl (cA 0, 3, .inl (fun _ => 0))) :: ([] : va_W)) := hD
  exact zcret X hP hD hS ⟨q1, q2, q3, rfl⟩ dX7_init_25
theorem dX9_init_0 : decode cX9_init 0 = .ok (.aload_n 0, 1) := by decide +kernel
theorem dX9_init_1 : decode cX9_init 1 = .ok (.invokespecial 3, 3) := by decide +kernel
theorem dX9_init_4 : decode cX9_init 4 = .ok (.aload_n 0, 1) := by decide +kernel
theorem dX9_init_5 : decode cX9_init 5 = .ok (.bipush 80, 2) := by decide +kernel
theorem dX9_init_7 : decode cX9_init 7 = .ok (.newarray .char, 2) := by decide +kernel
theorem dX9_init_9 : decode cX9_init 9 = .ok (.putfield 11, 3) := by decide +kernel
theorem dX9_init_12 : decode cX9_init 12 = .ok (.return_, 1) := by decide +kernel
theorem cv_X9 : zVi yX9_init cX9_init 1 RX9 := ⟨by decide +kernel, rfl, tb_of (tq_1 228 rfl) rfl, tb_of (tq_1 8 rfl) rfl, tb_of (tq_1 229 rfl) rfl⟩
set_option maxHeartbeats 4000000 in
set_option maxRecDepth 100000 in
theorem ct_X9 {cA : Nat → ClassId} {D : va_G} {E : Nat → Nat} {l : Launch} : zct cA D E l yX9_init cX9_init 1 1 1 80 40 (.inr (9, [.null, .int 0, .int 0])) (fun h0 w => ∃ q1 : Nat, w = ((h0, .inr (9, [.ref q1, .int 0, .int 0])) :: (q1, .inl (cA 3, 80, .inl (fun _ => 0))) :: ([] : va_W))) := by
  refine zcstart (own := RX9) (by decide) rfl rfl (by decide) ?_
  intro p e s m args below meth c h0 A X hAO hinit hA hP hD ls hl
  have hx := X.1
  have hb := X.2.1
  have hS : va_S A s.heap s.heap [] := va_S.rf
  refine lv_aload_n hx hb dX9_init_0 rfl (lv_at hl 0 rfl) ?_
  refine zinit X hl.1 ml_X9_3 (tb_of (tq_1 27 rfl) rfl) (tb_of (tq_1 28 rfl) rfl) ⟨Nat.le_of_ble_eq_true rfl, Nat.le_of_ble_eq_true rfl⟩ dX9_init_1 ?_
  refine lv_aload_n hx hb dX9_init_4 rfl (lv_at hl 0 rfl) ?_
  refine lv_bipush (v := 80) hx hb dX9_init_5 (by decide) ?_
  refine znewa_c X hP hD hS hA (tb_of (tq_2 2 rfl) rfl) (N' := 80) (by decide) (by decide) (Nat.le_of_ble_eq_true rfl) ⟨Nat.le_of_ble_eq_true rfl, Nat.le_of_ble_eq_true rfl⟩ dX9_init_7 (fun q1 H hP9 hD9 hS9 => ?_)
  clear hP hD hS; rename va_P D ZCL _ H => hP; rename va_D A _ => hD; rename va_S A s.heap H _ => hS
  replace hP : va_P D ZCL ((h0, .inr (9, [.null, .int 0, .int 0])) :: (q1, .inl (cA 3, 80, .inl (fun _ => 0))) :: ([] : va_W)) H := hP
  replace hD : va_D A ((h0, .inr (9, [.null, .int 0, .int 0])) :: (q1, .inl (cA 3, 80, .inl (fun _ => 0))) :: ([] : va_W)) := hD
  refine W.widen (k := 1) (n := 80) (Nat.le_of_ble_eq_true rfl) (Nat.le_of_ble_eq_true rfl) ?_
  refine zputF X hinit hP hD hS (C := RX9) (T := TX9) (NN := 3) (ci := 9) in_X9 tyX9 tyX9_ok nmX9 0 rfl rfl 0 (by decide) fl_X9_11 rfl rfl (ty := (tyX9 0)) (by decide +kernel) rfl rfl (Nat.le_of_ble_eq_true rfl) dX9_init_9 (fun H locs hP9 hD9 hS9 => ?_)
  clear hP hD hS; rename va_P D ZCL _ H => hP; rename va_D A _ => hD; rename va_S A s.heap H _ => hS
  replace hP : va_P D ZCL ((h0, .inr (9, [.ref q1, .int 0, .int 0])) :: (q1, .inl (cA 3, 80, .inl (fun _ => 0))) :: ([] : va_W)) H := hP
  replace hD : va_D A ((h0, .inr (9, [.ref q1, .int 0, .int 0])) :: (q1, .inl (cA 3, 80, .inl (fun _ => 0))) :: ([] : va_W)) := hD
  exact zcret X hP hD hS ⟨q1, rfl⟩ dX9_init_12
theorem dX2_init_0 : decode cX2_init 0 = .ok (.aload_n 0, 1) := by decide +kernel
theorem dX2_init_1 : decode cX2_init 1 = .ok (.invokespecial 3, 3) := by decide +kernel
theorem dX2_init_4 : decode cX2_init 4 = .ok (.aload_n 0, 1) := by decide +kernel
theorem dX2_init_5 : decode cX2_init 5 = .ok (.bipush 12, 2) := by decide +kernel
theorem dX2_init_7 : decode cX2_init 7 = .ok (.newarray .int, 2) := by decide +kernel
theorem dX2_init_9 : decode cX2_init 9 = .ok (.putfield 11, 3) := by decide +kernel
theorem dX2_init_12 : decode cX2_init 12 = .ok (.aload_n 0, 1) := by decide +kernel
theorem dX2_init_13 : decode cX2_init 13 = .ok (.bipush 12, 2) := by decide +kernel
theorem dX2_init_15 : decode cX2_init 15 = .ok (.newarray .int, 2) := by decide +kernel
theorem dX2_init_17 : decode cX2_init 17 = .ok (.putfield 15, 3) := by decide +kernel
theorem dX2_init_20 : decode cX2_init 20 = .ok (.aload_n 0, 1) := by decide +kernel
theorem dX2_init_21 : decode cX2_init 21 = .ok (.bipush 12, 2) := by decide +kernel
theorem dX2_init_23 : decode cX2_init 23 = .ok (.newarray .int, 2) := by decide +kernel
theorem dX2_init_25 : decode cX2_init 25 = .ok (.putfield 18, 3) := by decide +kernel
theorem dX2_init_28 : decode cX2_init 28 = .ok (.return_, 1) := by decide +kernel
theorem cv_X2 : zVi yX2_init cX2_init 1 RX2 := ⟨by decide +kernel, rfl, tb_of (tq_2 6 rfl) rfl, tb_of (tq_1 9 rfl) rfl, tb_of (tq_2 7 rfl) rfl⟩
set_option maxHeartbeats 4000000 in
set_option maxRecDepth 100000 in
theorem ct_X2 {cA : Nat → ClassId} {D : va_G} {E : Nat → Nat} {l : Launch} : zct cA D E l yX2_init cX2_init 1 1 3 36 40 (.inr (2, [.null, .null, .null, .int 0])) (fun h0 w => ∃ q1 q2 q3 : Nat, w = ((h0, .inr (2, [.ref q1, .ref q2, .ref q3, .int 0])) :: (q1, .inl (cA 0, 12, .inl (fun _ => 0))) :: (q2, .inl (cA 0, 12, .inl (fun _ => 0))) :: (q3, .inl (cA 0, 12, .inl (fun _ => 0))) :: ([] : va_W))) := by
  refine zcstart (own := RX2) (by decide) rfl rfl (by decide) ?_
  intro p e s m args below meth c h0 A X hAO hinit hA hP hD ls hl
  have hx := X.1
  have hb := X.2.1
  have hS : va_S A s.heap s.heap [] := va_S.rf
  refine lv_aload_n hx hb dX2_init_0 rfl (lv_at hl 0 rfl) ?_
  refine zinit X hl.1 ml_X2_3 (tb_of (tq_1 27 rfl) rfl) (tb_of (tq_1 28 rfl) rfl) ⟨Nat.le_of_ble_eq_true rfl, Nat.le_of_ble_eq_true rfl⟩ dX2_init_1 ?_
  refine lv_aload_n hx hb dX2_init_4 rfl (lv_at hl 0 rfl) ?_
  refine lv_bipush (v := 12) hx hb dX2_init_5 (by decide) ?_
  refine znewa_i X hP hD hS hA (tb_of (tq_1 67 rfl) rfl) (N' := 12) (by decide) (by decide) (Nat.le_of_ble_eq_true rfl) ⟨Nat.le_of_ble_eq_true rfl, Nat.le_of_ble_eq_true rfl⟩ dX2_init_7 (fun q1 H hP9 hD9 hS9 => ?_)
  clear hP hD hS; rename va_P D ZCL _ H => hP; rename va_D A _ => hD; rename va_S A s.heap H _ => hS
  replace hP : va_P D ZCL ((h0, .inr (2, [.null, .null, .null, .int 0])) :: (q1, .inl (cA 0, 12, .inl (fun _ => 0))) :: ([] : va_W)) H := hP
  replace hD : va_D A ((h0, .inr (2, [.null, .null, .null, .int 0])) :: (q1, .inl (cA 0, 12, .inl (fun _ => 0))) :: ([] : va_W)) := hD
  refine W.widen (k := 1) (n := 12) (Nat.le_of_ble_eq_true rfl) (Nat.le_of_ble_eq_true rfl) ?_
  refine zputF X hinit hP hD hS (C := RX2) (T := TX2) (NN := 4) (ci := 2) in_X2 tyX2 tyX2_ok nmX2 0 rfl rfl 0 (by decide) fl_X2_11 rfl rfl (ty := (tyX2 0)) (by decide +kernel) rfl rfl (Nat.le_of_ble_eq_true rfl) dX2_init_9 (fun H locs hP9 hD9 hS9 => ?_)
  clear hP hD hS; rename va_P D ZCL _ H => hP; rename va_D A _ => hD; rename va_S A s.heap H _ => hS
  replace hP : va_P D ZCL ((h0, .inr (2, [.ref q1, .null, .null, .int 0])) :: (q1, .inl (cA 0, 12, .inl (fun _ => 0))) :: ([] : va_W)) H := hP
  replace hD : va_D A ((h0, .inr (2, [.ref q1, .null, .null, .int 0])) :: (q1, .inl (cA 0, 12, .inl (fun _ => 0))) :: ([] : va_W)) := hD
  refine lv_aload_n hx hb dX2_init_12 rfl (lv_at hl 0 rfl) ?_
  refine lv_bipush (v := 12) hx hb dX2_init_13 (by decide) ?_
  refine znewa_i X hP hD hS hA (tb_of (tq_1 67 rfl) rfl) (N' := 12) (by decide) (by decide) (Nat.le_of_ble_eq_true rfl) ⟨Nat.le_of_ble_eq_true rfl, Nat.le_of_ble_eq_true rfl⟩ dX2_init_15 (fun q2 H hP9 hD9 hS9 => ?_)
  clear hP hD hS; rename va_P D ZCL _ H => hP; rename va_D A _ => hD; rename va_S A s.heap H _ => hS
  replace hP : va_P D ZCL ((h0, .inr (2, [.ref q1, .null, .null, .int 0])) :: (q1, .inl (cA 0, 12, .inl (fun _ => 0))) :: (q2, .inl (cA 0, 12, .inl (fun _ => 0))) :: ([] : va_W)) H := hP
  replace hD : va_D A ((h0, .inr (2, [.ref q1, .null, .null, .int 0])) :: (q1, .inl (cA 0, 12, .inl (fun _ => 0))) :: (q2, .inl (cA 0, 12, .inl (fun _ => 0))) :: ([] : va_W)) := hD
  refine W.widen (k := 2) (n := 24) (Nat.le_of_ble_eq_true rfl) (Nat.le_of_ble_eq_true rfl) ?_
  refine zputF X hinit hP hD hS (C := RX2) (T := TX2) (NN := 4) (ci := 2) in_X2 tyX2 tyX2_ok nmX2 0 rfl rfl 1 (by decide) fl_X2_15 rfl rfl (ty := (tyX2 1)) (by decide +kernel) rfl rfl (Nat.le_of_ble_eq_true rfl) dX2_init_17 (fun H locs hP9 hD9 hS9 => ?_)
  clear hP hD hS; rename va_P D ZCL _ H => hP; rename va_D A _ => hD; rename va_S A s.heap H _ => hS
  replace hP : va_P D ZCL ((h0, .inr (2, [.ref q1, .ref q2, .null, .int 0])) :: (q1, .inl (cA 0, 12, .inl (fun _ => 0))) :: (q2, .inl (cA 0, 12, .inl (fun _ => 0))) :: ([] : va_W)) H := hP
  replace hD : va_D A ((h0, .inr (2, [.ref q1, .ref q2, .null, .int 0])) :: (q1, .inl (cA 0, 12, .inl (fun _ => 0))) :: (q2, .inl (cA 0, 12, .inl (fun _ => 0))) :: ([] : va_W)) := hD
  refine lv_aload_n hx hb dX2_init_20 rfl (lv_at hl 0 rfl) ?_
  refine lv_bipush (v := 12) hx hb dX2_init_21 (by decide) ?_
  refine znewa_i X hP hD hS hA (tb_of (tq_1 67 rfl) rfl) (N' := 12) (by decide) (by decide) (Nat.le_of_ble_eq_true rfl) ⟨Nat.le_of_ble_eq_true rfl, Nat.le_of_ble_eq_true rfl⟩ dX2_init_23 (fun q3 H hP9 hD9 hS9 => ?_)
  clear hP hD hS; rename va_P D ZCL _ H => hP; rename va_D A _ => hD; rename va_S A s.heap H _ => hS
  replace hP : va_P D ZCL ((h0, .inr (2, [.ref q1, .ref q2, .null, .int 0])) :: (q1, .inl (cA 0, 12, .inl (fun _ => 0))) :: (q2, .inl (cA 0, 12, .inl (fun _ => 0))) :: (q3, .inl (cA 0, 12, .inl (fun _ => 0))) :: ([] : va_W)) H := hP
  replace hD : va_D A ((h0, .inr (2, [.ref q1, .ref q2, .null, .int 0])) :: (q1, .inl (cA 0, 12, .inl (fun _ => 0))) :: (q2, .inl (cA 0, 12, .inl (fun _ => 0))) :: (q3, .inl (cA 0, 12, .inl (fun _ => 0))) :: ([] : va_W)) := hD
  refine W.widen (k := 3) (n := 36) (Nat.le_of_ble_eq_true rfl) (Nat.le_of_ble_eq_true rfl) ?_
  refine zputF X hinit hP hD hS (C := RX2) (T := TX2) (NN := 4) (ci := 2) in_X2 tyX2 tyX2_ok nmX2 0 rfl rfl 2 (by decide) fl_X2_18 rfl rfl (ty := (tyX2 2)) (by decide +kernel) rfl rfl (Nat.le_of_ble_eq_true rfl) dX2_init_25 (fun H locs hP9 hD9 hS9 => ?_)
  clear hP hD hS; rename va_P D ZCL _ H => hP; rename va_D A _ => hD; rename va_S A s.heap H _ => hS
  replace hP : va_P D ZCL ((h0, .inr (2, [.ref q1, .ref q2, .ref q3, .int 0])) :: (q1, .inl (cA 0, 12, .inl (fun _ => 0))) :: (q2, .inl (cA 0, 12, .inl (fun _ => 0))) :: (q3, .inl (cA 0, 12, .inl (fun _ => 0))) :: ([] : va_W)) H := hP
  replace hD : va_D A ((h0, .inr (2, [.ref q1, .ref q2, .ref q3, .int 0])) :: (q1, .inl (cA 0, 12, .inl (fun _ => 0))) :: (q2, .inl (cA 0, 12, .inl (fun _ => 0))) :: (q3, .inl (cA 0, 12, .inl (fun _ => 0))) :: ([] : va_W)) := hD
  exact zcret X hP hD hS ⟨q1, q2, q3, rfl⟩ dX2_init_28
theorem dX6_init_0 : decode cX6_init 0 = .ok (.aload_n 0, 1) := by decide +kernel
theorem dX6_init_1 : decode cX6_init 1 = .ok (.invokespecial 1, 3) := by decide +kernel
theorem dX6_init_4 : decode cX6_init 4 = .ok (.aload_n 0, 1) := by decide +kernel
theorem dX6_init_5 : decode cX6_init 5 = .ok (.sipush 200, 3) := by decide +kernel
theorem dX6_init_8 : decode cX6_init 8 = .ok (.newarray .char, 2) := by decide +kernel
theorem dX6_init_10 : decode cX6_init 10 = .ok (.putfield 9, 3) := by decide +kernel
theorem dX6_init_13 : decode cX6_init 13 = .ok (.aload_n 0, 1) := by decide +kernel
theorem dX6_init_14 : decode cX6_init 14 = .ok (.bipush 20, 2) := by decide +kernel
theorem dX6_init_16 : decode cX6_init 16 = .ok (.newarray .char, 2) := by decide +kernel
theorem dX6_init_18 : decode cX6_init 18 = .ok (.putfield 13, 3) := by decide +kernel
theorem dX6_init_21 : decode cX6_init 21 = .ok (.return_, 1) := by decide +kernel
theorem cv_X6 : zVi yX6_init cX6_init 1 RX6 := ⟨by decide +kernel, rfl, tb_of (tq_2 29 rfl) rfl, tb_of (tq_1 10 rfl) rfl, tb_of (tq_2 30 rfl) rfl⟩
set_option maxHeartbeats 4000000 in
set_option maxRecDepth 100000 in
theorem ct_X6 {cA : Nat → ClassId} {D : va_G} {E : Nat → Nat} {l : Launch} : zct cA D E l yX6_init cX6_init 1 1 2 220 40 (.inr (6, [.null, .int 0, .null])) (fun h0 w => ∃ q1 q2 : Nat, w = ((h0, .inr (6, [.ref q1, .int 0, .ref q2])) :: (q1, .inl (cA 3, 200, .inl (fun _ => 0))) :: (q2, .inl (cA 3, 20, .inl (fun _ => 0))) :: ([] : va_W))) := by
  refine zcstart (own := RX6) (by decide) rfl rfl (by decide) ?_
  intro p e s m args below meth c h0 A X hAO hinit hA hP hD ls hl
  have hx := X.1
  have hb := X.2.1
  have hS : va_S A s.heap s.heap [] := va_S.rf
  refine lv_aload_n hx hb dX6_init_0 rfl (lv_at hl 0 rfl) ?_
  refine zinit X hl.1 ml_X6_1 (tb_of (tq_1 27 rfl) rfl) (tb_of (tq_1 28 rfl) rfl) ⟨Nat.le_of_ble_eq_true rfl, Nat.le_of_ble_eq_true rfl⟩ dX6_init_1 ?_
  refine lv_aload_n hx hb dX6_init_4 rfl (lv_at hl 0 rfl) ?_
  refine lv_sipush (v := 200) hx hb dX6_init_5 (by decide) ?_
  refine znewa_c X hP hD hS hA (tb_of (tq_2 2 rfl) rfl) (N' := 200) (by decide) (by decide) (Nat.le_of_ble_eq_true rfl) ⟨Nat.le_of_ble_eq_true rfl, Nat.le_of_ble_eq_true rfl⟩ dX6_init_8 (fun q1 H hP9 hD9 hS9 => ?_)
  clear hP hD hS; rename va_P D ZCL _ H => hP; rename va_D A _ => hD; rename va_S A s.heap H _ => hS
  replace hP : va_P D ZCL ((h0, .inr (6, [.null, .int 0, .null])) :: (q1, .inl (cA 3, 200, .inl (fun _ => 0))) :: ([] : va_W)) H := hP
  replace hD : va_D A ((h0, .inr (6, [.null, .int 0, .null])) :: (q1, .inl (cA 3, 200, .inl (fun _ => 0))) :: ([] : va_W)) := hD
  refine W.widen (k := 1) (n := 200) (Nat.le_of_ble_eq_true rfl) (Nat.le_of_ble_eq_true rfl) ?_
  refine zputF X hinit hP hD hS (C := RX6) (T := TX6) (NN := 3) (ci := 6) in_X6 tyX6 tyX6_ok nmX6 0 rfl rfl 0 (by decide) fl_X6_9 rfl rfl (ty := (tyX6 0)) (by decide +kernel) rfl rfl (Nat.le_of_ble_eq_true rfl) dX6_init_10 (fun H locs hP9 hD9 hS9 => ?_)
  clear hP hD hS; rename va_P D ZCL _ H => hP; rename va_D A _ => hD; rename va_S A s.heap H _ => hS
  replace hP : va_P D ZCL ((h0, .inr (6, [.ref q1, .int 0, .null])) :: (q1, .inl (cA 3, 200, .inl (fun _ => 0))) :: ([] : va_W)) H := hP
  replace hD : va_D A ((h0, .inr (6, [.ref q1, .int 0, .null])) :: (q1, .inl (cA 3, 200, .inl (fun _ => 0))) :: ([] : va_W)) := hD
  refine lv_aload_n hx hb dX6_init_13 rfl (lv_at hl 0 rfl) ?_
  refine lv_bipush (v := 20) hx hb dX6_init_14 (by decide) ?_
  refine znewa_c X hP hD hS hA (tb_of (tq_2 2 rfl) rfl) (N' := 20) (by decide) (by decide) (Nat.le_of_ble_eq_true rfl) ⟨Nat.le_of_ble_eq_true rfl, Nat.le_of_ble_eq_true rfl⟩ dX6_init_16 (fun q2 H hP9 hD9 hS9 => ?_)
  clear hP hD hS; rename va_P D ZCL _ H => hP; rename va_D A _ => hD; rename va_S A s.heap H _ => hS
  replace hP : va_P D ZCL ((h0, .inr (6, [.ref q1, .int 0, .null])) :: (q1, .inl (cA 3, 200, .inl (fun _ => 0))) :: (q2, .inl (cA 3, 20, .inl (fun _ => 0))) :: ([] : va_W)) H := hP
  replace hD : va_D A ((h0, .inr (6, [.ref q1, .int 0, .null])) :: (q1, .inl (cA 3, 200, .inl (fun _ => 0))) :: (q2, .inl (cA 3, 20, .inl (fun _ => 0))) :: ([] : va_W)) := hD
  refine W.widen (k := 2) (n := 220) (Nat.le_of_ble_eq_true rfl) (Nat.le_of_ble_eq_true rfl) ?_
  refine zputF X hinit hP hD hS (C := RX6) (T := TX6) (NN := 3) (ci := 6) in_X6 tyX6 tyX6_ok nmX6 0 rfl rfl 2 (by decide) fl_X6_13 rfl rfl (ty := (tyX6 2)) (by decide +kernel) rfl rfl (Nat.le_of_ble_eq_true rfl) dX6_init_18 (fun H locs hP9 hD9 hS9 => ?_)
  clear hP hD hS; rename va_P D ZCL _ H => hP; rename va_D A _ => hD; rename va_S A s.heap H _ => hS
  replace hP : va_P D ZCL ((h0, .inr (6, [.ref q1, .int 0, .ref q2])) :: (q1, .inl (cA 3, 200, .inl (fun _ => 0))) :: (q2, .inl (cA 3, 20, .inl (fun _ => 0))) :: ([] : va_W)) H := hP
  replace hD : va_D A ((h0, .inr (6, [.ref q1, .int 0, .ref q2])) :: (q1, .inl (cA 3, 200, .inl (fun _ => 0))) :: (q2, .inl (cA 3, 20, .inl (fun _ => 0))) :: ([] : va_W)) := hD
  exact zcret X hP hD hS ⟨q1, q2, rfl⟩ dX6_init_21
theorem dX10_init_0 : decode cX10_init 0 = .ok (.aload_n 0, 1) := by decide +kernel
theorem dX10_init_1 : decode cX10_init 1 = .ok (.invokespecial 1, 3) := by decide +kernel
theorem dX10_init_4 : decode cX10_init 4 = .ok (.aload_n 0, 1) := by decide +kernel
theorem dX10_init_5 : decode cX10_init 5 = .ok (.sipush 462, 3) := by decide +kernel
theorem dX10_init_8 : decode cX10_init 8 = .ok (.newarray .int, 2) := by decide +kernel
theorem dX10_init_10 : decode cX10_init 10 = .ok (.putfield 9, 3) := by decide +kernel
theorem dX10_init_13 : decode cX10_init 13 = .ok (.aload_n 0, 1) := by decide +kernel
theorem dX10_init_14 : decode cX10_init 14 = .ok (.sipush 462, 3) := by decide +kernel
theorem dX10_init_17 : decode cX10_init 17 = .ok (.newarray .int, 2) := by decide +kernel
theorem dX10_init_19 : decode cX10_init 19 = .ok (.putfield 13, 3) := by decide +kernel
theorem dX10_init_22 : decode cX10_init 22 = .ok (.aload_n 0, 1) := by decide +kernel
theorem dX10_init_23 : decode cX10_init 23 = .ok (.sipush 462, 3) := by decide +kernel
theorem dX10_init_26 : decode cX10_init 26 = .ok (.newarray .long, 2) := by decide +kernel
theorem dX10_init_28 : decode cX10_init 28 = .ok (.putfield 16, 3) := by decide +kernel
theorem dX10_init_31 : decode cX10_init 31 = .ok (.aload_n 0, 1) := by decide +kernel
theorem dX10_init_32 : decode cX10_init 32 = .ok (.sipush 462, 3) := by decide +kernel
theorem dX10_init_35 : decode cX10_init 35 = .ok (.newarray .boolean, 2) := by decide +kernel
theorem dX10_init_37 : decode cX10_init 37 = .ok (.putfield 20, 3) := by decide +kernel
theorem dX10_init_40 : decode cX10_init 40 = .ok (.aload_n 0, 1) := by decide +kernel
theorem dX10_init_41 : decode cX10_init 41 = .ok (.sipush 462, 3) := by decide +kernel
theorem dX10_init_44 : decode cX10_init 44 = .ok (.newarray .int, 2) := by decide +kernel
theorem dX10_init_46 : decode cX10_init 46 = .ok (.putfield 24, 3) := by decide +kernel
theorem dX10_init_49 : decode cX10_init 49 = .ok (.aload_n 0, 1) := by decide +kernel
theorem dX10_init_50 : decode cX10_init 50 = .ok (.bipush 7, 2) := by decide +kernel
theorem dX10_init_52 : decode cX10_init 52 = .ok (.newarray .int, 2) := by decide +kernel
theorem dX10_init_54 : decode cX10_init 54 = .ok (.putfield 27, 3) := by decide +kernel
theorem dX10_init_57 : decode cX10_init 57 = .ok (.aload_n 0, 1) := by decide +kernel
theorem dX10_init_58 : decode cX10_init 58 = .ok (.bipush 6, 2) := by decide +kernel
theorem dX10_init_60 : decode cX10_init 60 = .ok (.newarray .int, 2) := by decide +kernel
theorem dX10_init_62 : decode cX10_init 62 = .ok (.putfield 30, 3) := by decide +kernel
theorem dX10_init_65 : decode cX10_init 65 = .ok (.return_, 1) := by decide +kernel
theorem cv_X10 : zVi yX10_init cX10_init 1 RX10 := ⟨by decide +kernel, rfl, tb_of (tq_1 116 rfl) rfl, tb_of (tq_1 6 rfl) rfl, tb_of (tq_1 117 rfl) rfl⟩
set_option maxHeartbeats 4000000 in
set_option maxRecDepth 100000 in
theorem ct_X10 {cA : Nat → ClassId} {D : va_G} {E : Nat → Nat} {l : Launch} : zct cA D E l yX10_init cX10_init 1 1 7 2323 40 (.inr (10, [.int 0, .int 0, .int 0, .null, .null, .null, .null, .null, .null, .null])) (fun h0 w => ∃ q1 q2 q3 q4 q5 q6 q7 : Nat, w = ((h0, .inr (10, [.int 0, .int 0, .int 0, .ref q1, .ref q2, .ref q3, .ref q4, .ref q5, .ref q6, .ref q7])) :: (q1, .inl (cA 0, 462, .inl (fun _ => 0))) :: (q2, .inl (cA 0, 462, .inl (fun _ => 0))) :: (q3, .inl (cA 1, 462, .inr (.inl (fun _ => 0)))) :: (q4, .inl (cA 2, 462, .inl (fun _ => 0))) :: (q5, .inl (cA 0, 462, .inl (fun _ => 0))) :: (q6, .inl (cA 0, 7, .inl (fun _ => 0))) :: (q7, .inl (cA 0, 6, .inl (fun _ => 0))) :: ([] : va_W))) := by
  refine zcstart (own := RX10) (by decide) rfl rfl (by decide) ?_
  intro p e s m args below meth c h0 A X hAO hinit hA hP hD ls hl
  have hx := X.1
  have hb := X.2.1
  have hS : va_S A s.heap s.heap [] := va_S.rf
  refine lv_aload_n hx hb dX10_init_0 rfl (lv_at hl 0 rfl) ?_
  refine zinit X hl.1 ml_X10_1 (tb_of (tq_1 27 rfl) rfl) (tb_of (tq_1 28 rfl) rfl) ⟨Nat.le_of_ble_eq_true rfl, Nat.le_of_ble_eq_true rfl⟩ dX10_init_1 ?_
  refine lv_aload_n hx hb dX10_init_4 rfl (lv_at hl 0 rfl) ?_
  refine lv_sipush (v := 462) hx hb dX10_init_5 (by decide) ?_
  refine znewa_i X hP hD hS hA (tb_of (tq_1 67 rfl) rfl) (N' := 462) (by decide) (by decide) (Nat.le_of_ble_eq_true rfl) ⟨Nat.le_of_ble_eq_true rfl, Nat.le_of_ble_eq_true rfl⟩ dX10_init_8 (fun q1 H hP9 hD9 hS9 => ?_)
  clear hP hD hS; rename va_P D ZCL _ H => hP; rename va_D A _ => hD; rename va_S A s.heap H _ => hS
  replace hP : va_P D ZCL ((h0, .inr (10, [.int 0, .int 0, .int 0, .null, .null, .null, .null, .null, .null, .null])) :: (q1, .inl (cA 0, 462, .inl (fun _ => 0))) :: ([] : va_W)) H := hP
  replace hD : va_D A ((h0, .inr (10, [.int 0, .int 0, .int 0, .null, .null, .null, .null, .null, .null, .null])) :: (q1, .inl (cA 0, 462, .inl (fun _ => 0))) :: ([] : va_W)) := hD
  refine W.widen (k := 1) (n := 462) (Nat.le_of_ble_eq_true rfl) (Nat.le_of_ble_eq_true rfl) ?_
  refine zputF X hinit hP hD hS (C := RX10) (T := TX10) (NN := 10) (ci := 10) in_X10 tyX10 tyX10_ok nmX10 0 rfl rfl 3 (by decide) fl_X10_9 rfl rfl (ty := (tyX10 3)) (by decide +kernel) rfl rfl (Nat.le_of_ble_eq_true rfl) dX10_init_10 (fun H locs hP9 hD9 hS9 => ?_)
  clear hP hD hS; rename va_P D ZCL _ H => hP; rename va_D A _ => hD; rename va_S A s.heap H _ => hS
  replace hP : va_P D ZCL ((h0, .inr (10, [.int 0, .int 0, .int 0, .ref q1, .null, .null, .null, .null, .null, .null])) :: (q1, .inl (cA 0, 462, .inl (fun _ => 0))) :: ([] : va_W)) H := hP
  replace hD : va_D A ((h0, .inr (10, [.int 0, .int 0, .int 0, .ref q1, .null, .null, .null, .null, .null, .null])) :: (q1, .inl (cA 0, 462, .inl (fun _ => 0))) :: ([] : va_W)) := hD
  refine lv_aload_n hx hb dX10_init_13 rfl (lv_at hl 0 rfl) ?_
  refine lv_sipush (v := 462) hx hb dX10_init_14 (by decide) ?_
  refine znewa_i X hP hD hS hA (tb_of (tq_1 67 rfl) rfl) (N' := 462) (by decide) (by decide) (Nat.le_of_ble_eq_true rfl) ⟨Nat.le_of_ble_eq_true rfl, Nat.le_of_ble_eq_true rfl⟩ dX10_init_17 (fun q2 H hP9 hD9 hS9 => ?_)
  clear hP hD hS; rename va_P D ZCL _ H => hP; rename va_D A _ => hD; rename va_S A s.heap H _ => hS
  replace hP : va_P D ZCL ((h0, .inr (10, [.int 0, .int 0, .int 0, .ref q1, .null, .null, .null, .null, .null, .null])) :: (q1, .inl (cA 0, 462, .inl (fun _ => 0))) :: (q2, .inl (cA 0, 462, .inl (fun _ => 0))) :: ([] : va_W)) H := hP
  replace hD : va_D A ((h0, .inr (10, [.int 0, .int 0, .int 0, .ref q1, .null, .null, .null, .null, .null, .null])) :: (q1, .inl (cA 0, 462, .inl (fun _ => 0))) :: (q2, .inl (cA 0, 462, .inl (fun _ => 0))) :: ([] : va_W)) := hD
  refine W.widen (k := 2) (n := 924) (Nat.le_of_ble_eq_true rfl) (Nat.le_of_ble_eq_true rfl) ?_
  refine zputF X hinit hP hD hS (C := RX10) (T := TX10) (NN := 10) (ci := 10) in_X10 tyX10 tyX10_ok nmX10 0 rfl rfl 4 (by decide) fl_X10_13 rfl rfl (ty := (tyX10 4)) (by decide +kernel) rfl rfl (Nat.le_of_ble_eq_true rfl) dX10_init_19 (fun H locs hP9 hD9 hS9 => ?_)
  clear hP hD hS; rename va_P D ZCL _ H => hP; rename va_D A _ => hD; rename va_S A s.heap H _ => hS
  replace hP : va_P D ZCL ((h0, .inr (10, [.int 0, .int 0, .int 0, .ref q1, .ref q2, .null, .null, .null, .null, .null])) :: (q1, .inl (cA 0, 462, .inl (fun _ => 0))) :: (q2, .inl (cA 0, 462, .inl (fun _ => 0))) :: ([] : va_W)) H := hP
  replace hD : va_D A ((h0, .inr (10, [.int 0, .int 0, .int 0, .ref q1, .ref q2, .null, .null, .null, .null, .null])) :: (q1, .inl (cA 0, 462, .inl (fun _ => 0))) :: (q2, .inl (cA 0, 462, .inl (fun _ => 0))) :: ([] : va_W)) := hD
  refine lv_aload_n hx hb dX10_init_22 rfl (lv_at hl 0 rfl) ?_
  refine lv_sipush (v := 462) hx hb dX10_init_23 (by decide) ?_
  refine znewa_l X hP hD hS hA (tb_of (tq_1 93 rfl) rfl) (N' := 462) (by decide) (by decide) (Nat.le_of_ble_eq_true rfl) ⟨Nat.le_of_ble_eq_true rfl, Nat.le_of_ble_eq_true rfl⟩ dX10_init_26 (fun q3 H hP9 hD9 hS9 => ?_)
  clear hP hD hS; rename va_P D ZCL _ H => hP; rename va_D A _ => hD; rename va_S A s.heap H _ => hS
  replace hP : va_P D ZCL ((h0, .inr (10, [.int 0, .int 0, .int 0, .ref q1, .ref q2, .null, .null, .null, .null, .null])) :: (q1, .inl (cA 0, 462, .inl (fun _ => 0))) :: (q2, .inl (cA 0, 462, .inl (fun _ => 0))) :: (q3, .inl (cA 1, 462, .inr (.inl (fun _ => 0)))) :: ([] : va_W)) H := hP
  replace hD : va_D A ((h0, .inr (10, [.int 0, .int 0, .int 0, .ref q1, .ref q2, .null, .null, .null, .null, .null])) :: (q1, .inl (cA 0, 462, .inl (fun _ => 0))) :: (q2, .inl (cA 0, 462, .inl (fun _ => 0))) :: (q3, .inl (cA 1, 462, .inr (.inl (fun _ => 0)))) :: ([] : va_W)) := hD
  refine W.widen (k := 3) (n := 1386) (Nat.le_of_ble_eq_true rfl) (Nat.le_of_ble_eq_true rfl) ?_
  refine zputF X hinit hP hD hS (C := RX10) (T := TX10) (NN := 10) (ci := 10) in_X10 tyX10 tyX10_ok nmX10 0 rfl rfl 5 (by decide) fl_X10_16 rfl rfl (ty := (tyX10 5)) (by decide +kernel) rfl rfl (Nat.le_of_ble_eq_true rfl) dX10_init_28 (fun H locs hP9 hD9 hS9 => ?_)
  clear hP hD hS; rename va_P D ZCL _ H => hP; rename va_D A _ => hD; rename va_S A s.heap H _ => hS
  replace hP : va_P D ZCL ((h0, .inr (10, [.int 0, .int 0, .int 0, .ref q1, .ref q2, .ref q3, .null, .null, .null, .null])) :: (q1, .inl (cA 0, 462, .inl (fun _ => 0))) :: (q2, .inl (cA 0, 462, .inl (fun _ => 0))) :: (q3, .inl (cA 1, 462, .inr (.inl (fun _ => 0)))) :: ([] : va_W)) H := hP
  replace hD : va_D A ((h0, .inr (10, [.int 0, .int 0, .int 0, .ref q1, .ref q2, .ref q3, .null, .null, .null, .null])) :: (q1, .inl (cA 0, 462, .inl (fun _ => 0))) :: (q2, .inl (cA 0, 462, .inl (fun _ => 0))) :: (q3, .inl (cA 1, 462, .inr (.inl (fun _ => 0)))) :: ([] : va_W)) := hD
  refine lv_aload_n hx hb dX10_init_31 rfl (lv_at hl 0 rfl) ?_
  refine lv_sipush (v := 462) hx hb dX10_init_32 (by decide) ?_
  refine znewa_z X hP hD hS hA (tb_of (tq_1 167 rfl) rfl) (N' := 462) (by decide) (by decide) (Nat.le_of_ble_eq_true rfl) ⟨Nat.le_of_ble_eq_true rfl, Nat.le_of_ble_eq_true rfl⟩ dX10_init_35 (fun q4 H hP9 hD9 hS9 => ?_)
  clear hP hD hS; rename va_P D ZCL _ H => hP; rename va_D A _ => hD; rename va_S A s.heap H _ => hS
  replace hP : va_P D ZCL ((h0, .inr (10, [.int 0, .int 0, .int 0, .ref q1, .ref q2, .ref q3, .null, .null, .null, .null])) :: (q1, .inl (cA 0, 462, .inl (fun _ => 0))) :: (q2, .inl (cA 0, 462, .inl (fun _ => 0))) :: (q3, .inl (cA 1, 462, .inr (.inl (fun _ => 0)))) :: (q4, .inl (cA 2, 462, .inl (fun _ => 0))) :: ([] : va_W)) H := hP
  replace hD : va_D A ((h0, .inr (10, [.int 0, .int 0, .int 0, .ref q1, .ref q2, .ref q3, .null, .null, .null, .null])) :: (q1, .inl (cA 0, 462, .inl (fun _ => 0))) :: (q2, .inl (cA 0, 462, .inl (fun _ => 0))) :: (q3, .inl (cA 1, 462, .inr (.inl (fun _ => 0)))) :: (q4, .inl (cA 2, 462, .inl (fun _ => 0))) :: ([] : va_W)) := hD
  refine W.widen (k := 4) (n := 1848) (Nat.le_of_ble_eq_true rfl) (Nat.le_of_ble_eq_true rfl) ?_
  refine zputF X hinit hP hD hS (C := RX10) (T := TX10) (NN := 10) (ci := 10) in_X10 tyX10 tyX10_ok nmX10 0 rfl rfl 6 (by decide) fl_X10_20 rfl rfl (ty := (tyX10 6)) (by decide +kernel) rfl rfl (Nat.le_of_ble_eq_true rfl) dX10_init_37 (fun H locs hP9 hD9 hS9 => ?_)
  clear hP hD hS; rename va_P D ZCL _ H => hP; rename va_D A _ => hD; rename va_S A s.heap H _ => hS
  replace hP : va_P D ZCL ((h0, .inr (10, [.int 0, .int 0, .int 0, .ref q1, .ref q2, .ref q3, .ref q4, .null, .null, .null])) :: (q1, .inl (cA 0, 462, .inl (fun _ => 0))) :: (q2, .inl (cA 0, 462, .inl (fun _ => 0))) :: (q3, .inl (cA 1, 462, .inr (.inl (fun _ => 0)))) :: (q4, .inl (cA 2, 462, .inl (fun _ => 0))) :: ([] : va_W)) H := hP
  replace hD : va_D A ((h0, .inr (10, [.int 0, .int 0, .int 0, .ref q1, .ref q2, .ref q3, .ref q4, .null, .null, .null])) :: (q1, .inl (cA 0, 462, .inl (fun _ => 0))) :: (q2, .inl (cA 0, 462, .inl (fun _ => 0))) :: (q3, .inl (cA 1, 462, .inr (.inl (fun _ => 0)))) :: (q4, .inl (cA 2, 462, .inl (fun _ => 0))) :: ([] : va_W)) := hD
  refine lv_aload_n hx hb dX10_init_40 rfl (lv_at hl 0 rfl) ?_
  refine lv_sipush (v := 462) hx hb dX10_init_41 (by decide) ?_
  refine znewa_i X hP hD hS hA (tb_of (tq_1 67 rfl) rfl) (N' := 462) (by decide) (by decide) (Nat.le_of_ble_eq_true rfl) ⟨Nat.le_of_ble_eq_true rfl, Nat.le_of_ble_eq_true rfl⟩ dX10_init_44 (fun q5 H hP9 hD9 hS9 => ?_)
  clear hP hD hS; rename va_P D ZCL _ H => hP; rename va_D A _ => hD; rename va_S A s.heap H _ => hS
  replace hP : va_P D ZCL ((h0, .inr (10, [.int 0, .int 0, .int 0, .ref q1, .ref q2, .ref q3, .ref q4, .null, .null, .null])) :: (q1, .inl (cA 0, 462, .inl (fun _ => 0))) :: (q2, .inl (cA 0, 462, .inl (fun _ => 0))) :: (q3, .inl (cA 1, 462, .inr (.inl (fun _ => 0)))) :: (q4, .inl (cA 2, 462, .inl (fun _ => 0))) :: (q5, .inl (cA 0, 462, .inl (fun _ => 0))) :: ([] : va_W)) H := hP
  replace hD : va_D A ((h0, .inr (10, [.int 0, .int 0, .int 0, .ref q1, .ref q2, .ref q3, .ref q4, .null, .null, .null])) :: (q1, .inl (cA 0, 462, .inl (fun _ => 0))) :: (q2, .inl (cA 0, 462, .inl (fun _ => 0))) :: (q3, .inl (cA 1, 462, .inr (.inl (fun _ => 0)))) :: (q4, .inl (cA 2, 462, .inl (fun _ => 0))) :: (q5, .inl (cA 0, 462, .inl (fun _ => 0))) :: ([] : va_W)) := hD
  refine W.widen (k := 5) (n := 2310) (Nat.le_of_ble_eq_true rfl) (Nat.le_of_ble_eq_true rfl) ?_
  refine zputF X hinit hP hD hS (C := RX10) (T := TX10) (NN := 10) (ci := 10) in_X10 tyX10 tyX10_ok nmX10 0 rfl rfl 7 (by decide) fl_X10_24 rfl rfl (ty := (tyX10 7)) (by decide +kernel) rfl rfl (Nat.le_of_ble_eq_true rfl) dX10_init_46 (fun H locs hP9 hD9 hS9 => ?_)
  clear hP hD hS; rename va_P D ZCL _ H => hP; rename va_D A _ => hD; rename va_S A s.heap H _ => hS
  replace hP : va_P D ZCL ((h0, .inr (10, [.int 0, .int 0, .int 0, .ref q1, .ref q2, .ref q3, .ref q4, .ref q5, .null, .null])) :: (q1, .inl (cA 0, 462, .inl (fun _ => 0))) :: (q2, .inl (cA 0, 462, .inl (fun _ => 0))) :: (q3, .inl (cA 1, 462, .inr (.inl (fun _ => 0)))) :: (q4, .inl (cA 2, 462, .inl (fun _ => 0))) :: (q5, .inl (cA 0, 462, .inl (fun _ => 0))) :: ([] : va_W)) H := hP
  replace hD : va_D A ((h0, .inr (10, [.int 0, .int 0, .int 0, .ref q1, .ref q2, .ref q3, .ref q4, .ref q5, .null, .null])) :: (q1, .inl (cA 0, 462, .inl (fun _ => 0))) :: (q2, .inl (cA 0, 462, .inl (fun _ => 0))) :: (q3, .inl (cA 1, 462, .inr (.inl (fun _ => 0)))) :: (q4, .inl (cA 2, 462, .inl (fun _ => 0))) :: (q5, .inl (cA 0, 462, .inl (fun _ => 0))) :: ([] : va_W)) := hD
  refine lv_aload_n hx hb dX10_init_49 rfl (lv_at hl 0 rfl) ?_
  refine lv_bipush (v := 7) hx hb dX10_init_50 (by decide) ?_
  refine znewa_i X hP hD hS hA (tb_of (tq_1 67 rfl) rfl) (N' := 7) (by decide) (by decide) (Nat.le_of_ble_eq_true rfl) ⟨Nat.le_of_ble_eq_true rfl, Nat.le_of_ble_eq_true rfl⟩ dX10_init_52 (fun q6 H hP9 hD9 hS9 => ?_)
  clear hP hD hS; rename va_P D ZCL _ H => hP; rename va_D A _ => hD; rename va_S A s.heap H _ => hS
  replace hP : va_P D ZCL ((h0, .inr (10, [.int 0, .int 0, .int 0, .ref q1, .ref q2, .ref q3, .ref q4, .ref q5, .null, .null])) :: (q1, .inl (cA 0, 462, .inl (fun _ => 0))) :: (q2, .inl (cA 0, 462, .inl (fun _ => 0))) :: (q3, .inl (cA 1, 462, .inr (.inl (fun _ => 0)))) :: (q4, .inl (cA 2, 462, .inl (fun _ => 0))) :: (q5, .inl (cA 0, 462, .inl (fun _ => 0))) :: (q6, .inl (cA 0, 7, .inl (fun _ => 0))) :: ([] : va_W)) H := hP
  replace hD : va_D A ((h0, .inr (10, [.int 0, .int 0, .int 0, .ref q1, .ref q2, .ref q3, .ref q4, .ref q5, .null, .null])) :: (q1, .inl (cA 0, 462, .inl (fun _ => 0))) :: (q2, .inl (cA 0, 462, .inl (fun _ => 0))) :: (q3, .inl (cA 1, 462, .inr (.inl (fun _ => 0)))) :: (q4, .inl (cA 2, 462, .inl (fun _ => 0))) :: (q5, .inl (cA 0, 462, .inl (fun _ => 0))) :: (q6, .inl (cA 0, 7, .inl (fun _ => 0))) :: ([] : va_W)) := hD
  refine W.widen (k := 6) (n := 2317) (Nat.le_of_ble_eq_true rfl) (Nat.le_of_ble_eq_true rfl) ?_
  refine zputF X hinit hP hD hS (C := RX10) (T := TX10) (NN := 10) (ci := 10) in_X10 tyX10 tyX10_ok nmX10 0 rfl rfl 8 (by decide) fl_X10_27 rfl rfl (ty := (tyX10 8)) (by decide +kernel) rfl rfl (Nat.le_of_ble_eq_true rfl) dX10_init_54 (fun H locs hP9 hD9 hS9 => ?_)
  clear hP hD hS; rename va_P D ZCL _ H => hP; rename va_D A _ => hD; rename va_S A s.heap H _ => hS
  replace hP : va_P D ZCL ((h0, .inr (10, [.int 0, .int 0, .int 0, .ref q1, .ref q2, .ref q3, .ref q4, .ref q5, .ref q6, .null])) :: (q1, .inl (cA 0, 462, .inl (fun _ => 0))) :: (q2, .inl (cA 0, 462, .inl (fun _ => 0))) :: (q3, .inl (cA 1, 462, .inr (.inl (fun _ => 0)))) :: (q4, .inl (cA 2, 462, .inl (fun _ => 0))) :: (q5, .inl (cA 0, 462, .inl (fun _ => 0))) :: (q6, .inl (cA 0, 7, .inl (fun _ => 0))) :: ([] : va_W)) H := hP
  replace hD : va_D A ((h0, .inr (10, [.int 0, .int 0, .int 0, .ref q1, .ref q2, .ref q3, .ref q4, .ref q5, .ref q6, .null])) :: (q1, .inl (cA 0, 462, .inl (fun _ => 0))) :: (q2, .inl (cA 0, 462, .inl (fun _ => 0))) :: (q3, .inl (cA 1, 462, .inr (.inl (fun _ => 0)))) :: (q4, .inl (cA 2, 462, .inl (fun _ => 0))) :: (q5, .inl (cA 0, 462, .inl (fun _ => 0))) :: (q6, .inl (cA 0, 7, .inl (fun _ => 0))) :: ([] : va_W)) := hD
  refine lv_aload_n hx hb dX10_init_57 rfl (lv_at hl 0 rfl) ?_
  refine lv_bipush (v := 6) hx hb dX10_init_58 (by decide) ?_
  refine znewa_i X hP hD hS hA (tb_of (tq_1 67 rfl) rfl) (N' := 6) (by decide) (by decide) (Nat.le_of_ble_eq_true rfl) ⟨Nat.le_of_ble_eq_true rfl, Nat.le_of_ble_eq_true rfl⟩ dX10_init_60 (fun q7 H hP9 hD9 hS9 => ?_)
  clear hP hD hS; rename va_P D ZCL _ H => hP; rename va_D A _ => hD; rename va_S A s.heap H _ => hS
  replace hP : va_P D ZCL ((h0, .inr (10, [.int 0, .int 0, .int 0, .ref q1, .ref q2, .ref q3, .ref q4, .ref q5, .ref q6, .null])) :: (q1, .inl (cA 0, 462, .inl (fun _ => 0))) :: (q2, .inl (cA 0, 462, .inl (fun _ => 0))) :: (q3, .inl (cA 1, 462, .inr (.inl (fun _ => 0)))) :: (q4, .inl (cA 2, 462, .inl (fun _ => 0))) :: (q5, .inl (cA 0, 462, .inl (fun _ => 0))) :: (q6, .inl (cA 0, 7, .inl (fun _ => 0))) :: (q7, .inl (cA 0, 6, .inl (fun _ => 0))) :: ([] : va_W)) H := hP
  replace hD : va_D A ((h0, .inr (10, [.int 0, .int 0, .int 0, .ref q1, .ref q2, .ref q3, .ref q4, .ref q5, .ref q6, .null])) :: (q1, .inl (cA 0, 462, .inl (fun _ => 0))) :: (q2, .inl (cA 0, 462, .inl (fun _ => 0))) :: (q3, .inl (cA 1, 462, .inr (.inl (fun _ => 0)))) :: (q4, .inl (cA 2, 462, .inl (fun _ => 0))) :: (q5, .inl (cA 0, 462, .inl (fun _ => 0))) :: (q6, .inl (cA 0, 7, .inl (fun _ => 0))) :: (q7, .inl (cA 0, 6, .inl (fun _ => 0))) :: ([] : va_W)) := hD
  refine W.widen (k := 7) (n := 2323) (Nat.le_of_ble_eq_true rfl) (Nat.le_of_ble_eq_true rfl) ?_
  refine zputF X hinit hP hD hS (C := RX10) (T := TX10) (NN := 10) (ci := 10) in_X10 tyX10 tyX10_ok nmX10 0 rfl rfl 9 (by decide) fl_X10_30 rfl rfl (ty := (tyX10 9)) (by decide +kernel) rfl rfl (Nat.le_of_ble_eq_true rfl) dX10_init_62 (fun H locs hP9 hD9 hS9 => ?_)
  clear hP hD hS; rename va_P D ZCL _ H => hP; rename va_D A _ => hD; rename va_S A s.heap H _ => hS
  replace hP : va_P D ZCL ((h0, .inr (10, [.int 0, .int 0, .int 0, .ref q1, .ref q2, .ref q3, .ref q4, .ref q5, .ref q6, .ref q7])) :: (q1, .inl (cA 0, 462, .inl (fun _ => 0))) :: (q2, .inl (cA 0, 462, .inl (fun _ => 0))) :: (q3, .inl (cA 1, 462, .inr (.inl (fun _ => 0)))) :: (q4, .inl (cA 2, 462, .inl (fun _ => 0))) :: (q5, .inl (cA 0, 462, .inl (fun _ => 0))) :: (q6, .inl (cA 0, 7, .inl (fun _ => 0))) :: (q7, .inl (cA 0, 6, .inl (fun _ => 0))) :: ([] : va_W)) H := hP
  replace hD : va_D A ((h0, .inr (10, [.int 0, .int 0, .int 0, .ref q1, .ref q2, .ref q3, .ref q4, .ref q5, .ref q6, .ref q7])) :: (q1, .inl (cA 0, 462, .inl (fun _ => 0))) :: (q2, .inl (cA 0, 462, .inl (fun _ => 0))) :: (q3, .inl (cA 1, 462, .inr (.inl (fun _ => 0)))) :: (q4, .inl (cA 2, 462, .inl (fun _ => 0))) :: (q5, .inl (cA 0, 462, .inl (fun _ => 0))) :: (q6, .inl (cA 0, 7, .inl (fun _ => 0))) :: (q7, .inl (cA 0, 6, .inl (fun _ => 0))) :: ([] : va_W)) := hD
  exact zcret X hP hD hS ⟨q1, q2, q3, q4, q5, q6, q7, rfl⟩ dX10_init_65
theorem dX5_init_0 : decode cX5_init 0 = .ok (.aload_n 0, 1) := by decide +kernel
theorem dX5_init_1 : decode cX5_init 1 = .ok (.invokespecial 1, 3) := by decide +kernel
theorem dX5_init_4 : decode cX5_init 4 = .ok (.aload_n 0, 1) := by decide +kernel
theorem dX5_init_5 : decode cX5_init 5 = .ok (.iconst 3, 1) := by decide +kernel
theorem dX5_init_6 : decode cX5_init 6 = .ok (.newarray .int, 2) := by decide +kernel
theorem dX5_init_8 : decode cX5_init 8 = .ok (.putfield 9, 3) := by decide +kernel
theorem dX5_init_11 : decode cX5_init 11 = .ok (.aload_n 0, 1) := by decide +kernel
theorem dX5_init_12 : decode cX5_init 12 = .ok (.iconst 3, 1) := by decide +kernel
theorem dX5_init_13 : decode cX5_init 13 = .ok (.newarray .int, 2) := by decide +kernel
theorem dX5_init_15 : decode cX5_init 15 = .ok (.putfield 13, 3) := by decide +kernel
theorem dX5_init_18 : decode cX5_init 18 = .ok (.aload_n 0, 1) := by decide +kernel
theorem dX5_init_19 : decode cX5_init 19 = .ok (.iconst 3, 1) := by decide +kernel
theorem dX5_init_20 : decode cX5_init 20 = .ok (.bipush 20, 2) := by decide +kernel
theorem dX5_init_22 : decode cX5_init 22 = .ok (.multianewarray 16 2, 4) := by decide +kernel
theorem dX5_init_26 : decode cX5_init 26 = .ok (.putfield 18, 3) := by decide +kernel
theorem dX5_init_29 : decode cX5_init 29 = .ok (.aload_n 0, 1) := by decide +kernel
theorem dX5_init_30 : decode cX5_init 30 = .ok (.getfield 9, 3) := by decide +kernel
theorem dX5_init_33 : decode cX5_init 33 = .ok (.iconst (-1), 1) := by decide +kernel
theorem dX5_init_34 : decode cX5_init 34 = .ok (.invokestatic 21, 3) := by decide +kernel
theorem dX5_init_37 : decode cX5_init 37 = .ok (.return_, 1) := by decide +kernel
theorem cv_X5 : zVi yX5_init cX5_init 1 RX5 := ⟨by decide +kernel, rfl, tb_of (tq_2 47 rfl) rfl, tb_of (tq_1 11 rfl) rfl, tb_of (tq_2 48 rfl) rfl⟩
set_option maxHeartbeats 4000000 in
set_option maxRecDepth 100000 in
theorem ct_X5 {cA : Nat → ClassId} {D : va_G} {E : Nat → Nat} {l : Launch} : zct cA D E l yX5_init cX5_init 1 3 6 69 300 (.inr (5, [.null, .null, .null])) (fun h0 w => ∃ q1 q2 q3 q4 q5 q6 : Nat, w = ((h0, .inr (5, [.ref q1, .ref q2, .ref q3])) :: (q1, .inl (cA 0, 3, .inl (fun j => if j < 3 then -1 else 0))) :: (q2, .inl (cA 0, 3, .inl (fun _ => 0))) :: (q3, .inl (cA 5, 3, .inr (.inr (.inr (.inr (fun j => ([q4, q5, q6] : List Nat)[j]?)))))) :: (q4, .inl (cA 1, 20, .inr (.inl (fun _ => 0)))) :: (q5, .inl (cA 1, 20, .inr (.inl (fun _ => 0)))) :: (q6, .inl (cA 1, 20, .inr (.inl (fun _ => 0)))) :: ([] : va_W))) := by
  refine zcstart (own := RX5) (by decide) rfl rfl (by decide) ?_
  intro p e s m args below meth c h0 A X hAO hinit hA hP hD ls hl
  have hx := X.1
  have hb := X.2.1
  have hS : va_S A s.heap s.heap [] := va_S.rf
  refine lv_aload_n hx hb dX5_init_0 rfl (lv_at hl 0 rfl) ?_
  refine zinit X hl.1 ml_X5_1 (tb_of (tq_1 27 rfl) rfl) (tb_of (tq_1 28 rfl) rfl) ⟨Nat.le_of_ble_eq_true rfl, Nat.le_of_ble_eq_true rfl⟩ dX5_init_1 ?_
  refine lv_aload_n hx hb dX5_init_4 rfl (lv_at hl 0 rfl) ?_
  refine lv_iconst (v := 3) hx hb dX5_init_5 (by decide) ?_
  refine znewa_i X hP hD hS hA (tb_of (tq_1 67 rfl) rfl) (N' := 3) (by decide) (by decide) (Nat.le_of_ble_eq_true rfl) ⟨Nat.le_of_ble_eq_true rfl, Nat.le_of_ble_eq_true rfl⟩ dX5_init_6 (fun q1 H hP9 hD9 hS9 => ?_)
  clear hP hD hS; rename va_P D ZCL _ H => hP; rename va_D A _ => hD; rename va_S A s.heap H _ => hS
  replace hP : va_P D ZCL ((h0, .inr (5, [.null, .null, .null])) :: (q1, .inl (cA 0, 3, .inl (fun _ => 0))) :: ([] : va_W)) H := hP
  replace hD : va_D A ((h0, .inr (5, [.null, .null, .null])) :: (q1, .inl (cA 0, 3, .inl (fun _ => 0))) :: ([] : va_W)) := hD
  refine W.widen (k := 1) (n := 3) (Nat.le_of_ble_eq_true rfl) (Nat.le_of_ble_eq_true rfl) ?_
  refine zputF X hinit hP hD hS (C := RX5) (T := TX5) (NN := 3) (ci := 5) in_X5 tyX5 tyX5_ok nmX5 0 rfl rfl 0 (by decide) fl_X5_9 rfl rfl (ty := (tyX5 0)) (by decide +kernel) rfl rfl (Nat.le_of_ble_eq_true rfl) dX5_init_8 (fun H locs hP9 hD9 hS9 => ?_)
  clear hP hD hS; rename va_P D ZCL _ H => hP; rename va_D A _ => hD; rename va_S A s.heap H _ => hS
  replace hP : va_P D ZCL ((h0, .inr (5, [.ref q1, .null, .null])) :: (q1, .inl (cA 0, 3, .inl (fun _ => 0))) :: ([] : va_W)) H := hP
  replace hD : va_D A ((h0, .inr (5, [.ref q1, .null, .null])) :: (q1, .inl (cA 0, 3, .inl (fun _ => 0))) :: ([] : va_W)) := hD
  refine lv_aload_n hx hb dX5_init_11 rfl (lv_at hl 0 rfl) ?_
  refine lv_iconst (v := 3) hx hb dX5_init_12 (by decide) ?_
  refine znewa_i X hP hD hS hA (tb_of (tq_1 67 rfl) rfl) (N' := 3) (by decide) (by decide) (Nat.le_of_ble_eq_true rfl) ⟨Nat.le_of_ble_eq_true rfl, Nat.le_of_ble_eq_true rfl⟩ dX5_init_13 (fun q2 H hP9 hD9 hS9 => ?_)
  clear hP hD hS; rename va_P D ZCL _ H => hP; rename va_D A _ => hD; rename va_S A s.heap H _ => hS
  replace hP : va_P D ZCL ((h0, .inr (5, [.ref q1, .null, .null])) :: (q1, .inl (cA 0, 3, .inl (fun _ => 0))) :: (q2, .inl (cA 0, 3, .inl (fun _ => 0))) :: ([] : va_W)) H := hP
  replace hD : va_D A ((h0, .inr (5, [.ref q1, .null, .null])) :: (q1, .inl (cA 0, 3, .inl (fun _ => 0))) :: (q2, .inl (cA 0, 3, .inl (fun _ => 0))) :: ([] : va_W)) := hD
  refine W.widen (k := 2) (n := 6) (Nat.le_of_ble_eq_true rfl) (Nat.le_of_ble_eq_true rfl) ?_
  refine zputF X hinit hP hD hS (C := RX5) (T := TX5) (NN := 3) (ci := 5) in_X5 tyX5 tyX5_ok nmX5 0 rfl rfl 1 (by decide) fl_X5_13 rfl rfl (ty := (tyX5 1)) (by decide +kernel) rfl rfl (Nat.le_of_ble_eq_true rfl) dX5_init_15 (fun H locs hP9 hD9 hS9 => ?_)
  clear hP hD hS; rename va_P D ZCL _ H => hP; rename va_D A _ => hD; rename va_S A s.heap H _ => hS
  replace hP : va_P D ZCL ((h0, .inr (5, [.ref q1, .ref q2, .null])) :: (q1, .inl (cA 0, 3, .inl (fun _ => 0))) :: (q2, .inl (cA 0, 3, .inl (fun _ => 0))) :: ([] : va_W)) H := hP
  replace hD : va_D A ((h0, .inr (5, [.ref q1, .ref q2, .null])) :: (q1, .inl (cA 0, 3, .inl (fun _ => 0))) :: (q2, .inl (cA 0, 3, .inl (fun _ => 0))) :: ([] : va_W)) := hD
  refine lv_aload_n hx hb dX5_init_18 rfl (lv_at hl 0 rfl) ?_
  refine lv_iconst (v := 3) hx hb dX5_init_19 (by decide) ?_
  refine lv_bipush (v := 20) hx hb dX5_init_20 (by decide) ?_
  refine zmna X hP hD hS hA (tb_of (tq_2 50 rfl) rfl) (tb_of (tq_1 93 rfl) rfl) (hAO) ⟨Nat.le_of_ble_eq_true rfl, Nat.le_of_ble_eq_true rfl⟩ dX5_init_22 (fun q3 q4 q5 q6 H hP9 hD9 hS9 => ?_)
  clear hP hD hS; rename va_P D ZCL _ H => hP; rename va_D A _ => hD; rename va_S A s.heap H _ => hS
  replace hP : va_P D ZCL ((h0, .inr (5, [.ref q1, .ref q2, .null])) :: (q1, .inl (cA 0, 3, .inl (fun _ => 0))) :: (q2, .inl (cA 0, 3, .inl (fun _ => 0))) :: (q3, .inl (cA 5, 3, .inr (.inr (.inr (.inr (fun j => ([q4, q5, q6] : List Nat)[j]?)))))) :: (q4, .inl (cA 1, 20, .inr (.inl (fun _ => 0)))) :: (q5, .inl (cA 1, 20, .inr (.inl (fun _ => 0)))) :: (q6, .inl (cA 1, 20, .inr (.inl (fun _ => 0)))) :: ([] : va_W)) H := hP
  replace hD : va_D A ((h0, .inr (5, [.ref q1, .ref q2, .null])) :: (q1, .inl (cA 0, 3, .inl (fun _ => 0))) :: (q2, .inl (cA 0, 3, .inl (fun _ => 0))) :: (q3, .inl (cA 5, 3, .inr (.inr (.inr (.inr (fun j => ([q4, q5, q6] : List Nat)[j]?)))))) :: (q4, .inl (cA 1, 20, .inr (.inl (fun _ => 0)))) :: (q5, .inl (cA 1, 20, .inr (.inl (fun _ => 0)))) :: (q6, .inl (cA 1, 20, .inr (.inl (fun _ => 0)))) :: ([] : va_W)) := hD
  refine W.widen (k := 6) (n := 69) (Nat.le_of_ble_eq_true rfl) (Nat.le_of_ble_eq_true rfl) ?_
  refine zputF X hinit hP hD hS (C := RX5) (T := TX5) (NN := 3) (ci := 5) in_X5 tyX5 tyX5_ok nmX5 0 rfl rfl 2 (by decide) fl_X5_18 rfl rfl (ty := (tyX5 2)) (by decide +kernel) rfl rfl (Nat.le_of_ble_eq_true rfl) dX5_init_26 (fun H locs hP9 hD9 hS9 => ?_)
  clear hP hD hS; rename va_P D ZCL _ H => hP; rename va_D A _ => hD; rename va_S A s.heap H _ => hS
  replace hP : va_P D ZCL ((h0, .inr (5, [.ref q1, .ref q2, .ref q3])) :: (q1, .inl (cA 0, 3, .inl (fun _ => 0))) :: (q2, .inl (cA 0, 3, .inl (fun _ => 0))) :: (q3, .inl (cA 5, 3, .inr (.inr (.inr (.inr (fun j => ([q4, q5, q6] : List Nat)[j]?)))))) :: (q4, .inl (cA 1, 20, .inr (.inl (fun _ => 0)))) :: (q5, .inl (cA 1, 20, .inr (.inl (fun _ => 0)))) :: (q6, .inl (cA 1, 20, .inr (.inl (fun _ => 0)))) :: ([] : va_W)) H := hP
  replace hD : va_D A ((h0, .inr (5, [.ref q1, .ref q2, .ref q3])) :: (q1, .inl (cA 0, 3, .inl (fun _ => 0))) :: (q2, .inl (cA 0, 3, .inl (fun _ => 0))) :: (q3, .inl (cA 5, 3, .inr (.inr (.inr (.inr (fun j => ([q4, q5, q6] : List Nat)[j]?)))))) :: (q4, .inl (cA 1, 20, .inr (.inl (fun _ => 0)))) :: (q5, .inl (cA 1, 20, .inr (.inl (fun _ => 0)))) :: (q6, .inl (cA 1, 20, .inr (.inl (fun _ => 0)))) :: ([] : va_W)) := hD
  refine lv_aload_n hx hb dX5_init_29 rfl (lv_at hl 0 rfl) ?_
  refine zgetR X hP (C := RX5) (T := TX5) (NN := 3) (ci := 5) (v := .ref q1) in_X5 0 rfl rfl 0 (by decide) fl_X5_9 rfl dX5_init_30 ?_
  refine lv_iconst (v := (-1)) hx hb dX5_init_33 (by decide) ?_
  refine zfill X hl.1 hP hD hS 1 rfl ml_X5_21 ⟨Nat.le_of_ble_eq_true rfl, Nat.le_of_ble_eq_true rfl⟩ ⟨Nat.le_of_ble_eq_true rfl, Nat.le_of_ble_eq_true rfl⟩ dX5_init_34 zfill_1 (fun H locs hP9 hD9 hS9 => ?_) (Nat.le_of_ble_eq_true rfl)
  clear hP hD hS; rename va_P D ZCL _ H => hP; rename va_D A _ => hD; rename va_S A s.heap H _ => hS
  replace hP : va_P D ZCL ((h0, .inr (5, [.ref q1, .ref q2, .ref q3])) :: (q1, .inl (cA 0, 3, .inl (fun j => if j < 3 then -1 else 0))) :: (q2, .inl (cA 0, 3, .inl (fun _ => 0))) :: (q3, .inl (cA 5, 3, .inr (.inr (.inr (.inr (fun j => ([q4, q5, q6] : List Nat)[j]?)))))) :: (q4, .inl (cA 1, 20, .inr (.inl (fun _ => 0)))) :: (q5, .inl (cA 1, 20, .inr (.inl (fun _ => 0)))) :: (q6, .inl (cA 1, 20, .inr (.inl (fun _ => 0)))) :: ([] : va_W)) H := hP
  replace hD : va_D A ((h0, .inr (5, [.ref q1, .ref q2, .ref q3])) :: (q1, .inl (cA 0, 3, .inl (fun j => if j < 3 then -1 else 0))) :: (q2, .inl (cA 0, 3, .inl (fun _ => 0))) :: (q3, .inl (cA 5, 3, .inr (.inr (.inr (.inr (fun j => ([q4, q5, q6] : List Nat)[j]?)))))) :: (q4, .inl (cA 1, 20, .inr (.inl (fun _ => 0)))) :: (q5, .inl (cA 1, 20, .inr (.inl (fun _ => 0)))) :: (q6, .inl (cA 1, 20, .inr (.inl (fun _ => 0)))) :: ([] : va_W)) := hD
  exact zcret X hP hD hS ⟨q1, q2, q3, q4, q5, q6, rfl⟩ dX5_init_37
theorem dX3_init_0 : decode cX3_init 0 = .ok (.aload_n 0, 1) := by decide +kernel
theorem dX3_init_1 : decode cX3_init 1 = .ok (.invokespecial 3, 3) := by decide +kernel
theorem dX3_init_4 : decode cX3_init 4 = .ok (.aload_n 0, 1) := by decide +kernel
theorem dX3_init_5 : decode cX3_init 5 = .ok (.new 9, 3) := by decide +kernel
theorem dX3_init_8 : decode cX3_init 8 = .ok (.dup, 1) := by decide +kernel
theorem dX3_init_9 : decode cX3_init 9 = .ok (.invokespecial 11, 3) := by decide +kernel
theorem dX3_init_12 : decode cX3_init 12 = .ok (.putfield 12, 3) := by decide +kernel
theorem dX3_init_15 : decode cX3_init 15 = .ok (.aload_n 0, 1) := by decide +kernel
theorem dX3_init_16 : decode cX3_init 16 = .ok (.bipush 8, 2) := by decide +kernel
theorem dX3_init_18 : decode cX3_init 18 = .ok (.anewarray 18, 3) := by decide +kernel
theorem dX3_init_21 : decode cX3_init 21 = .ok (.putfield 20, 3) := by decide +kernel
theorem dX3_init_24 : decode cX3_init 24 = .ok (.iconst 0, 1) := by decide +kernel
theorem dX3_init_25 : decode cX3_init 25 = .ok (.istore_n 1, 1) := by decide +kernel
theorem dX3_init_26 : decode cX3_init 26 = .ok (.iload_n 1, 1) := by decide +kernel
theorem dX3_init_27 : decode cX3_init 27 = .ok (.bipush 8, 2) := by decide +kernel
theorem dX3_init_29 : decode cX3_init 29 = .ok (.if_icmp .ge 22, 3) := by decide +kernel
theorem dX3_init_32 : decode cX3_init 32 = .ok (.aload_n 0, 1) := by decide +kernel
theorem dX3_init_33 : decode cX3_init 33 = .ok (.getfield 20, 3) := by decide +kernel
theorem dX3_init_36 : decode cX3_init 36 = .ok (.iload_n 1, 1) := by decide +kernel
theorem dX3_init_37 : decode cX3_init 37 = .ok (.new 18, 3) := by decide +kernel
theorem dX3_init_40 : decode cX3_init 40 = .ok (.dup, 1) := by decide +kernel
theorem dX3_init_41 : decode cX3_init 41 = .ok (.invokespecial 24, 3) := by decide +kernel
theorem dX3_init_44 : decode cX3_init 44 = .ok (.aastore, 1) := by decide +kernel
theorem dX3_init_45 : decode cX3_init 45 = .ok (.iinc 1 1, 3) := by decide +kernel
theorem dX3_init_48 : decode cX3_init 48 = .ok (.goto (-22), 3) := by decide +kernel
theorem dX3_init_51 : decode cX3_init 51 = .ok (.return_, 1) := by decide +kernel
theorem cv_X3 : zVi yX3_init cX3_init 2 RX3 := ⟨by decide +kernel, rfl, tb_of (tq_1 32 rfl) rfl, tb_of (tq_1 2 rfl) rfl, tb_of (tq_1 33 rfl) rfl⟩
set_option maxHeartbeats 4000000 in
set_option maxRecDepth 100000 in
theorem ct_X3 {cA : Nat → ClassId} {D : va_G} {E : Nat → Nat} {l : Launch} : zct cA D E l yX3_init cX3_init 2 2 21 3743 100 (.inr (3, [.null, .null, .int 0])) (fun h0 w => ∃ q1 q2 q3 q4 q5 q6 q7 q8 q9 q10 q11 q12 q13 q14 q15 q16 q17 q18 q19 q20 q21 : Nat, w = ((h0, .inr (3, [.ref q1, .ref q5, .int 0])) :: (q1, .inr (7, [.int 0, .int 0, .int 0, .ref q2, .ref q3, .ref q4])) :: (q2, .inl (cA 0, 3, .inl (fun _ => 0))) :: (q3, .inl (cA 0, 3, .inl (fun _ => 0))) :: (q4, .inl (cA 0, 3, .inl (fun _ => 0))) :: (q5, .inl (cA 4, 8, .inr (.inr (.inr (.inr (fun j => ([q6, q8, q10, q12, q14, q16, q18, q20] : List Nat)[j]?)))))) :: (q6, .inr (4, [.int 0, .int 0, .ref q7])) :: (q7, .inl (cA 1, 462, .inr (.inl (fun _ => 0)))) :: (q8, .inr (4, [.int 0, .int 0, .ref q9])) :: (q9, .inl (cA 1, 462, .inr (.inl (fun _ => 0)))) :: (q10, .inr (4, [.int 0, .int 0, .ref q11])) :: (q11, .inl (cA 1, 462, .inr (.inl (fun _ => 0)))) :: (q12, .inr (4, [.int 0, .int 0, .ref q13])) :: (q13, .inl (cA 1, 462, .inr (.inl (fun _ => 0)))) :: (q14, .inr (4, [.int 0, .int 0, .ref q15])) :: (q15, .inl (cA 1, 462, .inr (.inl (fun _ => 0)))) :: (q16, .inr (4, [.int 0, .int 0, .ref q17])) :: (q17, .inl (cA 1, 462, .inr (.inl (fun _ => 0)))) :: (q18, .inr (4, [.int 0, .int 0, .ref q19])) :: (q19, .inl (cA 1, 462, .inr (.inl (fun _ => 0)))) :: (q20, .inr (4, [.int 0, .int 0, .ref q21])) :: (q21, .inl (cA 1, 462, .inr (.inl (fun _ => 0)))) :: ([] : va_W))) := by
  refine zcstart (own := RX3) (by decide) rfl rfl (by decide) ?_
  intro p e s m args below meth c h0 A X hAO hinit hA hP hD ls hl
  have hx := X.1
  have hb := X.2.1
  have hS : va_S A s.heap s.heap [] := va_S.rf
  refine lv_aload_n hx hb dX3_init_0 rfl (lv_at hl 0 rfl) ?_
  refine zinit X hl.1 ml_X3_3 (tb_of (tq_1 27 rfl) rfl) (tb_of (tq_1 28 rfl) rfl) ⟨Nat.le_of_ble_eq_true rfl, Nat.le_of_ble_eq_true rfl⟩ dX3_init_1 ?_
  refine lv_aload_n hx hb dX3_init_4 rfl (lv_at hl 0 rfl) ?_
  refine znew X hP hD hS hA (C := RX7) (T := TX7) (NN := 6) (ci := 7) (fs := [.int 0, .int 0, .int 0, .null, .null, .null]) in_X7 tyX7 tyX7_ok (tb_of (tq_1 35 rfl) rfl) (tb_of (tq_1 36 rfl) rfl) (tb_of (tq_1 3 rfl) rfl) rfl (by decide) ⟨Nat.le_of_ble_eq_true rfl, Nat.le_of_ble_eq_true rfl⟩ dX3_init_5 (fun q1 H hP9 hD9 hS9 => ?_)
  clear hP hD hS; rename va_P D ZCL _ H => hP; rename va_D A _ => hD; rename va_S A s.heap H _ => hS
  replace hP : va_P D ZCL ((h0, .inr (3, [.null, .null, .int 0])) :: (q1, .inr (7, [.int 0, .int 0, .int 0, .null, .null, .null])) :: ([] : va_W)) H := hP
  replace hD : va_D A ((h0, .inr (3, [.null, .null, .int 0])) :: (q1, .inr (7, [.int 0, .int 0, .int 0, .null, .null, .null])) :: ([] : va_W)) := hD
  refine W.widen (k := 1) (n := 6) (Nat.le_of_ble_eq_true rfl) (Nat.le_of_ble_eq_true rfl) ?_
  refine lv_dup hx hb dX3_init_8 rfl ?_
  refine zcallI X hAO hl.1 hP hD hS hA (rest := [.ref q1, .ref h0]) (ct_X7 (l := l)) cv_X7 (Or.inr (List.mem_filter.mpr ⟨tq_1 37 rfl, rfl⟩)) ⟨Nat.le_of_ble_eq_true rfl, Nat.le_of_ble_eq_true rfl⟩ ⟨Nat.le_of_ble_eq_true rfl, Nat.le_of_ble_eq_true rfl⟩ (Nat.le_of_ble_eq_true rfl) dX3_init_9 1 [0] (wr := ((h0, .inr (3, [.null, .null, .int 0])) :: ([] : va_W))) rfl rfl rfl (by decide +kernel) (fun w H locs hw hP9 hD9 hS9 => ?_)
  clear hP hD hS; rename va_P D ZCL _ H => hP; rename va_D A _ => hD; rename va_S A s.heap H _ => hS
  obtain ⟨q2, q3, q4, rfl⟩ := hw
  replace hP : va_P D ZCL ((h0, .inr (3, [.null, .null, .int 0])) :: (q1, .inr (7, [.int 0, .int 0, .int 0, .ref q2, .ref q3, .ref q4])) :: (q2, .inl (cA 0, 3, .inl (fun _ => 0))) :: (q3, .inl (cA 0, 3, .inl (fun _ => 0))) :: (q4, .inl (cA 0, 3, .inl (fun _ => 0))) :: ([] : va_W)) H := hP
  replace hD : va_D A ((h0, .inr (3, [.null, .null, .int 0])) :: (q1, .inr (7, [.int 0, .int 0, .int 0, .ref q2, .ref q3, .ref q4])) :: (q2, .inl (cA 0, 3, .inl (fun _ => 0))) :: (q3, .inl (cA 0, 3, .inl (fun _ => 0))) :: (q4, .inl (cA 0, 3, .inl (fun _ => 0))) :: ([] : va_W)) := hD
  refine W.widen (k := 4) (n := 15) (Nat.le_of_ble_eq_true rfl) (Nat.le_of_ble_eq_true rfl) ?_
  refine zputF X hinit hP hD hS (C := RX3) (T := TX3) (NN := 3) (ci := 3) in_X3 tyX3 tyX3_ok nmX3 0 rfl rfl 0 (by decide) fl_X3_12 rfl rfl (ty := (tyX3 0)) (by decide +kernel) rfl rfl (Nat.le_of_ble_eq_true rfl) dX3_init_12 (fun H locs hP9 hD9 hS9 => ?_)
  clear hP hD hS; rename va_P D ZCL _ H => hP; rename va_D A _ => hD; rename va_S A s.heap H _ => hS
  replace hP : va_P D ZCL ((h0, .inr (3, [.ref q1, .null, .int 0])) :: (q1, .inr (7, [.int 0, .int 0, .int 0, .ref q2, .ref q3, .ref q4])) :: (q2, .inl (cA 0, 3, .inl (fun _ => 0))) :: (q3, .inl (cA 0, 3, .inl (fun _ => 0))) :: (q4, .inl (cA 0, 3, .inl (fun _ => 0))) :: ([] : va_W)) H := hP
  replace hD : va_D A ((h0, .inr (3, [.ref q1, .null, .int 0])) :: (q1, .inr (7, [.int 0, .int 0, .int 0, .ref q2, .ref q3, .ref q4])) :: (q2, .inl (cA 0, 3, .inl (fun _ => 0))) :: (q3, .inl (cA 0, 3, .inl (fun _ => 0))) :: (q4, .inl (cA 0, 3, .inl (fun _ => 0))) :: ([] : va_W)) := hD
  refine lv_aload_n hx hb dX3_init_15 rfl (lv_at hl 0 rfl) ?_
  refine lv_bipush (v := 8) hx hb dX3_init_16 (by decide) ?_
  refine znewq X hP hD hS hA (tb_of (tq_1 68 rfl) rfl) (hAO) (N' := 8) (by decide) (by decide) (Nat.le_of_ble_eq_true rfl) ⟨Nat.le_of_ble_eq_true rfl, Nat.le_of_ble_eq_true rfl⟩ dX3_init_18 (fun q5 H hP9 hD9 hS9 => ?_)
  clear hP hD hS; rename va_P D ZCL _ H => hP; rename va_D A _ => hD; rename va_S A s.heap H _ => hS
  replace hP : va_P D ZCL ((h0, .inr (3, [.ref q1, .null, .int 0])) :: (q1, .inr (7, [.int 0, .int 0, .int 0, .ref q2, .ref q3, .ref q4])) :: (q2, .inl (cA 0, 3, .inl (fun _ => 0))) :: (q3, .inl (cA 0, 3, .inl (fun _ => 0))) :: (q4, .inl (cA 0, 3, .inl (fun _ => 0))) :: (q5, .inl (cA 4, 8, .inr (.inr (.inr (.inr (fun _ => none)))))) :: ([] : va_W)) H := hP
  replace hD : va_D A ((h0, .inr (3, [.ref q1, .null, .int 0])) :: (q1, .inr (7, [.int 0, .int 0, .int 0, .ref q2, .ref q3, .ref q4])) :: (q2, .inl (cA 0, 3, .inl (fun _ => 0))) :: (q3, .inl (cA 0, 3, .inl (fun _ => 0))) :: (q4, .inl (cA 0, 3, .inl (fun _ => 0))) :: (q5, .inl (cA 4, 8, .inr (.inr (.inr (.inr (fun _ => none)))))) :: ([] : va_W)) := hD
  refine W.widen (k := 5) (n := 23) (Nat.le_of_ble_eq_true rfl) (Nat.le_of_ble_eq_true rfl) ?_
  refine zputF X hinit hP hD hS (C := RX3) (T := TX3) (NN := 3) (ci := 3) in_X3 tyX3 tyX3_ok nmX3 0 rfl rfl 1 (by decide) fl_X3_20 rfl rfl (ty := (tyX3 1)) (by decide +kernel) rfl rfl (Nat.le_of_ble_eq_true rfl) dX3_init_21 (fun H locs hP9 hD9 hS9 => ?_)
  clear hP hD hS; rename va_P D ZCL _ H => hP; rename va_D A _ => hD; rename va_S A s.heap H _ => hS
  replace hP : va_P D ZCL ((h0, .inr (3, [.ref q1, .ref q5, .int 0])) :: (q1, .inr (7, [.int 0, .int 0, .int 0, .ref q2, .ref q3, .ref q4])) :: (q2, .inl (cA 0, 3, .inl (fun _ => 0))) :: (q3, .inl (cA 0, 3, .inl (fun _ => 0))) :: (q4, .inl (cA 0, 3, .inl (fun _ => 0))) :: (q5, .inl (cA 4, 8, .inr (.inr (.inr (.inr (fun _ => none)))))) :: ([] : va_W)) H := hP
  replace hD : va_D A ((h0, .inr (3, [.ref q1, .ref q5, .int 0])) :: (q1, .inr (7, [.int 0, .int 0, .int 0, .ref q2, .ref q3, .ref q4])) :: (q2, .inl (cA 0, 3, .inl (fun _ => 0))) :: (q3, .inl (cA 0, 3, .inl (fun _ => 0))) :: (q4, .inl (cA 0, 3, .inl (fun _ => 0))) :: (q5, .inl (cA 4, 8, .inr (.inr (.inr (.inr (fun _ => none)))))) :: ([] : va_W)) := hD
  refine lv_iconst (v := 0) hx hb dX3_init_24 (by decide) ?_
  refine lv_istore_n (lv' := [(1, .int 0), (0, .ref h0)]) hx hb dX3_init_25 rfl hl (by decide) rfl (fun ls hl => ?_)
  refine lv_iload_n hx hb dX3_init_26 rfl (lv_at hl 0 rfl) ?_
  refine lv_bipush (v := 8) hx hb dX3_init_27 (by decide) ?_
  refine lv_icmp_ge (tgt := 51) hx hb dX3_init_29 (by decide) (fun z => absurd z (by decide)) (fun _ => ?_)
  refine lv_aload_n hx hb dX3_init_32 rfl (lv_at hl 1 rfl) ?_
  refine zgetR X hP (C := RX3) (T := TX3) (NN := 3) (ci := 3) (v := .ref q5) in_X3 0 rfl rfl 1 (by decide) fl_X3_20 rfl dX3_init_33 ?_
  refine lv_iload_n hx hb dX3_init_36 rfl (lv_at hl 0 rfl) ?_
  refine znew X hP hD hS hA (C := RX4) (T := TX4) (NN := 3) (ci := 4) (fs := [.int 0, .int 0, .null]) in_X4 tyX4 tyX4_ok (tb_of (tq_1 68 rfl) rfl) (tb_of (tq_1 70 rfl) rfl) (tb_of (tq_1 4 rfl) rfl) rfl (by decide) ⟨Nat.le_of_ble_eq_true rfl, Nat.le_of_ble_eq_true rfl⟩ dX3_init_37 (fun q6 H hP9 hD9 hS9 => ?_)
  clear hP hD hS; rename va_P D ZCL _ H => hP; rename va_D A _ => hD; rename va_S A s.heap H _ => hS
  replace hP : va_P D ZCL ((h0, .inr (3, [.ref q1, .ref q5, .int 0])) :: (q1, .inr (7, [.int 0, .int 0, .int 0, .ref q2, .ref q3, .ref q4])) :: (q2, .inl (cA 0, 3, .inl (fun _ => 0))) :: (q3, .inl (cA 0, 3, .inl (fun _ => 0))) :: (q4, .inl (cA 0, 3, .inl (fun _ => 0))) :: (q5, .inl (cA 4, 8, .inr (.inr (.inr (.inr (fun _ => none)))))) :: (q6, .inr (4, [.int 0, .int 0, .null])) :: ([] : va_W)) H := hP
  replace hD : va_D A ((h0, .inr (3, [.ref q1, .ref q5, .int 0])) :: (q1, .inr (7, [.int 0, .int 0, .int 0, .ref q2, .ref q3, .ref q4])) :: (q2, .inl (cA 0, 3, .inl (fun _ => 0))) :: (q3, .inl (cA 0, 3, .inl (fun _ => 0))) :: (q4, .inl (cA 0, 3, .inl (fun _ => 0))) :: (q5, .inl (cA 4, 8, .inr (.inr (.inr (.inr (fun _ => none)))))) :: (q6, .inr (4, [.int 0, .int 0, .null])) :: ([] : va_W)) := hD
  refine W.widen (k := 6) (n := 26) (Nat.le_of_ble_eq_true rfl) (Nat.le_of_ble_eq_true rfl) ?_
  refine lv_dup hx hb dX3_init_40 rfl ?_
  refine zcallI X hAO hl.1 hP hD hS hA (rest := [.ref q6, .int 0, .ref q5]) (ct_X4 (l := l)) cv_X4 (Or.inr (List.mem_filter.mpr ⟨tq_1 71 rfl, rfl⟩)) ⟨Nat.le_of_ble_eq_true rfl, Nat.le_of_ble_eq_true rfl⟩ ⟨Nat.le_of_ble_eq_true rfl, Nat.le_of_ble_eq_true rfl⟩ (Nat.le_of_ble_eq_true rfl) dX3_init_41 6 [0, 1, 2, 3, 4, 5] (wr := ((h0, .inr (3, [.ref q1, .ref q5, .int 0])) :: (q1, .inr (7, [.int 0, .int 0, .int 0, .ref q2, .ref q3, .ref q4])) :: (q2, .inl (cA 0, 3, .inl (fun _ => 0))) :: (q3, .inl (cA 0, 3, .inl (fun _ => 0))) :: (q4, .inl (cA 0, 3, .inl (fun _ => 0))) :: (q5, .inl (cA 4, 8, .inr (.inr (.inr (.inr (fun _ => none)))))) :: ([] : va_W))) rfl rfl rfl (by decide +kernel) (fun w H locs hw hP9 hD9 hS9 => ?_)
  clear hP hD hS; rename va_P D ZCL _ H => hP; rename va_D A _ => hD; rename va_S A s.heap H _ => hS
  obtain ⟨q7, rfl⟩ := hw
  replace hP : va_P D ZCL ((h0, .inr (3, [.ref q1, .ref q5, .int 0])) :: (q1, .inr (7, [.int 0, .int 0, .int 0, .ref q2, .ref q3, .ref q4])) :: (q2, .inl (cA 0, 3, .inl (fun _ => 0))) :: (q3, .inl (cA 0, 3, .inl (fun _ => 0))) :: (q4, .inl (cA 0, 3, .inl (fun _ => 0))) :: (q5, .inl (cA 4, 8, .inr (.inr (.inr (.inr (fun _ => none)))))) :: (q6, .inr (4, [.int 0, .int 0, .ref q7])) :: (q7, .inl (cA 1, 462, .inr (.inl (fun _ => 0)))) :: ([] : va_W)) H := hP
  replace hD : va_D A ((h0, .inr (3, [.ref q1, .ref q5, .int 0])) :: (q1, .inr (7, [.int 0, .int 0, .int 0, .ref q2, .ref q3, .ref q4])) :: (q2, .inl (cA 0, 3, .inl (fun _ => 0))) :: (q3, .inl (cA 0, 3, .inl (fun _ => 0))) :: (q4, .inl (cA 0, 3, .inl (fun _ => 0))) :: (q5, .inl (cA 4, 8, .inr (.inr (.inr (.inr (fun _ => none)))))) :: (q6, .inr (4, [.int 0, .int 0, .ref q7])) :: (q7, .inl (cA 1, 462, .inr (.inl (fun _ => 0)))) :: ([] : va_W)) := hD
  refine W.widen (k := 7) (n := 488) (Nat.le_of_ble_eq_true rfl) (Nat.le_of_ble_eq_true rfl) ?_
  refine zaast X hP hD hS 5 6 rfl rfl (i := 0) (by decide) dX3_init_44 (fun H locs hP9 hD9 hS9 => ?_)
  clear hP hD hS; rename va_P D ZCL _ H => hP; rename va_D A _ => hD; rename va_S A s.heap H _ => hS
  replace hP : va_P D ZCL ((h0, .inr (3, [.ref q1, .ref q5, .int 0])) :: (q1, .inr (7, [.int 0, .int 0, .int 0, .ref q2, .ref q3, .ref q4])) :: (q2, .inl (cA 0, 3, .inl (fun _ => 0))) :: (q3, .inl (cA 0, 3, .inl (fun _ => 0))) :: (q4, .inl (cA 0, 3, .inl (fun _ => 0))) :: (q5, .inl (cA 4, 8, .inr (.inr (.inr (.inr (va_up (fun _ => none) 0 (some q6))))))) :: (q6, .inr (4, [.int 0, .int 0, .ref q7])) :: (q7, .inl (cA 1, 462, .inr (.inl (fun _ => 0)))) :: ([] : va_W)) H := hP
  replace hD : va_D A ((h0, .inr (3, [.ref q1, .ref q5, .int 0])) :: (q1, .inr (7, [.int 0, .int 0, .int 0, .ref q2, .ref q3, .ref q4])) :: (q2, .inl (cA 0, 3, .inl (fun _ => 0))) :: (q3, .inl (cA 0, 3, .inl (fun _ => 0))) :: (q4, .inl (cA 0, 3, .inl (fun _ => 0))) :: (q5, .inl (cA 4, 8, .inr (.inr (.inr (.inr (va_up (fun _ => none) 0 (some q6))))))) :: (q6, .inr (4, [.int 0, .int 0, .ref q7])) :: (q7, .inl (cA 1, 462, .inr (.inl (fun _ => 0)))) :: ([] : va_W)) := hD
  refine lv_iinc (v := 1) (lv' := [(1, .int 1), (0, .ref h0)]) hx hb dX3_init_45 hl (k := 0) rfl (by decide) (by decide) rfl (fun ls hl => ?_)
  refine lv_goto (tgt := 26) hx hb dX3_init_48 (by decide) ?_
  refine lv_iload_n hx hb dX3_init_26 rfl (lv_at hl 0 rfl) ?_
  refine lv_bipush (v := 8) hx hb dX3_init_27 (by decide) ?_
  refine lv_icmp_ge (tgt := 51) hx hb dX3_init_29 (by decide) (fun z => absurd z (by decide)) (fun _ => ?_)
  refine lv_aload_n hx hb dX3_init_32 rfl (lv_at hl 1 rfl) ?_
  refine zgetR X hP (C := RX3) (T := TX3) (NN := 3) (ci := 3) (v := .ref q5) in_X3 0 rfl rfl 1 (by decide) fl_X3_20 rfl dX3_init_33 ?_
  refine lv_iload_n hx hb dX3_init_36 rfl (lv_at hl 0 rfl) ?_
  refine znew X hP hD hS hA (C := RX4) (T := TX4) (NN := 3) (ci := 4) (fs := [.int 0, .int 0, .null]) in_X4 tyX4 tyX4_ok (tb_of (tq_1 68 rfl) rfl) (tb_of (tq_1 70 rfl) rfl) (tb_of (tq_1 4 rfl) rfl) rfl (by decide) ⟨Nat.le_of_ble_eq_true rfl, Nat.le_of_ble_eq_true rfl⟩ dX3_init_37 (fun q8 H hP9 hD9 hS9 => ?_)
  clear hP hD hS; rename va_P D ZCL _ H => hP; rename va_D A _ => hD; rename va_S A s.heap H _ => hS
  replace hP : va_P D ZCL ((h0, .inr (3, [.ref q1, .ref q5, .int 0])) :: (q1, .inr (7, [.int 0, .int 0, .int 0, .ref q2, .ref q3, .ref q4])) :: (q2, .inl (cA 0, 3, .inl (fun _ => 0))) :: (q3, .inl (cA 0, 3, .inl (fun _ => 0))) :: (q4, .inl (cA 0, 3, .inl (fun _ => 0))) :: (q5, .inl (cA 4, 8, .inr (.inr (.inr (.inr (va_up (fun _ => none) 0 (some q6))))))) :: (q6, .inr (4, [.int 0, .int 0, .ref q7])) :: (q7, .inl (cA 1, 462, .inr (.inl (fun _ => 0)))) :: (q8, .inr (4, [.int 0, .int 0, .null])) :: ([] : va_W)) H := hP
  replace hD : va_D A ((h0, .inr (3, [.ref q1, .ref q5, .int 0])) :: (q1, .inr (7, [.int 0, .int 0, .int 0, .ref q2, .ref q3, .ref q4])) :: (q2, .inl (cA 0, 3, .inl (fun _ => 0))) :: (q3, .inl (cA 0, 3, .inl (fun _ => 0))) :: (q4, .inl (cA 0, 3, .inl (fun _ => 0))) :: (q5, .inl (cA 4, 8, .inr (.inr (.inr (.inr (va_up (fun _ => none) 0 (some q6))))))) :: (q6, .inr (4, [.int 0, .int 0, .ref q7])) :: (q7, .inl (cA 1, 462, .inr (.inl (fun _ => 0)))) :: (q8, .inr (4, [.int 0, .int 0, .null])) :: ([] : va_W)) := hD
  refine W.widen (k := 8) (n := 491) (Nat.le_of_ble_eq_true rfl) (Nat.le_of_ble_eq_true rfl) ?_
  refine lv_dup hx hb dX3_init_40 rfl ?_
  refine zcallI X hAO hl.1 hP hD hS hA (rest := [.ref q8, .int 1, .ref q5]) (ct_X4 (l := l)) cv_X4 (Or.inr (List.mem_filter.mpr ⟨tq_1 71 rfl, rfl⟩)) ⟨Nat.le_of_ble_eq_true rfl, Nat.le_of_ble_eq_true rfl⟩ ⟨Nat.le_of_ble_eq_true rfl, Nat.le_of_ble_eq_true rfl⟩ (Nat.le_of_ble_eq_true rfl) dX3_init_41 8 [0, 1, 2, 3, 4, 5, 6, 7] (wr := ((h0, .inr (3, [.ref q1, .ref q5, .int 0])) :: (q1, .inr (7, [.int 0, .int 0, .int 0, .ref q2, .ref q3, .ref q4])) :: (q2, .inl (cA 0, 3, .inl (fun _ => 0))) :: (q3, .inl (cA 0, 3, .inl (fun _ => 0))) :: (q4, .inl (cA 0, 3, .inl (fun _ => 0))) :: (q5, .inl (cA 4, 8, .inr (.inr (.inr (.inr (va_up (fun _ => none) 0 (some q6))))))) :: (q6, .inr (4, [.int 0, .int 0, .ref q7])) :: (q7, .inl (cA 1, 462, .inr (.inl (fun _ => 0)))) :: ([] : va_W))) rfl rfl rfl (by decide +kernel) (fun w H locs hw hP9 hD9 hS9 => ?_)
  clear hP hD hS; rename va_P D ZCL _ H => hP; rename va_D A _ => hD; rename va_S A s.heap H _ => hS
  obtain ⟨q9, rfl⟩ := hw
  replace hP : va_P D ZCL ((h0, .inr (3, [.ref q1, .ref q5, .int 0])) :: (q1, .inr (7, [.int 0, .int 0, .int 0, .ref q2, .ref q3, .ref q4])) :: (q2, .inl (cA 0, 3, .inl (fun _ => 0))) :: (q3, .inl (cA 0, 3, .inl (fun _ => 0))) :: (q4, .inl (cA 0, 3, .inl (fun _ => 0))) :: (q5, .inl (cA 4, 8, .inr (.inr (.inr (.inr (va_up (fun _ => none) 0 (some q6))))))) :: (q6, .inr (4, [.int 0, .int 0, .ref q7])) :: (q7, .inl (cA 1, 462, .inr (.inl (fun _ => 0)))) :: (q8, .inr (4, [.int 0, .int 0, .ref q9])) :: (q9, .inl (cA 1, 462, .inr (.inl (fun _ => 0)))) :: ([] : va_W)) H := hP
  replace hD : va_D A ((h0, .inr (3, [.ref q1, .ref q5, .int 0])) :: (q1, .inr (7, [.int 0, .int 0, .int 0, .ref q2, .ref q3, .ref q4])) :: (q2, .inl (cA 0, 3, .inl (fun _ => 0))) :: (q3, .inl (cA 0, 3, .inl (fun _ => 0))) :: (q4, .inl (cA 0, 3, .inl (fun _ => 0))) :: (q5, .inl (cA 4, 8, .inr (.inr (.inr (.inr (va_up (fun _ => none) 0 (some q6))))))) :: (q6, .inr (4, [.int 0, .int 0, .ref q7])) :: (q7, .inl (cA 1, 462, .inr (.inl (fun _ => 0)))) :: (q8, .inr (4, [.int 0, .int 0, .ref q9])) :: (q9, .inl (cA 1, 462, .inr (.inl (fun _ => 0)))) :: ([] : va_W)) := hD
  refine W.widen (k := 9) (n := 953) (Nat.le_of_ble_eq_true rfl) (Nat.le_of_ble_eq_true rfl) ?_
  refine zaast X hP hD hS 5 8 rfl rfl (i := 1) (by decide) dX3_init_44 (fun H locs hP9 hD9 hS9 => ?_)
  clear hP hD hS; rename va_P D ZCL _ H => hP; rename va_D A _ => hD; rename va_S A s.heap H _ => hS
  replace hP : va_P D ZCL ((h0, .inr (3, [.ref q1, .ref q5, .int 0])) :: (q1, .inr (7, [.int 0, .int 0, .int 0, .ref q2, .ref q3, .ref q4])) :: (q2, .inl (cA 0, 3, .inl (fun _ => 0))) :: (q3, .inl (cA 0, 3, .inl (fun _ => 0))) :: (q4, .inl (cA 0, 3, .inl (fun _ => 0))) :: (q5, .inl (cA 4, 8, .inr (.inr (.inr (.inr (va_up (va_up (fun _ => none) 0 (some q6)) 1 (some q8))))))) :: (q6, .inr (4, [.int 0, .int 0, .ref q7])) :: (q7, .inl (cA 1, 462, .inr (.inl (fun _ => 0)))) :: (q8, .inr (4, [.int 0, .int 0, .ref q9])) :: (q9, .inl (cA 1, 462, .inr (.inl (fun _ => 0)))) :: ([] : va_W)) H := hP
  replace hD : va_D A ((h0, .inr (3, [.ref q1, .ref q5, .int 0])) :: (q1, .inr (7, [.int 0, .int 0, .int 0, .ref q2, .ref q3, .ref q4])) :: (q2, .inl (cA 0, 3, .inl (fun _ => 0))) :: (q3, .inl (cA 0, 3, .inl (fun _ => 0))) :: (q4, .inl (cA 0, 3, .inl (fun _ => 0))) :: (q5, .inl (cA 4, 8, .inr (.inr (.inr (.inr (va_up (va_up (fun _ => none) 0 (some q6)) 1 (some q8))))))) :: (q6, .inr (4, [.int 0, .int 0, .ref q7])) :: (q7, .inl (cA 1, 462, .inr (.inl (fun _ => 0)))) :: (q8, .inr (4, [.int 0, .int 0, .ref q9])) :: (q9, .inl (cA 1, 462, .inr (.inl (fun _ => 0)))) :: ([] : va_W)) := hD
  refine lv_iinc (v := 2) (lv' := [(1, .int 2), (0, .ref h0)]) hx hb dX3_init_45 hl (k := 0) rfl (by decide) (by decide) rfl (fun ls hl => ?_)
  refine lv_goto (tgt := 26) hx hb dX3_init_48 (by decide) ?_
  refine lv_iload_n hx hb dX3_init_26 rfl (lv_at hl 0 rfl) ?_
  refine lv_bipush (v := 8) hx hb dX3_init_27 (by decide) ?_
  refine lv_icmp_ge (tgt := 51) hx hb dX3_init_29 (by decide) (fun z => absurd z (by decide)) (fun _ => ?_)
  refine lv_aload_n hx hb dX3_init_32 rfl (lv_at hl 1 rfl) ?_
  refine zgetR X hP (C := RX3) (T := TX3) (NN := 3) (ci := 3) (v := .ref q5) in_X3 0 rfl rfl 1 (by decide) fl_X3_20 rfl dX3_init_33 ?_
  refine lv_iload_n hx hb dX3_init_36 rfl (lv_at hl 0 rfl) ?_
  refine znew X hP hD hS hA (C := RX4) (T := TX4) (NN := 3) (ci := 4) (fs := [.int 0, .int 0, .null]) in_X4 tyX4 tyX4_ok (tb_of (tq_1 68 rfl) rfl) (tb_of (tq_1 70 rfl) rfl) (tb_of (tq_1 4 rfl) rfl) rfl (by decide) ⟨Nat.le_of_ble_eq_true rfl, Nat.le_of_ble_eq_true rfl⟩ dX3_init_37 (fun q10 H hP9 hD9 hS9 => ?_)
  clear hP hD hS; rename va_P D ZCL _ H => hP; rename va_D A _ => hD; rename va_S A s.heap H _ => hS
  replace hP : va_P D ZCL ((h0, .inr (3, [.ref q1, .ref q5, .int 0])) :: (q1, .inr (7, [.int 0, .int 0, .int 0, .ref q2, .ref q3, .ref q4])) :: (q2, .inl (cA 0, 3, .inl (fun _ => 0))) :: (q3, .inl (cA 0, 3, .inl (fun _ => 0))) :: (q4, .inl (cA 0, 3, .inl (fun _ => 0))) :: (q5, .inl (cA 4, 8, .inr (.inr (.inr (.inr (va_up (va_up (fun _ => none) 0 (some q6)) 1 (some q8))))))) :: (q6, .inr (4, [.int 0, .int 0, .ref q7])) :: (q7, .inl (cA 1, 462, .inr (.inl (fun _ => 0)))) :: (q8, .inr (4, [.int 0, .int 0, .ref q9])) :: (q9, .inl (cA 1, 462, .inr (.inl (fun _ => 0)))) :: (q10, .inr (4, [.int 0, .int 0, .null])) :: ([] : va_W)) H := hP
  replace hD : va_D A ((h0, .inr (3, [.ref q1, .ref q5, .int 0])) :: (q1, .inr (7, [.int 0, .int 0, .int 0, .ref q2, .ref q3, .ref q4])) :: (q2, .inl (cA 0, 3, .inl (fun _ => 0))) :: (q3, .inl (cA 0, 3, .inl (fun _ => 0))) :: (q4, .inl (cA 0, 3, .inl (fun _ => 0))) :: (q5, .inl (cA 4, 8, .inr (.inr (.inr (.inr (va_up (va_up (fun _ => none) 0 (some q6)) 1 (some q8))))))) :: (q6, .inr (4, [.int 0, .int 0, .ref q7])) :: (q7, .inl (cA 1, 462, .inr (.inl (fun _ => 0)))) :: (q8, .inr (4, [.int 0, .int 0, .ref q9])) :: (q9, .inl (cA 1, 462, .inr (.inl (fun _ => 0)))) :: (q10, .inr (4, [.int 0, .int 0, .null])) :: ([] : va_W)) := hD
  refine W.widen (k := 10) (n := 956) (Nat.le_of_ble_eq_true rfl) (Nat.le_of_ble_eq_true rfl) ?_
  refine lv_dup hx hb dX3_init_40 rfl ?_
  refine zcallI X hAO hl.1 hP hD hS hA (rest := [.ref q10, .int 2, .ref q5]) (ct_X4 (l := l)) cv_X4 (Or.inr (List.mem_filter.mpr ⟨tq_1 71 rfl, rfl⟩)) ⟨Nat.le_of_ble_eq_true rfl, Nat.le_of_ble_eq_true rfl⟩ ⟨Nat.le_of_ble_eq_true rfl, Nat.le_of_ble_eq_true rfl⟩ (Nat.le_of_ble_eq_true rfl) dX3_init_41 10 [0, 1, 2, 3, 4, 5, 6, 7, 8, 9] (wr := ((h0, .inr (3, [.ref q1, .ref q5, .int 0])) :: (q1, .inr (7, [.int 0, .int 0, .int 0, .ref q2, .ref q3, .ref q4])) :: (q2, .inl (cA 0, 3, .inl (fun _ => 0))) :: (q3, .inl (cA 0, 3, .inl (fun _ => 0))) :: (q4, .inl (cA 0, 3, .inl (fun _ => 0))) :: (q5, .inl (cA 4, 8, .inr (.inr (.inr (.inr (va_up (va_up (fun _ => none) 0 (some q6)) 1 (some q8))))))) :: (q6, .inr (4, [.int 0, .int 0, .ref q7])) :: (q7, .inl (cA 1, 462, .inr (.inl (fun _ => 0)))) :: (q8, .inr (4, [.int 0, .int 0, .ref q9])) :: (q9, .inl (cA 1, 462, .inr (.inl (fun _ => 0)))) :: ([] : va_W))) rfl rfl rfl (by decide +kernel) (fun w H locs hw hP9 hD9 hS9 => ?_)
  clear hP hD hS; rename va_P D ZCL _ H => hP; rename va_D A _ => hD; rename va_S A s.heap H _ => hS
  obtain ⟨q11, rfl⟩ := hw
  replace hP : va_P D ZCL ((h0, .inr (3, [.ref q1, .ref q5, .int 0])) :: (q1, .inr (7, [.int 0, .int 0, .int 0, .ref q2, .ref q3, .ref q4])) :: (q2, .inl (cA 0, 3, .inl (fun _ => 0))) :: (q3, .inl (cA 0, 3, .inl (fun _ => 0))) :: (q4, .inl (cA 0, 3, .inl (fun _ => 0))) :: (q5, .inl (cA 4, 8, .inr (.inr (.inr (.inr (va_up (va_up (fun _ => none) 0 (some q6)) 1 (some q8))))))) :: (q6, .inr (4, [.int 0, .int 0, .ref q7])) :: (q7, .inl (cA 1, 462, .inr (.inl (fun _ => 0)))) :: (q8, .inr (4, [.int 0, .int 0, .ref q9])) :: (q9, .inl (cA 1, 462, .inr (.inl (fun _ => 0)))) :: (q10, .inr (4, [.int 0, .int 0, .ref q11])) :: (q11, .inl (cA 1, 462, .inr (.inl (fun _ => 0)))) :: ([] : va_W)) H := hP
  replace hD : va_D A ((h0, .inr (3, [.ref q1, .ref q5, .int 0])) :: (q1, .inr (7, [.int 0, .int 0, .int 0, .ref q2, .ref q3, .ref q4])) :: (q2, .inl (cA 0, 3, .inl (fun _ => 0))) :: (q3, .inl (cA 0, 3, .inl (fun _ => 0))) :: (q4, .inl (cA 0, 3, .inl (fun _ => 0))) :: (q5, .inl (cA 4, 8, .inr (.inr (.inr (.inr (va_up (va_up (fun _ => none) 0 (some q6)) 1 (some q8))))))) :: (q6, .inr (4, [.int 0, .int 0, .ref q7])) :: (q7, .inl (cA 1, 462, .inr (.inl (fun _ => 0)))) :: (q8, .inr (4, [.int 0, .int 0, .ref q9])) :: (q9, .inl (cA 1, 462, .inr (.inl (fun _ => 0)))) :: (q10, .inr (4, [.int 0, .int 0, .ref q11])) :: (q11, .inl (cA 1, 462, .inr (.inl (fun _ => 0)))) :: ([] : va_W)) := hD
  refine W.widen (k := 11) (n := 1418) (Nat.le_of_ble_eq_true rfl) (Nat.le_of_ble_eq_true rfl) ?_
  refine zaast X hP hD hS 5 10 rfl rfl (i := 2) (by decide) dX3_init_44 (fun H locs hP9 hD9 hS9 => ?_)
  clear hP hD hS; rename va_P D ZCL _ H => hP; rename va_D A _ => hD; rename va_S A s.heap H _ => hS
  replace hP : va_P D ZCL ((h0, .inr (3, [.ref q1, .ref q5, .int 0])) :: (q1, .inr (7, [.int 0, .int 0, .int 0, .ref q2, .ref q3, .ref q4])) :: (q2, .inl (cA 0, 3, .inl (fun _ => 0))) :: (q3, .inl (cA 0, 3, .inl (fun _ => 0))) :: (q4, .inl (cA 0, 3, .inl (fun _ => 0))) :: (q5, .inl (cA 4, 8, .inr (.inr (.inr (.inr (va_up (va_up (va_up (fun _ => none) 0 (some q6)) 1 (some q8)) 2 (some q10))))))) :: (q6, .inr (4, [.int 0, .int 0, .ref q7])) :: (q7, .inl (cA 1, 462, .inr (.inl (fun _ => 0)))) :: (q8, .inr (4, [.int 0, .int 0, .ref q9])) :: (q9, .inl (cA 1, 462, .inr (.inl (fun _ => 0)))) :: (q10, .inr (4, [.int 0, .int 0, .ref q11])) :: (q11, .inl (cA 1, 462, .inr (.inl (fun _ => 0)))) :: ([] : va_W)) H := hP
  replace hD : va_D A ((h0, .inr (3, [.ref q1, .ref q5, .int 0])) :: (q1, .inr (7, [.int 0, .int 0, .int 0, .ref q2, .ref q3, .ref q4])) :: (q2, .inl (cA 0, 3, .inl (fun _ => 0))) :: (q3, .inl (cA 0, 3, .inl (fun _ => 0))) :: (q4, .inl (cA 0, 3, .inl (fun _ => 0))) :: (q5, .inl (cA 4, 8, .inr (.inr (.inr (.inr (va_up (va_up (va_up (fun _ => none) 0 (some q6)) 1 (some q8)) 2 (some q10))))))) :: (q6, .inr (4, [.int 0, .int 0, .ref q7])) :: (q7, .inl (cA 1, 462, .inr (.inl (fun _ => 0)))) :: (q8, .inr (4, [.int 0, .int 0, .ref q9])) :: (q9, .inl (cA 1, 462, .inr (.inl (fun _ => 0)))) :: (q10, .inr (4, [.int 0, .int 0, .ref q11])) :: (q11, .inl (cA 1, 462, .inr (.inl (fun _ => 0)))) :: ([] : va_W)) := hD
  refine lv_iinc (v := 3) (lv' := [(1, .int 3), (0, .ref h0)]) hx hb dX3_init_45 hl (k := 0) rfl (by decide) (by decide) rfl (fun ls hl => ?_)
  refine lv_goto (tgt := 26) hx hb dX3_init_48 (by decide) ?_
  refine lv_iload_n hx hb dX3_init_26 rfl (lv_at hl 0 rfl) ?_
  refine lv_bipush (v := 8) hx hb dX3_init_27 (by decide) ?_
  refine lv_icmp_ge (tgt := 51) hx hb dX3_init_29 (by decide) (fun z => absurd z (by decide)) (fun _ => ?_)
  refine lv_aload_n hx hb dX3_init_32 rfl (lv_at hl 1 rfl) ?_
  refine zgetR X hP (C := RX3) (T := TX3) (NN := 3) (ci := 3) (v := .ref q5) in_X3 0 rfl rfl 1 (by decide) fl_X3_20 rfl dX3_init_33 ?_
  refine lv_iload_n hx hb dX3_init_36 rfl (lv_at hl 0 rfl) ?_
  refine znew X hP hD hS hA (C := RX4) (T := TX4) (NN := 3) (ci := 4) (fs := [.int 0, .int 0, .null]) in_X4 tyX4 tyX4_ok (tb_of (tq_1 68 rfl) rfl) (tb_of (tq_1 70 rfl) rfl) (tb_of (tq_1 4 rfl) rfl) rfl (by decide) ⟨Nat.le_of_ble_eq_true rfl, Nat.le_of_ble_eq_true rfl⟩ dX3_init_37 (fun q12 H hP9 hD9 hS9 => ?_)
  clear hP hD hS; rename va_P D ZCL _ H => hP; rename va_D A _ => hD; rename va_S A s.heap H _ => hS
  replace hP : va_P D ZCL ((h0, .inr (3, [.ref q1, .ref q5, .int 0])) :: (q1, .inr (7, [.int 0, .int 0, .int 0, .ref q2, .ref q3, .ref q4])) :: (q2, .inl (cA 0, 3, .inl (fun _ => 0))) :: (q3, .inl (cA 0, 3, .inl (fun _ => 0))) :: (q4, .inl (cA 0, 3, .inl (fun _ => 0))) :: (q5, .inl (cA 4, 8, .inr (.inr (.inr (.inr (va_up (va_up (va_up (fun _ => none) 0 (some q6)) 1 (some q8)) 2 (some q10))))))) :: (q6, .inr (4, [.int 0, .int 0, .ref q7])) :: (q7, .inl (cA 1, 462, .inr (.inl (fun _ => 0)))) :: (q8, .inr (4, [.int 0, .int 0, .ref q9])) :: (q9, .inl (cA 1, 462, .inr (.inl (fun _ => 0)))) :: (q10, .inr (4, [.int 0, .int 0, .ref q11])) :: (q11, .inl (cA 1, 462, .inr (.inl (fun _ => 0)))) :: (q12, .inr (4, [.int 0, .int 0, .null])) :: ([] : va_W)) H := hP
  replace hD : va_D A ((h0, .inr (3, [.ref q1, .ref q5, .int 0])) :: (q1, .inr (7, [.int 0, .int 0, .int 0, .ref q2, .ref q3, .ref q4])) :: (q2, .inl (cA 0, 3, .inl (fun _ => 0))) :: (q3, .inl (cA 0, 3, .inl (fun _ => 0))) :: (q4, .inl (cA 0, 3, .inl (fun _ => 0))) :: (q5, .inl (cA 4, 8, .inr (.inr (.inr (.inr (va_up (va_up (va_up (fun _ => none) 0 (some q6)) 1 (some q8)) 2 (some q10))))))) :: (q6, .inr (4, [.int 0, .int 0, .ref q7])) :: (q7, .inl (cA 1, 462, .inr (.inl (fun _ => 0)))) :: (q8, .inr (4, [.int 0, .int 0, .ref q9])) :: (q9, .inl (cA 1, 462, .inr (.inl (fun _ => 0)))) :: (q10, .inr (4, [.int 0, .int 0, .ref q11])) :: (q11, .inl (cA 1, 462, .inr (.inl (fun _ => 0)))) :: (q12, .inr (4, [.int 0, .int 0, .null])) :: ([] : va_W)) := hD
  refine W.widen (k := 12) (n := 1421) (Nat.le_of_ble_eq_true rfl) (Nat.le_of_ble_eq_true rfl) ?_
  refine lv_dup hx hb dX3_init_40 rfl ?_
  refine zcallI X hAO hl.1 hP hD hS hA (rest := [.ref q12, .int 3, .ref q5]) (ct_X4 (l := l)) cv_X4 (Or.inr (List.mem_filter.mpr ⟨tq_1 71 rfl, rfl⟩)) ⟨Nat.le_of_ble_eq_true rfl, Nat.le_of_ble_eq_true rfl⟩ ⟨Nat.le_of_ble_eq_true rfl, Nat.le_of_ble_eq_true rfl⟩ (Nat.le_of_ble_eq_true rfl) dX3_init_41 12 [0, 1, 2, 3, 4, 5, 6, 7, 8, 9, 10, 11] (wr := ((h0, .inr (3, [.ref q1, .ref q5, .int 0])) :: (q1, .inr (7, [.int 0, .int 0, .int 0, .ref q2, .ref q3, .ref q4])) :: (q2, .inl (cA 0, 3, .inl (fun _ => 0))) :: (q3, .inl (cA 0, 3, .inl (fun _ => 0))) :: (q4, .inl (cA 0, 3, .inl (fun _ => 0))) :: (q5, .inl (cA 4, 8, .inr (.inr (.inr (.inr (va_up (va_up (va_up (fun _ => none) 0 (some q6)) 1 (some q8)) 2 (some q10))))))) :: (q6, .inr (4, [.int 0, .int 0, .ref q7])) :: (q7, .inl (cA 1, 462, .inr (.inl (fun _ => 0)))) :: (q8, .inr (4, [.int 0, .int 0, .ref q9])) :: (q9, .inl (cA 1, 462, .inr (.inl (fun _ => 0)))) :: (q10, .inr (4, [.int 0, .int 0, .ref q11])) :: (q11, .inl (cA 1, 462, .inr (.inl (fun _ => 0)))) :: ([] : va_W))) rfl rfl rfl (by decide +kernel) (fun w H locs hw hP9 hD9 hS9 => ?_)
  clear hP hD hS; rename va_P D ZCL _ H => hP; rename va_D A _ => hD; rename va_S A s.heap H _ => hS
  obtain ⟨q13, rfl⟩ := hw
  replace hP : va_P D ZCL ((h0, .inr (3, [.ref q1, .ref q5, .int 0])) :: (q1, .inr (7, [.int 0, .int 0, .int 0, .ref q2, .ref q3, .ref q4])) :: (q2, .inl (cA 0, 3, .inl (fun _ => 0))) :: (q3, .inl (cA 0, 3, .inl (fun _ => 0))) :: (q4, .inl (cA 0, 3, .inl (fun _ => 0))) :: (q5, .inl (cA 4, 8, .inr (.inr (.inr (.inr (va_up (va_up (va_up (fun _ => none) 0 (some q6)) 1 (some q8)) 2 (some q10))))))) :: (q6, .inr (4, [.int 0, .int 0, .ref q7])) :: (q7, .inl (cA 1, 462, .inr (.inl (fun _ => 0)))) :: (q8, .inr (4, [.int 0, .int 0, .ref q9])) :: (q9, .inl (cA 1, 462, .inr (.inl (fun _ => 0)))) :: (q10, .inr (4, [.int 0, .int 0, .ref q11])) :: (q11, .inl (cA 1, 462, .inr (.inl (fun _ => 0)))) :: (q12, .inr (4, [.int 0, .int 0, .ref q13])) :: (q13, .inl (cA 1, 462, .inr (.inl (fun _ => 0)))) :: ([] : va_W)) H := hP
  replace hD : va_D A ((h0, .inr (3, [.ref q1, .ref q5, .int 0])) :: (q1, .inr (7, [.int 0, .int 0, .int 0, .ref q2, .ref q3, .ref q4])) :: (q2, .inl (cA 0, 3, .inl (fun _ => 0))) :: (q3, .inl (cA 0, 3, .inl (fun _ => 0))) :: (q4, .inl (cA 0, 3, .inl (fun _ => 0))) :: (q5, .inl (cA 4, 8, .inr (.inr (.inr (.inr (va_up (va_up (va_up (fun _ => none) 0 (some q6)) 1 (some q8)) 2 (some q10))))))) :: (q6, .inr (4, [.int 0, .int 0, .ref q7])) :: (q7, .inl (cA 1, 462, .inr (.inl (fun _ => 0)))) :: (q8, .inr (4, [.int 0, .int 0, .ref q9])) :: (q9, .inl (cA 1, 462, .inr (.inl (fun _ => 0)))) :: (q10, .inr (4, [.int 0, .int 0, .ref q11])) :: (q11, .inl (cA 1, 462, .inr (.inl (fun _ => 0)))) :: (q12, .inr (4, [.int 0, .int 0, .ref q13])) :: (q13, .inl (cA 1, 462, .inr (.inl (fun _ => 0)))) :: ([] : va_W)) := hD
  refine W.widen (k := 13) (n := 1883) (Nat.le_of_ble_eq_true rfl) (Nat.le_of_ble_eq_true rfl) ?_
  refine zaast X hP hD hS 5 12 rfl rfl (i := 3) (by decide) dX3_init_44 (fun H locs hP9 hD9 hS9 => ?_)
  clear hP hD hS; rename va_P D ZCL _ H => hP; rename va_D A _ => hD; rename va_S A s.heap H _ => hS
  replace hP : va_P D ZCL ((h0, .inr (3, [.ref q1, .ref q5, .int 0])) :: (q1, .inr (7, [.int 0, .int 0, .int 0, .ref q2, .ref q3, .ref q4])) :: (q2, .inl (cA 0, 3, .inl (fun _ => 0))) :: (q3, .inl (cA 0, 3, .inl (fun _ => 0))) :: (q4, .inl (cA 0, 3, .inl (fun _ => 0))) :: (q5, .inl (cA 4, 8, .inr (.inr (.inr (.inr (va_up (va_up (va_up (va_up (fun _ => none) 0 (some q6)) 1 (some q8)) 2 (some q10)) 3 (some q12))))))) :: (q6, .inr (4, [.int 0, .int 0, .ref q7])) :: (q7, .inl (cA 1, 462, .inr (.inl (fun _ => 0)))) :: (q8, .inr (4, [.int 0, .int 0, .ref q9])) :: (q9, .inl (cA 1, 462, .inr (.inl (fun _ => 0)))) :: (q10, .inr (4, [.int 0, .int 0, .ref q11])) :: (q11, .inl (cA 1, 462, .inr (.inl (fun _ => 0)))) :: (q12, .inr (4, [.int 0, .int 0, .ref q13])) :: (q13, .inl (cA 1, 462, .inr (.inl (fun _ => 0)))) :: ([] : va_W)) H := hP
  replace hD : va_D A ((h0, .inr (3, [.ref q1, .ref q5, .int 0])) :: (q1, .inr (7, [.int 0, .int 0, .int 0, .ref q2, .ref q3, .ref q4])) :: (q2, .inl (cA 0, 3, .inl (fun _ => 0))) :: (q3, .inl (cA 0, 3, .inl (fun _ => 0))) :: (q4, .inl (cA 0, 3, .inl (fun _ => 0))) :: (q5, .inl (cA 4, 8, .inr (.inr (.inr (.inr (va_up (va_up (va_up (va_up (fun _ => none) 0 (some q6)) 1 (some q8)) 2 (some q10)) 3 (some q12))))))) :: (q6, .inr (4, [.int 0, .int 0, .ref q7])) :: (q7, .inl (cA 1, 462, .inr (.inl (fun _ => 0)))) :: (q8, .inr (4, [.int 0, .int 0, .ref q9])) :: (q9, .inl (cA 1, 462, .inr (.inl (fun _ => 0)))) :: (q10, .inr (4, [.int 0, .int 0, .ref q11])) :: (q11, .inl (cA 1, 462, .inr (.inl (fun _ => 0)))) :: (q12, .inr (4, [.int 0, .int 0, .ref q13])) :: (q13, .inl (cA 1, 462, .inr (.inl (fun _ => 0)))) :: ([] : va_W)) := hD
  refine lv_iinc (v := 4) (lv' := [(1, .int 4), (0, .ref h0)]) hx hb dX3_init_45 hl (k := 0) rfl (by decide) (by decide) rfl (fun ls hl => ?_)
  refine lv_goto (tgt := 26) hx hb dX3_init_48 (by decide) ?_
  refine lv_iload_n hx hb dX3_init_26 rfl (lv_at hl 0 rfl) ?_
  refine lv_bipush (v := 8) hx hb dX3_init_27 (by decide) ?_
  refine lv_icmp_ge (tgt := 51) hx hb dX3_init_29 (by decide) (fun z => absurd z (by decide)) (fun _ => ?_)
  refine lv_aload_n hx hb dX3_init_32 rfl (lv_at hl 1 rfl) ?_
  refine zgetR X hP (C := RX3) (T := TX3) (NN := 3) (ci := 3) (v := .ref q5) in_X3 0 rfl rfl 1 (by decide) fl_X3_20 rfl dX3_init_33 ?_
  refine lv_iload_n hx hb dX3_init_36 rfl (lv_at hl 0 rfl) ?_
  refine znew X hP hD hS hA (C := RX4) (T := TX4) (NN := 3) (ci := 4) (fs := [.int 0, .int 0, .null]) in_X4 tyX4 tyX4_ok (tb_of (tq_1 68 rfl) rfl) (tb_of (tq_1 70 rfl) rfl) (tb_of (tq_1 4 rfl) rfl) rfl (by decide) ⟨Nat.le_of_ble_eq_true rfl, Nat.le_of_ble_eq_true rfl⟩ dX3_init_37 (fun q14 H hP9 hD9 hS9 => ?_)
  clear hP hD hS; rename va_P D ZCL _ H => hP; rename va_D A _ => hD; rename va_S A s.heap H _ => hS
  replace hP : va_P D ZCL ((h0, .inr (3, [.ref q1, .ref q5, .int 0])) :: (q1, .inr (7, [.int 0, .int 0, .int 0, .ref q2, .ref q3, .ref q4])) :: (q2, .inl (cA 0, 3, .inl (fun _ => 0))) :: (q3, .inl (cA 0, 3, .inl (fun _ => 0))) :: (q4, .inl (cA 0, 3, .inl (fun _ => 0))) :: (q5, .inl (cA 4, 8, .inr (.inr (.inr (.inr (va_up (va_up (va_up (va_up (fun _ => none) 0 (some q6)) 1 (some q8)) 2 (some q10)) 3 (some q12))))))) :: (q6, .inr (4, [.int 0, .int 0, .ref q7])) :: (q7, .inl (cA 1, 462, .inr (.inl (fun _ => 0)))) :: (q8, .inr (4, [.int 0, .int 0, .ref q9])) :: (q9, .inl (cA 1, 462, .inr (.inl (fun _ => 0)))) :: (q10, .inr (4, [.int 0, .int 0, .ref q11])) :: (q11, .inl (cA 1, 462, .inr (.inl (fun _ => 0)))) :: (q12, .inr (4, [.int 0, .int 0, .ref q13])) :: (q13, .inl (cA 1, 462, .inr (.inl (fun _ => 0)))) :: (q14, .inr (4, [.int 0, .int 0, .null])) :: ([] : va_W)) H := hP
  replace hD : va_D A ((h0, .inr (3, [.ref q1, .ref q5, .int 0])) :: (q1, .inr (7, [.int 0, .int 0, .int 0, .ref q2, .ref q3, .ref q4])) :: (q2, .inl (cA 0, 3, .inl (fun _ => 0))) :: (q3, .inl (cA 0, 3, .inl (fun _ => 0))) :: (q4, .inl (cA 0, 3, .inl (fun _ => 0))) :: (q5, .inl (cA 4, 8, .inr (.inr (.inr (.inr (va_up (va_up (va_up (va_up (fun _ => none) 0 (some q6)) 1 (some q8)) 2 (some q10)) 3 (some q12))))))) :: (q6, .inr (4, [.int 0, .int 0, .ref q7])) :: (q7, .inl (cA 1, 462, .inr (.inl (fun _ => 0)))) :: (q8, .inr (4, [.int 0, .int 0, .ref q9])) :: (q9, .inl (cA 1, 462, .inr (.inl (fun _ => 0)))) :: (q10, .inr (4, [.int 0, .int 0, .ref q11])) :: (q11, .inl (cA 1, 462, .inr (.inl (fun _ => 0)))) :: (q12, .inr (4, [.int 0, .int 0, .ref q13])) :: (q13, .inl (cA 1, 462, .inr (.inl (fun _ => 0)))) :: (q14, .inr (4, [.int 0, .int 0, .null])) :: ([] : va_W)) := hD
  refine W.widen (k := 14) (n := 1886) (Nat.le_of_ble_eq_true rfl) (Nat.le_of_ble_eq_true rfl) ?_
  refine lv_dup hx hb dX3_init_40 rfl ?_
  refine zcallI X hAO hl.1 hP hD hS hA (rest := [.ref q14, .int 4, .ref q5]) (ct_X4 (l := l)) cv_X4 (Or.inr (List.mem_filter.mpr ⟨tq_1 71 rfl, rfl⟩)) ⟨Nat.le_of_ble_eq_true rfl, Nat.le_of_ble_eq_true rfl⟩ ⟨Nat.le_of_ble_eq_true rfl, Nat.le_of_ble_eq_true rfl⟩ (Nat.le_of_ble_eq_true rfl) dX3_init_41 14 [0, 1, 2, 3, 4, 5, 6, 7, 8, 9, 10, 11, 12, 13] (wr := ((h0, .inr (3, [.ref q1, .ref q5, .int 0])) :: (q1, .inr (7, [.int 0, .int 0, .int 0, .ref q2, .ref q3, .ref q4])) :: (q2, .inl (cA 0, 3, .inl (fun _ => 0))) :: (q3, .inl (cA 0, 3, .inl (fun _ => 0))) :: (q4, .inl (cA 0, 3, .inl (fun _ => 0))) :: (q5, .inl (cA 4, 8, .inr (.inr (.inr (.inr (va_up (va_up (va_up (va_up (fun _ => none) 0 (some q6)) 1 (some q8)) 2 (some q10)) 3 (some q12))))))) :: (q6, .inr (4, [.int 0, .int 0, .ref q7])) :: (q7, .inl (cA 1, 462, .inr (.inl (fun _ => 0)))) :: (q8, .inr (4, [.int 0, .int 0, .ref q9])) :: (q9, .inl (cA 1, 462, .inr (.inl (fun _ => 0)))) :: (q10, .inr (4, [.int 0, .int 0, .ref q11])) :: (q11, .inl (cA 1, 462, .inr (.inl (fun _ => 0)))) :: (q12, .inr (4, [.int 0, .int 0, .ref q13])) :: (q13, .inl (cA 1, 462, .inr (.inl (fun _ => 0)))) :: ([] : va_W))) rfl rfl rfl (by decide +kernel) (fun w H locs hw hP9 hD9 hS9 => ?_)
  clear hP hD hS; rename va_P D ZCL _ H => hP; rename va_D A _ => hD; rename va_S A s.heap H _ => hS
  obtain ⟨q15, rfl⟩ := hw
  replace hP : va_P D ZCL ((h0, .inr (3, [.ref q1, .ref q5, .int 0])) :: (q1, .inr (7, [.int 0, .int 0, .int 0, .ref q2, .ref q3, .ref q4])) :: (q2, .inl (cA 0, 3, .inl (fun _ => 0))) :: (q3, .inl (cA 0, 3, .inl (fun _ => 0))) :: (q4, .inl (cA 0, 3, .inl (fun _ => 0))) :: (q5, .inl (cA 4, 8, .inr (.inr (.inr (.inr (va_up (va_up (va_up (va_up (fun _ => none) 0 (some q6)) 1 (some q8)) 2 (some q10)) 3 (some q12))))))) :: (q6, .inr (4, [.int 0, .int 0, .ref q7])) :: (q7, .inl (cA 1, 462, .inr (.inl (fun _ => 0)))) :: (q8, .inr (4, [.int 0, .int 0, .ref q9])) :: (q9, .inl (cA 1, 462, .inr (.inl (fun _ => 0)))) :: (q10, .inr (4, [.int 0, .int 0, .ref q11])) :: (q11, .inl (cA 1, 462, .inr (.inl (fun _ => 0)))) :: (q12, .inr (4, [.int 0, .int 0, .ref q13])) :: (q13, .inl (cA 1, 462, .inr (.inl (fun _ => 0)))) :: (q14, .inr (4, [.int 0, .int 0, .ref q15])) :: (q15, .inl (cA 1, 462, .inr (.inl (fun _ => 0)))) :: ([] : va_W)) H := hP
  replace hD : va_D A ((h0, .inr (3, [.ref q1, .ref q5, .int 0])) :: (q1, .inr (7, [.int 0, .int 0, .int 0, .ref q2, .ref q3, .ref q4])) :: (q2, .inl (cA 0, 3, .inl (fun _ => 0))) :: (q3, .inl (cA 0, 3, .inl (fun _ => 0))) :: (q4, .inl (cA 0, 3, .inl (fun _ => 0))) :: (q5, .inl (cA 4, 8, .inr (.inr (.inr (.inr (va_up (va_up (va_up (va_up (fun _ => none) 0 (some q6)) 1 (some q8)) 2 (some q10)) 3 (some q12))))))) :: (q6, .inr (4, [.int 0, .int 0, .ref q7])) :: (q7, .inl (cA 1, 462, .inr (.inl (fun _ => 0)))) :: (q8, .inr (4, [.int 0, .int 0, .ref q9])) :: (q9, .inl (cA 1, 462, .inr (.inl (fun _ => 0)))) :: (q10, .inr (4, [.int 0, .int 0, .ref q11])) :: (q11, .inl (cA 1, 462, .inr (.inl (fun _ => 0)))) :: (q12, .inr (4, [.int 0, .int 0, .ref q13])) :: (q13, .inl (cA 1, 462, .inr (.inl (fun _ => 0)))) :: (q14, .inr (4, [.int 0, .int 0, .ref q15])) :: (q15, .inl (cA 1, 462, .inr (.inl (fun _ => 0)))) :: ([] : va_W)) := hD
  refine W.widen (k := 15) (n := 2348) (Nat.le_of_ble_eq_true rfl) (Nat.le_of_ble_eq_true rfl) ?_
  refine zaast X hP hD hS 5 14 rfl rfl (i := 4) (by decide) dX3_init_44 (fun H locs hP9 hD9 hS9 => ?_)
  clear hP hD hS; rename va_P D ZCL _ H => hP; rename va_D A _ => hD; rename va_S A s.heap H _ => hS
  replace hP : va_P D ZCL ((h0, .inr (3, [.ref q1, .ref q5, .int 0])) :: (q1, .inr (7, [.int 0, .int 0, .int 0, .ref q2, .ref q3, .ref q4])) :: (q2, .inl (cA 0, 3, .inl (fun _ => 0))) :: (q3, .inl (cA 0, 3, .inl (fun _ => 0))) :: (q4, .inl (cA 0, 3, .inl (fun _ => 0))) :: (q5, .inl (cA 4, 8, .inr (.inr (.inr (.inr (va_up (va_up (va_up (va_up (va_up (fun _ => none) 0 (some q6)) 1 (some q8)) 2 (some q10)) 3 (some q12)) 4 (some q14))))))) :: (q6, .inr (4, [.int 0, .int 0, .ref q7])) :: (q7, .inl (cA 1, 462, .inr (.inl (fun _ => 0)))) :: (q8, .inr (4, [.int 0, .int 0, .ref q9])) :: (q9, .inl (cA 1, 462, .inr (.inl (fun _ => 0)))) :: (q10, .inr (4, [.int 0, .int 0, .ref q11])) :: (q11, .inl (cA 1, 462, .inr (.inl (fun _ => 0)))) :: (q12, .inr (4, [.int 0, .int 0, .ref q13])) :: (q13, .inl (cA 1, 462, .inr (.inl (fun _ => 0)))) :: (q14, .inr (4, [.int 0, .int 0, .ref q15])) :: (q15, .inl (cA 1, 462, .inr (.inl (fun _ => 0)))) :: ([] : va_W)) H := hP
  replace hD : va_D A ((h0, .inr (3, [.ref q1, .ref q5, .int 0])) :: (q1, .inr (7, [.int 0, .int 0, .int 0, .ref q2, .ref q3, .ref q4])) :: (q2, .inl (cA 0, 3, .inl (fun _ => 0))) :: (q3, .inl (cA 0, 3, .inl (fun _ => 0))) :: (q4, .inl (cA 0, 3, .inl (fun _ => 0))) :: (q5, .inl (cA 4, 8, .inr (.inr (.inr (.inr (va_up (va_up (va_up (va_up (va_up (fun _ => none) 0 (some q6)) 1 (some q8)) 2 (some q10)) 3 (some q12)) 4 (some q14))))))) :: (q6, .inr (4, [.int 0, .int 0, .ref q7])) :: (q7, .inl (cA 1, 462, .inr (.inl (fun _ => 0)))) :: (q8, .inr (4, [.int 0, .int 0, .ref q9])) :: (q9, .inl (cA 1, 462, .inr (.inl (fun _ => 0)))) :: (q10, .inr (4, [.int 0, .int 0, .ref q11])) :: (q11, .inl (cA 1, 462, .inr (.inl (fun _ => 0)))) :: (q12, .inr (4, [.int 0, .int 0, .ref q13])) :: (q13, .inl (cA 1, 462, .inr (.inl (fun _ => 0)))) :: (q14, .inr (4, [.int 0, .int 0, .ref q15])) :: (q15, .inl (cA 1, 462, .inr (.inl (fun _ => 0)))) :: ([] : va_W)) := hD
  refine lv_iinc (v := 5) (lv' := [(1, .int 5), (0, .ref h0)]) hx hb dX3_init_45 hl (k := 0) rfl (by decide) (by decide) rfl (fun ls hl => ?_)
  refine lv_goto (tgt := 26) hx hb dX3_init_48 (by decide) ?_
  refine lv_iload_n hx hb dX3_init_26 rfl (lv_at hl 0 rfl) ?_
  refine lv_bipush (v := 8) hx hb dX3_init_27 (by decide) ?_
  refine lv_icmp_ge (tgt := 51) hx hb dX3_init_29 (by decide) (fun z => absurd z (by decide)) (fun _ => ?_)
  refine lv_aload_n hx hb dX3_init_32 rfl (lv_at hl 1 rfl) ?_
  refine zgetR X hP (C := RX3) (T := TX3) (NN := 3) (ci := 3) (v := .ref q5) in_X3 0 rfl rfl 1 (by decide) fl_X3_20 rfl dX3_init_33 ?_
  refine lv_iload_n hx hb dX3_init_36 rfl (lv_at hl 0 rfl) ?_
  refine znew X hP hD hS hA (C := RX4) (T := TX4) (NN := 3) (ci := 4) (fs := [.int 0, .int 0, .null]) in_X4 tyX4 tyX4_ok (tb_of (tq_1 68 rfl) rfl) (tb_of (tq_1 70 rfl) rfl) (tb_of (tq_1 4 rfl) rfl) rfl (by decide) ⟨Nat.le_of_ble_eq_true rfl, Nat.le_of_ble_eq_true rfl⟩ dX3_init_37 (fun q16 H hP9 hD9 hS9 => ?_)
  clear hP hD hS; rename va_P D ZCL _ H => hP; rename va_D A _ => hD; rename va_S A s.heap H _ => hS
  replace hP : va_P D ZCL ((h0, .inr (3, [.ref q1, .ref q5, .int 0])) :: (q1, .inr (7, [.int 0, .int 0, .int 0, .ref q2, .ref q3, .ref q4])) :: (q2, .inl (cA 0, 3, .inl (fun _ => 0))) :: (q3, .inl (cA 0, 3, .inl (fun _ => 0))) :: (q4, .inl (cA 0, 3, .inl (fun _ => 0))) :: (q5, .inl (cA 4, 8, .inr (.inr (.inr (.inr (va_up (va_up (va_up (va_up (va_up (fun _ => none) 0 (some q6)) 1 (some q8)) 2 (some q10)) 3 (some q12)) 4 (some q14))))))) :: (q6, .inr (4, [.int 0, .int 0, .ref q7])) :: (q7, .inl (cA 1, 462, .inr (.inl (fun _ => 0)))) :: (q8, .inr (4, [.int 0, .int 0, .ref q9])) :: (q9, .inl (cA 1, 462, .inr (.inl (fun _ => 0)))) :: (q10, .inr (4, [.int 0, .int 0, .ref q11])) :: (q11, .inl (cA 1, 462, .inr (.inl (fun _ => 0)))) :: (q12, .inr (4, [.int 0, .int 0, .ref q13])) :: (q13, .inl (cA 1, 462, .inr (.inl (fun _ => 0)))) :: (q14, .inr (4, [.int 0, .int 0, .ref q15])) :: (q15, .inl (cA 1, 462, .inr (.inl (fun _ => 0)))) :: (q16, .inr (4, [.int 0, .int 0, .null])) :: ([] : va_W)) H := hP
  replace hD : va_D A ((h0, .inr (3, [.ref q1, .ref q5, .int 0])) :: (q1, .inr (7, [.int 0, .int 0, .int 0, .ref q2, .ref q3, .ref q4])) :: (q2, .inl (cA 0, 3, .inl (fun _ => 0))) :: (q3, .inl (cA 0, 3, .inl (fun _ => 0))) :: (q4, .inl (cA 0, 3, .inl (fun _ => 0))) :: (q5, .inl (cA 4, 8, .inr (.inr (.inr (.inr (va_up (va_up (va_up (va_up (va_up (fun _ => none) 0 (some q6)) 1 (some q8)) 2 (some q10)) 3 (some q12)) 4 (some q14))))))) :: (q6, .inr (4, [.int 0, .int 0, .ref q7])) :: (q7, .inl (cA 1, 462, .inr (.inl (fun _ => 0)))) :: (q8, .inr (4, [.int 0, .int 0, .ref q9])) :: (q9, .inl (cA 1, 462, .inr (.inl (fun _ => 0)))) :: (q10, .inr (4, [.int 0, .int 0, .ref q11])) :: (q11, .inl (cA 1, 462, .inr (.inl (fun _ => 0)))) :: (q12, .inr (4, [.int 0, .int 0, .ref q13])) :: (q13, .inl (cA 1, 462, .inr (.inl (fun _ => 0)))) :: (q14, .inr (4, [.int 0, .int 0, .ref q15])) :: (q15, .inl (cA 1, 462, .inr (.inl (fun _ => 0)))) :: (q16, .inr (4, [.int 0, .int 0, .null])) :: ([] : va_W)) := hD
  refine W.widen (k := 16) (n := 2351) (Nat.le_of_ble_eq_true rfl) (Nat.le_of_ble_eq_true rfl) ?_
  refine lv_dup hx hb dX3_init_40 rfl ?_
  refine zcallI X hAO hl.1 hP hD hS hA (rest := [.ref q16, .int 5, .ref q5]) (ct_X4 (l := l)) cv_X4 (Or.inr (List.mem_filter.mpr ⟨tq_1 71 rfl, rfl⟩)) ⟨Nat.le_of_ble_eq_true rfl, Nat.le_of_ble_eq_true rfl⟩ ⟨Nat.le_of_ble_eq_true rfl, Nat.le_of_ble_eq_true rfl⟩ (Nat.le_of_ble_eq_true rfl) dX3_init_41 16 [0, 1, 2, 3, 4, 5, 6, 7, 8, 9, 10, 11, 12, 13, 14, 15] (wr := ((h0, .inr (3, [.ref q1, .ref q5, .int 0])) :: (q1, .inr (7, [.int 0, .int 0, .int 0, .ref q2, .ref q3, .ref q4])) :: (q2, .inl (cA 0, 3, .inl (fun _ => 0))) :: (q3, .inl (cA 0, 3, .inl (fun _ => 0))) :: (q4, .inl (cA 0, 3, .inl (fun _ => 0))) :: (q5, .inl (cA 4, 8, .inr (.inr (.inr (.inr (va_up (va_up (va_up (va_up (va_up (fun _ => none) 0 (some q6)) 1 (some q8)) 2 (some q10)) 3 (some q12)) 4 (some q14))))))) :: (q6, .inr (4, [.int 0, .int 0, .ref q7])) :: (q7, .inl (cA 1, 462, .inr (.inl (fun _ => 0)))) :: (q8, .inr (4, [.int 0, .int 0, .ref q9])) :: (q9, .inl (cA 1, 462, .inr (.inl (fun _ => 0)))) :: (q10, .inr (4, [.int 0, .int 0, .ref q11])) :: (q11, .inl (cA 1, 462, .inr (.inl (fun _ => 0)))) :: (q12, .inr (4, [.int 0, .int 0, .ref q13])) :: (q13, .inl (cA 1, 462, .inr (.inl (fun _ => 0)))) :: (q14, .inr (4, [.int 0, .int 0, .ref q15])) :: (q15, .inl (cA 1, 462, .inr (.inl (fun _ => 0)))) :: ([] : va_W))) rfl rfl rfl (by decide +kernel) (fun w H locs hw hP9 hD9 hS9 => ?_)
  clear hP hD hS; rename va_P D ZCL _ H => hP; rename va_D A _ => hD; rename va_S A s.heap H _ => hS
  obtain ⟨q17, rfl⟩ := hw
  replace hP : va_P D ZCL ((h0, .inr (3, [.ref q1, .ref q5, .int 0])) :: (q1, .inr (7, [.int 0, .int 0, .int 0, .ref q2, .ref q3, .ref q4])) :: (q2, .inl (cA 0, 3, .inl (fun _ => 0))) :: (q3, .inl (cA 0, 3, .inl (fun _ => 0))) :: (q4, .inl (cA 0, 3, .inl (fun _ => 0))) :: (q5, .inl (cA 4, 8, .inr (.inr (.inr (.inr (va_up (va_up (va_up (va_up (va_up (fun _ => none) 0 (some q6)) 1 (some q8)) 2 (some q10)) 3 (some q12)) 4 (some q14))))))) :: (q6, .inr (4, [.int 0, .int 0, .ref q7])) :: (q7, .inl (cA 1, 462, .inr (.inl (fun _ => 0)))) :: (q8, .inr (4, [.int 0, .int 0, .ref q9])) :: (q9, .inl (cA 1, 462, .inr (.inl (fun _ => 0)))) :: (q10, .inr (4, [.int 0, .int 0, .ref q11])) :: (q11, .inl (cA 1, 462, .inr (.inl (fun _ => 0)))) :: (q12, .inr (4, [.int 0, .int 0, .ref q13])) :: (q13, .inl (cA 1, 462, .inr (.inl (fun _ => 0)))) :: (q14, .inr (4, [.int 0, .int 0, .ref q15])) :: (q15, .inl (cA 1, 462, .inr (.inl (fun _ => 0)))) :: (q16, .inr (4, [.int 0, .int 0, .ref q17])) :: (q17, .inl (cA 1, 462, .inr (.inl (fun _ => 0)))) :: ([] : va_W)) H := hP
  replace hD : va_D A ((h0, .inr (3, [.ref q1, .ref q5, .int 0])) :: (q1, .inr (7, [.int 0, .int 0, .int 0, .ref q2, .ref q3, .ref q4])) :: (q2, .inl (cA 0, 3, .inl (fun _ => 0))) :: (q3, .inl (cA 0, 3, .inl (fun _ => 0))) :: (q4, .inl (cA 0, 3, .inl (fun _ => 0))) :: (q5, .inl (cA 4, 8, .inr (.inr (.inr (.inr (va_up (va_up (va_up (va_up (va_up (fun _ => none) 0 (some q6)) 1 (some q8)) 2 (some q10)) 3 (some q12)) 4 (some q14))))))) :: (q6, .inr (4, [.int 0, .int 0, .ref q7])) :: (q7, .inl (cA 1, 462, .inr (.inl (fun _ => 0)))) :: (q8, .inr (4, [.int 0, .int 0, .ref q9])) :: (q9, .inl (cA 1, 462, .inr (.inl (fun _ => 0)))) :: (q10, .inr (4, [.int 0, .int 0, .ref q11])) :: (q11, .inl (cA 1, 462, .inr (.inl (fun _ => 0)))) :: (q12, .inr (4, [.int 0, .int 0, .ref q13])) :: (q13, .inl (cA 1, 462, .inr (.inl (fun _ => 0)))) :: (q14, .inr (4, [.int 0, .int 0, .ref q15])) :: (q15, .inl (cA 1, 462, .inr (.inl (fun _ => 0)))) :: (q16, .inr (4, [.int 0, .int 0, .ref q17])) :: (q17, .inl (cA 1, 462, .inr (.inl (fun _ => 0)))) :: ([] : va_W)) := hD
  refine W.widen (k := 17) (n := 2813) (Nat.le_of_ble_eq_true rfl) (Nat.le_of_ble_eq_true rfl) ?_
  refine zaast X hP hD hS 5 16 rfl rfl (i := 5) (by decide) dX3_init_44 (fun H locs hP9 hD9 hS9 => ?_)
  clear hP hD hS; rename va_P D ZCL _ H => hP; rename va_D A _ => hD; rename va_S A s.heap H _ => hS
  replace hP : va_P D ZCL ((h0, .inr (3, [.ref q1, .ref q5, .int 0])) :: (q1, .inr (7, [.int 0, .int 0, .int 0, .ref q2, .ref q3, .ref q4])) :: (q2, .inl (cA 0, 3, .inl (fun _ => 0))) :: (q3, .inl (cA 0, 3, .inl (fun _ => 0))) :: (q4, .inl (cA 0, 3, .inl (fun _ => 0))) :: (q5, .inl (cA 4, 8, .inr (.inr (.inr (.inr (va_up (va_up (va_up (va_up (va_up (va_up (fun _ => none) 0 (some q6)) 1 (some q8)) 2 (some q10)) 3 (some q12)) 4 (some q14)) 5 (some q16))))))) :: (q6, .inr (4, [.int 0, .int 0, .ref q7])) :: (q7, .inl (cA 1, 462, .inr (.inl (fun _ => 0)))) :: (q8, .inr (4, [.int 0, .int 0, .ref q9])) :: (q9, .inl (cA 1, 462, .inr (.inl (fun _ => 0)))) :: (q10, .inr (4, [.int 0, .int 0, .ref q11])) :: (q11, .inl (cA 1, 462, .inr (.inl (fun _ => 0)))) :: (q12, .inr (4, [.int 0, .int 0, .ref q13])) :: (q13, .inl (cA 1, 462, .inr (.inl (fun _ => 0)))) :: (q14, .inr (4, [.int 0, .int 0, .ref q15])) :: (q15, .inl (cA 1, 462, .inr (.inl (fun _ => 0)))) :: (q16, .inr (4, [.int 0, .int 0, .ref q17])) :: (q17, .inl (cA 1, 462, .inr (.inl (fun _ => 0)))) :: ([] : va_W)) H := hP
  replace hD : va_D A ((h0, .inr (3, [.ref q1, .ref q5, .int 0])) :: (q1, .inr (7, [.int 0, .int 0, .int 0, .ref q2, .ref q3, .ref q4])) :: (q2, .inl (cA 0, 3, .inl (fun _ => 0))) :: (q3, .inl (cA 0, 3, .inl (fun _ => 0))) :: (q4, .inl (cA 0, 3, .inl (fun _ => 0))) :: (q5, .inl (cA 4, 8, .inr (.inr (.inr (.inr (va_up (va_up (va_up (va_up (va_up (va_up (fun _ => none) 0 (some q6)) 1 (some q8)) 2 (some q10)) 3 (some q12)) 4 (some q14)) 5 (some q16))))))) :: (q6, .inr (4, [.int 0, .int 0, .ref q7])) :: (q7, .inl (cA 1, 462, .inr (.inl (fun _ => 0)))) :: (q8, .inr (4, [.int 0, .int 0, .ref q9])) :: (q9, .inl (cA 1, 462, .inr (.inl (fun _ => 0)))) :: (q10, .inr (4, [.int 0, .int 0, .ref q11])) :: (q11, .inl (cA 1, 462, .inr (.inl (fun _ => 0)))) :: (q12, .inr (4, [.int 0, .int 0, .ref q13])) :: (q13, .inl (cA 1, 462, .inr (.inl (fun _ => 0)))) :: (q14, .inr (4, [.int 0, .int 0, .ref q15])) :: (q15, .inl (cA 1, 462, .inr (.inl (fun _ => 0)))) :: (q16, .inr (4, [.int 0, .int 0, .ref q17])) :: (q17, .inl (cA 1, 462, .inr (.inl (fun _ => 0)))) :: ([] : va_W)) := hD
  refine lv_iinc (v := 6) (lv' := [(1, .int 6), (0, .ref h0)]) hx hb dX3_init_45 hl (k := 0) rfl (by decide) (by decide) rfl (fun ls hl => ?_)
  refine lv_goto (tgt := 26) hx hb dX3_init_48 (by decide) ?_
  refine lv_iload_n hx hb dX3_init_26 rfl (lv_at hl 0 rfl) ?_
  refine lv_bipush (v := 8) hx hb dX3_init_27 (by decide) ?_
  refine lv_icmp_ge (tgt := 51) hx hb dX3_init_29 (by decide) (fun z => absurd z (by decide)) (fun _ => ?_)
  refine lv_aload_n hx hb dX3_init_32 rfl (lv_at hl 1 rfl) ?_
  refine zgetR X hP (C := RX3) (T := TX3) (NN := 3) (ci := 3) (v := .ref q5) in_X3 0 rfl rfl 1 (by decide) fl_X3_20 rfl dX3_init_33 ?_
  refine lv_iload_n hx hb dX3_init_36 rfl (lv_at hl 0 rfl) ?_
  refine znew X hP hD hS hA (C := RX4) (T := TX4) (NN := 3) (ci := 4) (fs := [.int 0, .int 0, .null]) in_X4 tyX4 tyX4_ok (tb_of (tq_1 68 rfl) rfl) (tb_of (tq_1 70 rfl) rfl) (tb_of (tq_1 4 rfl) rfl) rfl (by decide) ⟨Nat.le_of_ble_eq_true rfl, Nat.le_of_ble_eq_true rfl⟩ dX3_init_37 (fun q18 H hP9 hD9 hS9 => ?_)
  clear hP hD hS; rename va_P D ZCL _ H => hP; rename va_D A _ => hD; rename va_S A s.heap H _ => hS
  replace hP : va_P D ZCL ((h0, .inr (3, [.ref q1, .ref q5, .int 0])) :: (q1, .inr (7, [.int 0, .int 0, .int 0, .ref q2, .ref q3, .ref q4])) :: (q2, .inl (cA 0, 3, .inl (fun _ => 0))) :: (q3, .inl (cA 0, 3, .inl (fun _ => 0))) :: (q4, .inl (cA 0, 3, .inl (fun _ => 0))) :: (q5, .inl (cA 4, 8, .inr (.inr (.inr (.inr (va_up (va_up (va_up (va_up (va_up (va_up (fun _ => none) 0 (some q6)) 1 (some q8)) 2 (some q10)) 3 (some q12)) 4 (some q14)) 5 (some q16))))))) :: (q6, .inr (4, [.int 0, .int 0, .ref q7])) :: (q7, .inl (cA 1, 462, .inr (.inl (fun _ => 0)))) :: (q8, .inr (4, [.int 0, .int 0, .ref q9])) :: (q9, .inl (cA 1, 462, .inr (.inl (fun _ => 0)))) :: (q10, .inr (4, [.int 0, .int 0, .ref q11])) :: (q11, .inl (cA 1, 462, .inr (.inl (fun _ => 0)))) :: (q12, .inr (4, [.int 0, .int 0, .ref q13])) :: (q13, .inl (cA 1, 462, .inr (.inl (fun _ => 0)))) :: (q14, .inr (4, [.int 0, .int 0, .ref q15])) :: (q15, .inl (cA 1, 462, .inr (.inl (fun _ => 0)))) :: (q16, .inr (4, [.int 0, .int 0, .ref q17])) :: (q17, .inl (cA 1, 462, .inr (.inl (fun _ => 0)))) :: (q18, .inr (4, [.int 0, .int 0, .null])) :: ([] : va_W)) H := hP
  replace hD : va_D A ((h0, .inr (3, [.ref q1, .ref q5, .int 0])) :: (q1, .inr (7, [.int 0, .int 0, .int 0, .ref q2, .ref q3, .ref q4])) :: (q2, .inl (cA 0, 3, .inl (fun _ => 0))) :: (q3, .inl (cA 0, 3, .inl (fun _ => 0))) :: (q4, .inl (cA 0, 3, .inl (fun _ => 0))) :: (q5, .inl (cA 4, 8, .inr (.inr (.inr (.inr (va_up (va_up (va_up (va_up (va_up (va_up (fun _ => none) 0 (some q6)) 1 (some q8)) 2 (some q10)) 3 (some q12)) 4 (some q14)) 5 (some q16))))))) :: (q6, .inr (4, [.int 0, .int 0, .ref q7])) :: (q7, .inl (cA 1, 462, .inr (.inl (fun _ => 0)))) :: (q8, .inr (4, [.int 0, .int 0, .ref q9])) :: (q9, .inl (cA 1, 462, .inr (.inl (fun _ => 0)))) :: (q10, .inr (4, [.int 0, .int 0, .ref q11])) :: (q11, .inl (cA 1, 462, .inr (.inl (fun _ => 0)))) :: (q12, .inr (4, [.int 0, .int 0, .ref q13])) :: (q13, .inl (cA 1, 462, .inr (.inl (fun _ => 0)))) :: (q14, .inr (4, [.int 0, .int 0, .ref q15])) :: (q15, .inl (cA 1, 462, .inr (.inl (fun _ => 0)))) :: (q16, .inr (4, [.int 0, .int 0, .ref q17])) :: (q17, .inl (cA 1, 462, .inr (.inl (fun _ => 0)))) :: (q18, .inr (4, [.int 0, .int 0, .null])) :: ([] : va_W)) := hD
  refine W.widen (k := 18) (n := 2816) (Nat.le_of_ble_eq_true rfl) (Nat.le_of_ble_eq_true rfl) ?_
  refine lv_dup hx hb dX3_init_40 rfl ?_
  refine zcallI X hAO hl.1 hP hD hS hA (rest := [.ref q18, .int 6, .ref q5]) (ct_X4 (l := l)) cv_X4 (Or.inr (List.mem_filter.mpr ⟨tq_1 71 rfl, rfl⟩)) ⟨Nat.le_of_ble_eq_true rfl, Nat.le_of_ble_eq_true rfl⟩ ⟨Nat.le_of_ble_eq_true rfl, Nat.le_of_ble_eq_true rfl⟩ (Nat.le_of_ble_eq_true rfl) dX3_init_41 18 [0, 1, 2, 3, 4, 5, 6, 7, 8, 9, 10, 11, 12, 13, 14, 15, 16, 17] (wr := ((h0, .inr (3, [.ref q1, .ref q5, .int 0])) :: (q1, .inr (7, [.int 0, .int 0, .int 0, .ref q2, .ref q3, .ref q4])) :: (q2, .inl (cA 0, 3, .inl (fun _ => 0))) :: (q3, .inl (cA 0, 3, .inl (fun _ => 0))) :: (q4, .inl (cA 0, 3, .inl (fun _ => 0))) :: (q5, .inl (cA 4, 8, .inr (.inr (.inr (.inr (va_up (va_up (va_up (va_up (va_up (va_up (fun _ => none) 0 (some q6)) 1 (some q8)) 2 (some q10)) 3 (some q12)) 4 (some q14)) 5 (some q16))))))) :: (q6, .inr (4, [.int 0, .int 0, .ref q7])) :: (q7, .inl (cA 1, 462, .inr (.inl (fun _ => 0)))) :: (q8, .inr (4, [.int 0, .int 0, .ref q9])) :: (q9, .inl (cA 1, 462, .inr (.inl (fun _ => 0)))) :: (q10, .inr (4, [.int 0, .int 0, .ref q11])) :: (q11, .inl (cA 1, 462, .inr (.inl (fun _ => 0)))) :: (q12, .inr (4, [.int 0, .int 0, .ref q13])) :: (q13, .inl (cA 1, 462, .inr (.inl (fun _ => 0)))) :: (q14, .inr (4, [.int 0, .int 0, .ref q15])) :: (q15, .inl (cA 1, 462, .inr (.inl (fun _ => 0)))) :: (q16, .inr (4, [.int 0, .int 0, .ref q17])) :: (q17, .inl (cA 1, 462, .inr (.inl (fun _ => 0)))) :: ([] : va_W))) rfl rfl rfl (by decide +kernel) (fun w H locs hw hP9 hD9 hS9 => ?_)
  clear hP hD hS; rename va_P D ZCL _ H => hP; rename va_D A _ => hD; rename va_S A s.heap H _ => hS
  obtain ⟨q19, rfl⟩ := hw
  replace hP : va_P D ZCL ((h0, .inr (3, [.ref q1, .ref q5, .int 0])) :: (q1, .inr (7, [.int 0, .int 0, .int 0, .ref q2, .ref q3, .ref q4])) :: (q2, .inl (cA 0, 3, .inl (fun _ => 0))) :: (q3, .inl (cA 0, 3, .inl (fun _ => 0))) :: (q4, .inl (cA 0, 3, .inl (fun _ => 0))) :: (q5, .inl (cA 4, 8, .inr (.inr (.inr (.inr (va_up (va_up (va_up (va_up (va_up (va_up (fun _ => none) 0 (some q6)) 1 (some q8)) 2 (some q10)) 3 (some q12)) 4 (some q14)) 5 (some q16))))))) :: (q6, .inr (4, [.int 0, .int 0, .ref q7])) :: (q7, .inl (cA 1, 462, .inr (.inl (fun _ => 0)))) :: (q8, .inr (4, [.int 0, .int 0, .ref q9])) :: (q9, .inl (cA 1, 462, .inr (.inl (fun _ => 0)))) :: (q10, .inr (4, [.int 0, .int 0, .ref q11])) :: (q11, .inl (cA 1, 462, .inr (.inl (fun _ => 0)))) :: (q12, .inr (4, [.int 0, .int 0, .ref q13])) :: (q13, .inl (cA 1, 462, .inr (.inl (fun _ => 0)))) :: (q14, .inr (4, [.int 0, .int 0, .ref q15])) :: (q15, .inl (cA 1, 462, .inr (.inl (fun _ => 0)))) :: (q16, .inr (4, [.int 0, .int 0, .ref q17])) :: (q17, .inl (cA 1, 462, .inr (.inl (fun _ => 0)))) :: (q18, .inr (4, [.int 0, .int 0, .ref q19])) :: (q19, .inl (cA 1, 462, .inr (.inl (fun _ => 0)))) :: ([] : va_W)) H := hP
  replace hD : va_D A ((h0, .inr (3, [.ref q1, .ref q5, .int 0])) :: (q1, .inr (7, [.int 0, .int 0, .int 0, .ref q2, .ref q3, .ref q4])) :: (q2, .inl (cA 0, 3, .inl (fun _ => 0))) :: (q3, .inl (cA 0, 3, .inl (fun _ => 0))) :: (q4, .inl (cA 0, 3, .inl (fun _ => 0))) :: (q5, .inl (cA 4, 8, .inr (.inr (.inr (.inr (va_up (va_up (va_up (va_up (va_up (va_up (fun _ => none) 0 (some q6)) 1 (some q8)) 2 (some q10)) 3 (some q12)) 4 (some q14)) 5 (some q16))))))) :: (q6, .inr (4, [.int 0, .int 0, .ref q7])) :: (q7, .inl (cA 1, 462, .inr (.inl (fun _ => 0)))) :: (q8, .inr (4, [.int 0, .int 0, .ref q9])) :: (q9, .inl (cA 1, 462, .inr (.inl (fun _ => 0)))) :: (q10, .inr (4, [.int 0, .int 0, .ref q11])) :: (q11, .inl (cA 1, 462, .inr (.inl (fun _ => 0)))) :: (q12, .inr (4, [.int 0, .int 0, .ref q13])) :: (q13, .inl (cA 1, 462, .inr (.inl (fun _ => 0)))) :: (q14, .inr (4, [.int 0, .int 0, .ref q15])) :: (q15, .inl (cA 1, 462, .inr (.inl (fun _ => 0)))) :: (q16, .inr (4, [.int 0, .int 0, .ref q17])) :: (q17, .inl (cA 1, 462, .inr (.inl (fun _ => 0)))) :: (q18, .inr (4, [.int 0, .int 0, .ref q19])) :: (q19, .inl (cA 1, 462, .inr (.inl (fun _ => 0)))) :: ([] : va_W)) := hD
  refine W.widen (k := 19) (n := 3278) (Nat.le_of_ble_eq_true rfl) (Nat.le_of_ble_eq_true rfl) ?_
  refine zaast X hP hD hS 5 18 rfl rfl (i := 6) (by decide) dX3_init_44 (fun H locs hP9 hD9 hS9 => ?_)
  clear hP hD hS; rename va_P D ZCL _ H => hP; rename va_D A _ => hD; rename va_S A s.heap H _ => hS
  replace hP : va_P D ZCL ((h0, .inr (3, [.ref q1, .ref q5, .int 0])) :: (q1, .inr (7, [.int 0, .int 0, .int 0, .ref q2, .ref q3, .ref q4])) :: (q2, .inl (cA 0, 3, .inl (fun _ => 0))) :: (q3, .inl (cA 0, 3, .inl (fun _ => 0))) :: (q4, .inl (cA 0, 3, .inl (fun _ => 0))) :: (q5, .inl (cA 4, 8, .inr (.inr (.inr (.inr (va_up (va_up (va_up (va_up (va_up (va_up (va_up (fun _ => none) 0 (some q6)) 1 (some q8)) 2 (some q10)) 3 (some q12)) 4 (some q14)) 5 (some q16)) 6 (some q18))))))) :: (q6, .inr (4, [.int 0, .int 0, .ref q7])) :: (q7, .inl (cA 1, 462, .inr (.inl (fun _ => 0)))) :: (q8, .inr (4, [.int 0, .int 0, .ref q9])) :: (q9, .inl (cA 1, 462, .inr (.inl (fun _ => 0)))) :: (q10, .inr (4, [.int 0, .int 0, .ref q11])) :: (q11, .inl (cA 1, 462, .inr (.inl (fun _ => 0)))) :: (q12, .inr (4, [.int 0, .int 0, .ref q13])) :: (q13, .inl (cA 1, 462, .inr (.inl (fun _ => 0)))) :: (q14, .inr (4, [.int 0, .int 0, .ref q15])) :: (q15, .inl (cA 1, 462, .inr (.inl (fun _ => 0)))) :: (q16, .inr (4, [.int 0, .int 0, .ref q17])) :: (q17, .inl (cA 1, 462, .inr (.inl (fun _ => 0)))) :: (q18, .inr (4, [.int 0, .int 0, .ref q19])) :: (q19, .inl (cA 1, 462, .inr (.inl (fun _ => 0)))) :: ([] : va_W)) H := hP
  replace hD : va_D A ((h0, .inr (3, [.ref q1, .ref q5, .int 0])) :: (q1, .inr (7, [.int 0, .int 0, .int 0, .ref q2, .ref q3, .ref q4])) :: (q2, .inl (cA 0, 3, .inl (fun _ => 0))) :: (q3, .inl (cA 0, 3, .inl (fun _ => 0))) :: (q4, .inl (cA 0, 3, .inl (fun _ => 0))) :: (q5, .inl (cA 4, 8, .inr (.inr (.inr (.inr (va_up (va_up (va_up (va_up (va_up (va_up (va_up (fun _ => none) 0 (some q6)) 1 (some q8)) 2 (some q10)) 3 (some q12)) 4 (some q14)) 5 (some q16)) 6 (some q18))))))) :: (q6, .inr (4, [.int 0, .int 0, .ref q7])) :: (q7, .inl (cA 1, 462, .inr (.inl (fun _ => 0)))) :: (q8, .inr (4, [.int 0, .int 0, .ref q9])) :: (q9, .inl (cA 1, 462, .inr (.inl (fun _ => 0)))) :: (q10, .inr (4, [.int 0, .int 0, .ref q11])) :: (q11, .inl (cA 1, 462, .inr (.inl (fun _ => 0)))) :: (q12, .inr (4, [.int 0, .int 0, .ref q13])) :: (q13, .inl (cA 1, 462, .inr (.inl (fun _ => 0)))) :: (q14, .inr (4, [.int 0, .int 0, .ref q15])) :: (q15, .inl (cA 1, 462, .inr (.inl (fun _ => 0)))) :: (q16, .inr (4, [.int 0, .int 0, .ref q17])) :: (q17, .inl (cA 1, 462, .inr (.inl (fun _ => 0)))) :: (q18, .inr (4, [.int 0, .int 0, .ref q19])) :: (q19, .inl (cA 1, 462, .inr (.inl (fun _ => 0)))) :: ([] : va_W)) := hD
  refine lv_iinc (v := 7) (lv' := [(1, .int 7), (0, .ref h0)]) hx hb dX3_init_45 hl (k := 0) rfl (by decide) (by decide) rfl (fun ls hl => ?_)
  refine lv_goto (tgt := 26) hx hb dX3_init_48 (by decide) ?_
  refine lv_iload_n hx hb dX3_init_26 rfl (lv_at hl 0 rfl) ?_
  refine lv_bipush (v := 8) hx hb dX3_init_27 (by decide) ?_
  refine lv_icmp_ge (tgt := 51) hx hb dX3_init_29 (by decide) (fun z => absurd z (by decide)) (fun _ => ?_)
  refine lv_aload_n hx hb dX3_init_32 rfl (lv_at hl 1 rfl) ?_
  refine zgetR X hP (C := RX3) (T := TX3) (NN := 3) (ci := 3) (v := .ref q5) in_X3 0 rfl rfl 1 (by decide) fl_X3_20 rfl dX3_init_33 ?_
  refine lv_iload_n hx hb dX3_init_36 rfl (lv_at hl 0 rfl) ?_
  refine znew X hP hD hS hA (C := RX4) (T := TX4) (NN := 3) (ci := 4) (fs := [.int 0, .int 0, .null]) in_X4 tyX4 tyX4_ok (tb_of (tq_1 68 rfl) rfl) (tb_of (tq_1 70 rfl) rfl) (tb_of (tq_1 4 rfl) rfl) rfl (by decide) ⟨Nat.le_of_ble_eq_true rfl, Nat.le_of_ble_eq_true rfl⟩ dX3_init_37 (fun q20 H hP9 hD9 hS9 => ?_)
  clear hP hD hS; rename va_P D ZCL _ H => hP; rename va_D A _ => hD; rename va_S A s.heap H _ => hS
  replace hP : va_P D ZCL ((h0, .inr (3, [.ref q1, .ref q5, .int 0])) :: (q1, .inr (7, [.int 0, .int 0, .int 0, .ref q2, .ref q3, .ref q4])) :: (q2, .inl (cA 0, 3, .inl (fun _ => 0))) :: (q3, .inl (cA 0, 3, .inl (fun _ => 0))) :: (q4, .inl (cA 0, 3, .inl (fun _ => 0))) :: (q5, .inl (cA 4, 8, .inr (.inr (.inr (.inr (va_up (va_up (va_up (va_up (va_up (va_up (va_up (fun _ => none) 0 (some q6)) 1 (some q8)) 2 (some q10)) 3 (some q12)) 4 (some q14)) 5 (some q16)) 6 (some q18))))))) :: (q6, .inr (4, [.int 0, .int 0, .ref q7])) :: (q7, .inl (cA 1, 462, .inr (.inl (fun _ => 0)))) :: (q8, .inr (4, [.int 0, .int 0, .ref q9])) :: (q9, .inl (cA 1, 462, .inr (.inl (fun _ => 0)))) :: (q10, .inr (4, [.int 0, .int 0, .ref q11])) :: (q11, .inl (cA 1, 462, .inr (.inl (fun _ => 0)))) :: (q12, .inr (4, [.int 0, .int 0, .ref q13])) :: (q13, .inl (cA 1, 462, .inr (.inl (fun _ => 0)))) :: (q14, .inr (4, [.int 0, .int 0, .ref q15])) :: (q15, .inl (cA 1, 462, .inr (.inl (fun _ => 0)))) :: (q16, .inr (4, [.int 0, .int 0, .ref q17])) :: (q17, .inl (cA 1, 462, .inr (.inl (fun _ => 0)))) :: (q18, .inr (4, [.int 0, .int 0, .ref q19])) :: (q19, .inl (cA 1, 462, .inr (.inl (fun _ => 0)))) :: (q20, .inr (4, [.int 0, .int 0, .null])) :: ([] : va_W)) H := hP
  replace hD : va_D A ((h0, .inr (3, [.ref q1, .ref q5, .int 0])) :: (q1, .inr (7, [.int 0, .int 0, .int 0, .ref q2, .ref q3, .ref q4])) :: (q2, .inl (cA 0, 3, .inl (fun _ => 0))) :: (q3, .inl (cA 0, 3, .inl (fun _ => 0))) :: (q4, .inl (cA 0, 3, .inl (fun _ => 0))) :: (q5, .inl (cA 4, 8, .inr (.inr (.inr (.inr (va_up (va_up (va_up (va_up (va_up (va_up (va_up (fun _ => none) 0 (some q6)) 1 (some q8)) 2 (some q10)) 3 (some q12)) 4 (some q14)) 5 (some q16)) 6 (some q18))))))) :: (q6, .inr (4, [.int 0, .int 0, .ref q7])) :: (q7, .inl (cA 1, 462, .inr (.inl (fun _ => 0)))) :: (q8, .inr (4, [.int 0, .int 0, .ref q9])) :: (q9, .inl (cA 1, 462, .inr (.inl (fun _ => 0)))) :: (q10, .inr (4, [.int 0, .int 0, .ref q11])) :: (q11, .inl (cA 1, 462, .inr (.inl (fun _ => 0)))) :: (q12, .inr (4, [.int 0, .int 0, .ref q13])) :: (q13, .inl (cA 1, 462, .inr (.inl (fun _ => 0)))) :: (q14, .inr (4, [.int 0, .int 0, .ref q15])) :: (q15, .inl (cA 1, 462, .inr (.inl (fun _ => 0)))) :: (q16, .inr (4, [.int 0, .int 0, .ref q17])) :: (q17, .inl (cA 1, 462, .inr (.inl (fun _ => 0)))) :: (q18, .inr (4, [.int 0, .int 0, .ref q19])) :: (q19, .inl (cA 1, 462, .inr (.inl (fun _ => 0)))) :: (q20, .inr (4, [.int 0, .int 0, .null])) :: ([] : va_W)) := hD
  refine W.widen (k := 20) (n := 3281) (Nat.le_of_ble_eq_true rfl) (Nat.le_of_ble_eq_true rfl) ?_
  refine lv_dup hx hb dX3_init_40 rfl ?_
  refine zcallI X hAO hl.1 hP hD hS hA (rest := [.ref q20, .int 7, .ref q5]) (ct_X4 (l := l)) cv_X4 (Or.inr (List.mem_filter.mpr ⟨tq_1 71 rfl, rfl⟩)) ⟨Nat.le_of_ble_eq_true rfl, Nat.le_of_ble_eq_true rfl⟩ ⟨Nat.le_of_ble_eq_true rfl, Nat.le_of_ble_eq_true rfl⟩ (Nat.le_of_ble_eq_true rfl) dX3_init_41 20 [0, 1, 2, 3, 4, 5, 6, 7, 8, 9, 10, 11, 12, 13, 14, 15, 16, 17, 18, 19] (wr := ((h0, .inr (3, [.ref q1, .ref q5, .int 0])) :: (q1, .inr (7, [.int 0, .int 0, .int 0, .ref q2, .ref q3, .ref q4])) :: (q2, .inl (cA 0, 3, .inl (fun _ => 0))) :: (q3, .inl (cA 0, 3, .inl (fun _ => 0))) :: (q4, .inl (cA 0, 3, .inl (fun _ => 0))) :: (q5, .inl (cA 4, 8, .inr (.inr (.inr (.inr (va_up (va_up (va_up (va_up (va_up (va_up (va_up (fun _ => none) 0 (some q6)) 1 (some q8)) 2 (some q10)) 3 (some q12)) 4 (some q14)) 5 (some q16)) 6 (some q18))))))) :: (q6, .inr (4, [.int 0, .int 0, .ref q7])) :: (q7, .inl (cA 1, 462, .inr (.inl (fun _ => 0)))) :: (q8, .inr (4, [.int 0, .int 0, .ref q9])) :: (q9, .inl (cA 1, 462, .inr (.inl (fun _ => 0)))) :: (q10, .inr (4, [.int 0, .int 0, .ref q11])) :: (q11, .inl (cA 1, 462, .inr (.inl (fun _ => 0)))) :: (q12, .inr (4, [.int 0, .int 0, .ref q13])) :: (q13, .inl (cA 1, 462, .inr (.inl (fun _ => 0)))) :: (q14, .inr (4, [.int 0, .int 0, .ref q15])) :: (q15, .inl (cA 1, 462, .inr (.inl (fun _ => 0)))) :: (q16, .inr (4, [.int 0, .int 0, .ref q17])) :: (q17, .inl (cA 1, 462, .inr (.inl (fun _ => 0)))) :: (q18, .inr (4, [.int 0, .int 0, .ref q19])) :: (q19, .inl (cA 1, 462, .inr (.inl (fun _ => 0)))) :: ([] : va_W))) rfl rfl rfl (by decide +kernel) (fun w H locs hw hP9 hD9 hS9 => ?_)
  clear hP hD hS; rename va_P D ZCL _ H => hP; rename va_D A _ => hD; rename va_S A s.heap H _ => hS
  obtain ⟨q21, rfl⟩ := hw
  replace hP : va_P D ZCL ((h0, .inr (3, [.ref q1, .ref q5, .int 0])) :: (q1, .inr (7, [.int 0, .int 0, .int 0, .ref q2, .ref q3, .ref q4])) :: (q2, .inl (cA 0, 3, .inl (fun _ => 0))) :: (q3, .inl (cA 0, 3, .inl (fun _ => 0))) :: (q4, .inl (cA 0, 3, .inl (fun _ => 0))) :: (q5, .inl (cA 4, 8, .inr (.inr (.inr (.inr (va_up (va_up (va_up (va_up (va_up (va_up (va_up (fun _ => none) 0 (some q6)) 1 (some q8)) 2 (some q10)) 3 (some q12)) 4 (some q14)) 5 (some q16)) 6 (some q18))))))) :: (q6, .inr (4, [.int 0, .int 0, .ref q7])) :: (q7, .inl (cA 1, 462, .inr (.inl (fun _ => 0)))) :: (q8, .inr (4, [.int 0, .int 0, .ref q9])) :: (q9, .inl (cA 1, 462, .inr (.inl (fun _ => 0)))) :: (q10, .inr (4, [.int 0, .int 0, .ref q11])) :: (q11, .inl (cA 1, 462, .inr (.inl (fun _ => 0)))) :: (q12, .inr (4, [.int 0, .int 0, .ref q13])) :: (q13, .inl (cA 1, 462, .inr (.inl (fun _ => 0)))) :: (q14, .inr (4, [.int 0, .int 0, .ref q15])) :: (q15, .inl (cA 1, 462, .inr (.inl (fun _ => 0)))) :: (q16, .inr (4, [.int 0, .int 0, .ref q17])) :: (q17, .inl (cA 1, 462, .inr (.inl (fun _ => 0)))) :: (q18, .inr (4, [.int 0, .int 0, .ref q19])) :: (q19, .inl (cA 1, 462, .inr (.inl (fun _ => 0)))) :: (q20, .inr (4, [.int 0, .int 0, .ref q21])) :: (q21, .inl (cA 1, 462, .inr (.inl (fun _ => 0)))) :: ([] : va_W)) H := hP
  replace hD : va_D A ((h0, .inr (3, [.ref q1, .ref q5, .int 0])) :: (q1, .inr (7, [.int 0, .int 0, .int 0, .ref q2, .ref q3, .ref q4])) :: (q2, .inl (cA 0, 3, .inl (fun _ => 0))) :: (q3, .inl (cA 0, 3, .inl (fun _ => 0))) :: (q4, .inl (cA 0, 3, .inl (fun _ => 0))) :: (q5, .inl (cA 4, 8, .inr (.inr (.inr (.inr (va_up (va_up (va_up (va_up (va_up (va_up (va_up (fun _ => none) 0 (some q6)) 1 (some q8)) 2 (some q10)) 3 (some q12)) 4 (some q14)) 5 (some q16)) 6 (some q18))))))) :: (q6, .inr (4, [.int 0, .int 0, .ref q7])) :: (q7, .inl (cA 1, 462, .inr (.inl (fun _ => 0)))) :: (q8, .inr (4, [.int 0, .int 0, .ref q9])) :: (q9, .inl (cA 1, 462, .inr (.inl (fun _ => 0)))) :: (q10, .inr (4, [.int 0, .int 0, .ref q11])) :: (q11, .inl (cA 1, 462, .inr (.inl (fun _ => 0)))) :: (q12, .inr (4, [.int 0, .int 0, .ref q13])) :: (q13, .inl (cA 1, 462, .inr (.inl (fun _ => 0)))) :: (q14, .inr (4, [.int 0, .int 0, .ref q15])) :: (q15, .inl (cA 1, 462, .inr (.inl (fun _ => 0)))) :: (q16, .inr (4, [.int 0, .int 0, .ref q17])) :: (q17, .inl (cA 1, 462, .inr (.inl (fun _ => 0)))) :: (q18, .inr (4, [.int 0, .int 0, .ref q19])) :: (q19, .inl (cA 1, 462, .inr (.inl (fun _ => 0)))) :: (q20, .inr (4, [.int 0, .int 0, .ref q21])) :: (q21, .inl (cA 1, 462, .inr (.inl (fun _ => 0)))) :: ([] : va_W)) := hD
  refine W.widen (k := 21) (n := 3743) (Nat.le_of_ble_eq_true rfl) (Nat.le_of_ble_eq_true rfl) ?_
  refine zaast X hP hD hS 5 20 rfl rfl (i := 7) (by decide) dX3_init_44 (fun H locs hP9 hD9 hS9 => ?_)
  clear hP hD hS; rename va_P D ZCL _ H => hP; rename va_D A _ => hD; rename va_S A s.heap H _ => hS
  replace hP : va_P D ZCL ((h0, .inr (3, [.ref q1, .ref q5, .int 0])) :: (q1, .inr (7, [.int 0, .int 0, .int 0, .ref q2, .ref q3, .ref q4])) :: (q2, .inl (cA 0, 3, .inl (fun _ => 0))) :: (q3, .inl (cA 0, 3, .inl (fun _ => 0))) :: (q4, .inl (cA 0, 3, .inl (fun _ => 0))) :: (q5, .inl (cA 4, 8, .inr (.inr (.inr (.inr (va_up (va_up (va_up (va_up (va_up (va_up (va_up (va_up (fun _ => none) 0 (some q6)) 1 (some q8)) 2 (some q10)) 3 (some q12)) 4 (some q14)) 5 (some q16)) 6 (some q18)) 7 (some q20))))))) :: (q6, .inr (4, [.int 0, .int 0, .ref q7])) :: (q7, .inl (cA 1, 462, .inr (.inl (fun _ => 0)))) :: (q8, .inr (4, [.int 0, .int 0, .ref q9])) :: (q9, .inl (cA 1, 462, .inr (.inl (fun _ => 0)))) :: (q10, .inr (4, [.int 0, .int 0, .ref q11])) :: (q11, .inl (cA 1, 462, .inr (.inl (fun _ => 0)))) :: (q12, .inr (4, [.int 0, .int 0, .ref q13])) :: (q13, .inl (cA 1, 462, .inr (.inl (fun _ => 0)))) :: (q14, .inr (4, [.int 0, .int 0, .ref q15])) :: (q15, .inl (cA 1, 462, .inr (.inl (fun _ => 0)))) :: (q16, .inr (4, [.int 0, .int 0, .ref q17])) :: (q17, .inl (cA 1, 462, .inr (.inl (fun _ => 0)))) :: (q18, .inr (4, [.int 0, .int 0, .ref q19])) :: (q19, .inl (cA 1, 462, .inr (.inl (fun _ => 0)))) :: (q20, .inr (4, [.int 0, .int 0, .ref q21])) :: (q21, .inl (cA 1, 462, .inr (.inl (fun _ => 0)))) :: ([] : va_W)) H := hP
  replace hD : va_D A ((h0, .inr (3, [.ref q1, .ref q5, .int 0])) :: (q1, .inr (7, [.int 0, .int 0, .int 0, .ref q2, .ref q3, .ref q4])) :: (q2, .inl (cA 0, 3, .inl (fun _ => 0))) :: (q3, .inl (cA 0, 3, .inl (fun _ => 0))) :: (q4, .inl (cA 0, 3, .inl (fun _ => 0))) :: (q5, .inl (cA 4, 8, .inr (.inr (.inr (.inr (va_up (va_up (va_up (va_up (va_up (va_up (va_up (va_up (fun _ => none) 0 (some q6)) 1 (some q8)) 2 (some q10)) 3 (some q12)) 4 (some q14)) 5 (some q16)) 6 (some q18)) 7 (some q20))))))) :: (q6, .inr (4, [.int 0, .int 0, .ref q7])) :: (q7, .inl (cA 1, 462, .inr (.inl (fun _ => 0)))) :: (q8, .inr (4, [.int 0, .int 0, .ref q9])) :: (q9, .inl (cA 1, 462, .inr (.inl (fun _ => 0)))) :: (q10, .inr (4, [.int 0, .int 0, .ref q11])) :: (q11, .inl (cA 1, 462, .inr (.inl (fun _ => 0)))) :: (q12, .inr (4, [.int 0, .int 0, .ref q13])) :: (q13, .inl (cA 1, 462, .inr (.inl (fun _ => 0)))) :: (q14, .inr (4, [.int 0, .int 0, .ref q15])) :: (q15, .inl (cA 1, 462, .inr (.inl (fun _ => 0)))) :: (q16, .inr (4, [.int 0, .int 0, .ref q17])) :: (q17, .inl (cA 1, 462, .inr (.inl (fun _ => 0)))) :: (q18, .inr (4, [.int 0, .int 0, .ref q19])) :: (q19, .inl (cA 1, 462, .inr (.inl (fun _ => 0)))) :: (q20, .inr (4, [.int 0, .int 0, .ref q21])) :: (q21, .inl (cA 1, 462, .inr (.inl (fun _ => 0)))) :: ([] : va_W)) := hD
  refine lv_iinc (v := 8) (lv' := [(1, .int 8), (0, .ref h0)]) hx hb dX3_init_45 hl (k := 0) rfl (by decide) (by decide) rfl (fun ls hl => ?_)
  refine lv_goto (tgt := 26) hx hb dX3_init_48 (by decide) ?_
  refine lv_iload_n hx hb dX3_init_26 rfl (lv_at hl 0 rfl) ?_
  refine lv_bipush (v := 8) hx hb dX3_init_27 (by decide) ?_
  refine lv_icmp_ge (tgt := 51) hx hb dX3_init_29 (by decide) (fun _ => ?_) (fun z => absurd (by decide) z)
  rw [zup8] at hP hD
  replace hP : va_P D ZCL ((h0, .inr (3, [.ref q1, .ref q5, .int 0])) :: (q1, .inr (7, [.int 0, .int 0, .int 0, .ref q2, .ref q3, .ref q4])) :: (q2, .inl (cA 0, 3, .inl (fun _ => 0))) :: (q3, .inl (cA 0, 3, .inl (fun _ => 0))) :: (q4, .inl (cA 0, 3, .inl (fun _ => 0))) :: (q5, .inl (cA 4, 8, .inr (.inr (.inr (.inr (fun j => ([q6, q8, q10, q12, q14, q16, q18, q20] : List Nat)[j]?)))))) :: (q6, .inr (4, [.int 0, .int 0, .ref q7])) :: (q7, .inl (cA 1, 462, .inr (.inl (fun _ => 0)))) :: (q8, .inr (4, [.int 0, .int 0, .ref q9])) :: (q9, .inl (cA 1, 462, .inr (.inl (fun _ => 0)))) :: (q10, .inr (4, [.int 0, .int 0, .ref q11])) :: (q11, .inl (cA 1, 462, .inr (.inl (fun _ => 0)))) :: (q12, .inr (4, [.int 0, .int 0, .ref q13])) :: (q13, .inl (cA 1, 462, .inr (.inl (fun _ => 0)))) :: (q14, .inr (4, [.int 0, .int 0, .ref q15])) :: (q15, .inl (cA 1, 462, .inr (.inl (fun _ => 0)))) :: (q16, .inr (4, [.int 0, .int 0, .ref q17])) :: (q17, .inl (cA 1, 462, .inr (.inl (fun _ => 0)))) :: (q18, .inr (4, [.int 0, .int 0, .ref q19])) :: (q19, .inl (cA 1, 462, .inr (.inl (fun _ => 0)))) :: (q20, .inr (4, [.int 0, .int 0, .ref q21])) :: (q21, .inl (cA 1, 462, .inr (.inl (fun _ => 0)))) :: ([] : va_W)) H := hP
  replace hD : va_D A ((h0, .inr (3, [.ref q1, .ref q5, .int 0])) :: (q1, .inr (7, [.int 0, .int 0, .int 0, .ref q2, .ref q3, .ref q4])) :: (q2, .inl (cA 0, 3, .inl (fun _ => 0))) :: (q3, .inl (cA 0, 3, .inl (fun _ => 0))) :: (q4, .inl (cA 0, 3, .inl (fun _ => 0))) :: (q5, .inl (cA 4, 8, .inr (.inr (.inr (.inr (fun j => ([q6, q8, q10, q12, q14, q16, q18, q20] : List Nat)[j]?)))))) :: (q6, .inr (4, [.int 0, .int 0, .ref q7])) :: (q7, .inl (cA 1, 462, .inr (.inl (fun _ => 0)))) :: (q8, .inr (4, [.int 0, .int 0, .ref q9])) :: (q9, .inl (cA 1, 462, .inr (.inl (fun _ => 0)))) :: (q10, .inr (4, [.int 0, .int 0, .ref q11])) :: (q11, .inl (cA 1, 462, .inr (.inl (fun _ => 0)))) :: (q12, .inr (4, [.int 0, .int 0, .ref q13])) :: (q13, .inl (cA 1, 462, .inr (.inl (fun _ => 0)))) :: (q14, .inr (4, [.int 0, .int 0, .ref q15])) :: (q15, .inl (cA 1, 462, .inr (.inl (fun _ => 0)))) :: (q16, .inr (4, [.int 0, .int 0, .ref q17])) :: (q17, .inl (cA 1, 462, .inr (.inl (fun _ => 0)))) :: (q18, .inr (4, [.int 0, .int 0, .ref q19])) :: (q19, .inl (cA 1, 462, .inr (.inl (fun _ => 0)))) :: (q20, .inr (4, [.int 0, .int 0, .ref q21])) :: (q21, .inl (cA 1, 462, .inr (.inl (fun _ => 0)))) :: ([] : va_W)) := hD
  exact zcret X hP hD hS ⟨q1, q2, q3, q4, q5, q6, q7, q8, q9, q10, q11, q12, q13, q14, q15, q16, q17, q18, q19, q20, q21, rfl⟩ dX3_init_51
theorem dX8_init_0 : decode cX8_init 0 = .ok (.aload_n 0, 1) := by decide +kernel
theorem dX8_init_1 : decode cX8_init 1 = .ok (.invokespecial 1, 3) := by decide +kernel
theorem dX8_init_4 : decode cX8_init 4 = .ok (.aload_n 0, 1) := by decide +kernel
theorem dX8_init_5 : decode cX8_init 5 = .ok (.new 7, 3) := by decide +kernel
theorem dX8_init_8 : decode cX8_init 8 = .ok (.dup, 1) := by decide +kernel
theorem dX8_init_9 : decode cX8_init 9 = .ok (.invokespecial 9, 3) := by decide +kernel
theorem dX8_init_12 : decode cX8_init 12 = .ok (.putfield 10, 3) := by decide +kernel
theorem dX8_init_15 : decode cX8_init 15 = .ok (.aload_n 0, 1) := by decide +kernel
theorem dX8_init_16 : decode cX8_init 16 = .ok (.sipush 462, 3) := by decide +kernel
theorem dX8_init_19 : decode cX8_init 19 = .ok (.newarray .long, 2) := by decide +kernel
theorem dX8_init_21 : decode cX8_init 21 = .ok (.putfield 16, 3) := by decide +kernel
theorem dX8_init_24 : decode cX8_init 24 = .ok (.aload_n 0, 1) := by decide +kernel
theorem dX8_init_25 : decode cX8_init 25 = .ok (.sipush 462, 3) := by decide +kernel
theorem dX8_init_28 : decode cX8_init 28 = .ok (.newarray .long, 2) := by decide +kernel
theorem dX8_init_30 : decode cX8_init 30 = .ok (.putfield 20, 3) := by decide +kernel
theorem dX8_init_33 : decode cX8_init 33 = .ok (.aload_n 0, 1) := by decide +kernel
theorem dX8_init_34 : decode cX8_init 34 = .ok (.sipush 462, 3) := by decide +kernel
theorem dX8_init_37 : decode cX8_init 37 = .ok (.newarray .long, 2) := by decide +kernel
theorem dX8_init_39 : decode cX8_init 39 = .ok (.putfield 23, 3) := by decide +kernel
theorem dX8_init_42 : decode cX8_init 42 = .ok (.aload_n 0, 1) := by decide +kernel
theorem dX8_init_43 : decode cX8_init 43 = .ok (.sipush 462, 3) := by decide +kernel
theorem dX8_init_46 : decode cX8_init 46 = .ok (.newarray .long, 2) := by decide +kernel
theorem dX8_init_48 : decode cX8_init 48 = .ok (.putfield 26, 3) := by decide +kernel
theorem dX8_init_51 : decode cX8_init 51 = .ok (.aload_n 0, 1) := by decide +kernel
theorem dX8_init_52 : decode cX8_init 52 = .ok (.sipush 462, 3) := by decide +kernel
theorem dX8_init_55 : decode cX8_init 55 = .ok (.newarray .long, 2) := by decide +kernel
theorem dX8_init_57 : decode cX8_init 57 = .ok (.putfield 29, 3) := by decide +kernel
theorem dX8_init_60 : decode cX8_init 60 = .ok (.aload_n 0, 1) := by decide +kernel
theorem dX8_init_61 : decode cX8_init 61 = .ok (.sipush 462, 3) := by decide +kernel
theorem dX8_init_64 : decode cX8_init 64 = .ok (.newarray .int, 2) := by decide +kernel
theorem dX8_init_66 : decode cX8_init 66 = .ok (.putfield 32, 3) := by decide +kernel
theorem dX8_init_69 : decode cX8_init 69 = .ok (.return_, 1) := by decide +kernel
theorem cv_X8 : zVi yX8_init cX8_init 1 RX8 := ⟨by decide +kernel, rfl, tb_of (tq_1 110 rfl) rfl, tb_of (tq_1 5 rfl) rfl, tb_of (tq_1 111 rfl) rfl⟩
set_option maxHeartbeats 4000000 in
set_option maxRecDepth 100000 in
theorem ct_X8 {cA : Nat → ClassId} {D : va_G} {E : Nat → Nat} {l : Launch} : zct cA D E l yX8_init cX8_init 1 2 14 5105 100 (.inr (8, [.null, .null, .null, .null, .null, .null, .null])) (fun h0 w => ∃ q1 q2 q3 q4 q5 q6 q7 q8 q9 q10 q11 q12 q13 q14 : Nat, w = ((h0, .inr (8, [.ref q1, .ref q9, .ref q10, .ref q11, .ref q12, .ref q13, .ref q14])) :: (q1, .inr (10, [.int 0, .int 0, .int 0, .ref q2, .ref q3, .ref q4, .ref q5, .ref q6, .ref q7, .ref q8])) :: (q2, .inl (cA 0, 462, .inl (fun _ => 0))) :: (q3, .inl (cA 0, 462, .inl (fun _ => 0))) :: (q4, .inl (cA 1, 462, .inr (.inl (fun _ => 0)))) :: (q5, .inl (cA 2, 462, .inl (fun _ => 0))) :: (q6, .inl (cA 0, 462, .inl (fun _ => 0))) :: (q7, .inl (cA 0, 7, .inl (fun _ => 0))) :: (q8, .inl (cA 0, 6, .inl (fun _ => 0))) :: (q9, .inl (cA 1, 462, .inr (.inl (fun _ => 0)))) :: (q10, .inl (cA 1, 462, .inr (.inl (fun _ => 0)))) :: (q11, .inl (cA 1, 462, .inr (.inl (fun _ => 0)))) :: (q12, .inl (cA 1, 462, .inr (.inl (fun _ => 0)))) :: (q13, .inl (cA 1, 462, .inr (.inl (fun _ => 0)))) :: (q14, .inl (cA 0, 462, .inl (fun _ => 0))) :: ([] : va_W))) := by
  refine zcstart (own := RX8) (by decide) rfl rfl (by decide) ?_
  intro p e s m args below meth c h0 A X hAO hinit hA hP hD ls hl
  have hx := X.1
  have hb := X.2.1
  have hS : va_S A s.heap s.heap [] := va_S.rf
  refine lv_aload_n hx hb dX8_init_0 rfl (lv_at hl 0 rfl) ?_
  refine zinit X hl.1 ml_X8_1 (tb_of (tq_1 27 rfl) rfl) (tb_of (tq_1 28 rfl) rfl) ⟨Nat.le_of_ble_eq_true rfl, Nat.le_of_ble_eq_true rfl⟩ dX8_init_1 ?_
  refine lv_aload_n hx hb dX8_init_4 rfl (lv_at hl 0 rfl) ?_
  refine znew X hP hD hS hA (C := RX10) (T := TX10) (NN := 10) (ci := 10) (fs := [.int 0, .int 0, .int 0, .null, .null, .null, .null, .null, .null, .null]) in_X10 tyX10 tyX10_ok (tb_of (tq_1 113 rfl) rfl) (tb_of (tq_1 114 rfl) rfl) (tb_of (tq_1 6 rfl) rfl) rfl (by decide) ⟨Nat.le_of_ble_eq_true rfl, Nat.le_of_ble_eq_true rfl⟩ dX8_init_5 (fun q1 H hP9 hD9 hS9 => ?_)
  clear hP hD hS; rename va_P D ZCL _ H => hP; rename va_D A _ => hD; rename va_S A s.heap H _ => hS
  replace hP : va_P D ZCL ((h0, .inr (8, [.null, .null, .null, .null, .null, .null, .null])) :: (q1, .inr (10, [.int 0, .int 0, .int 0, .null, .null, .null, .null, .null, .null, .null])) :: ([] : va_W)) H := hP
  replace hD : va_D A ((h0, .inr (8, [.null, .null, .null, .null, .null, .null, .null])) :: (q1, .inr (10, [.int 0, .int 0, .int 0, .null, .null, .null, .null, .null, .null, .null])) :: ([] : va_W)) := hD
  refine W.widen (k := 1) (n := 10) (Nat.le_of_ble_eq_true rfl) (Nat.le_of_ble_eq_true rfl) ?_
  refine lv_dup hx hb dX8_init_8 rfl ?_
  refine zcallI X hAO hl.1 hP hD hS hA (rest := [.ref q1, .ref h0]) (ct_X10 (l := l)) cv_X10 (Or.inr (List.mem_filter.mpr ⟨tq_1 115 rfl, rfl⟩)) ⟨Nat.le_of_ble_eq_true rfl, Nat.le_of_ble_eq_true rfl⟩ ⟨Nat.le_of_ble_eq_true rfl, Nat.le_of_ble_eq_true rfl⟩ (Nat.le_of_ble_eq_true rfl) dX8_init_9 1 [0] (wr := ((h0, .inr (8, [.null, .null, .null, .null, .null, .null, .null])) :: ([] : va_W))) rfl rfl rfl (by decide +kernel) (fun w H locs hw hP9 hD9 hS9 => ?_)
  clear hP hD hS; rename va_P D ZCL _ H => hP; rename va_D A _ => hD; rename va_S A s.heap H _ => hS
  obtain ⟨q2, q3, q4, q5, q6, q7, q8, rfl⟩ := hw
  replace hP : va_P D ZCL ((h0, .inr (8, [.null, .null, .null, .null, .null, .null, .null])) :: (q1, .inr (10, [.int 0, .int 0, .int 0, .ref q2, .ref q3, .ref q4, .ref q5, .ref q6, .ref q7, .ref q8])) :: (q2, .inl (cA 0, 462, .inl (fun _ => 0))) :: (q3, .inl (cA 0, 462, .inl (fun _ => 0))) :: (q4, .inl (cA 1, 462, .inr (.inl (fun _ => 0)))) :: (q5, .inl (cA 2, 462, .inl (fun _ => 0))) :: (q6, .inl (cA 0, 462, .inl (fun _ => 0))) :: (q7, .inl (cA 0, 7, .inl (fun _ => 0))) :: (q8, .inl (cA 0, 6, .inl (fun _ => 0))) :: ([] : va_W)) H := hP
  replace hD : va_D A ((h0, .inr (8, [.null, .null, .null, .null, .null, .null, .null])) :: (q1, .inr (10, [.int 0, .int 0, .int 0, .ref q2, .ref q3, .ref q4, .ref q5, .ref q6, .ref q7, .ref q8])) :: (q2, .inl (cA 0, 462, .inl (fun _ => 0))) :: (q3, .inl (cA 0, 462, .inl (fun _ => 0))) :: (q4, .inl (cA 1, 462, .inr (.inl (fun _ => 0)))) :: (q5, .inl (cA 2, 462, .inl (fun _ => 0))) :: (q6, .inl (cA 0, 462, .inl (fun _ => 0))) :: (q7, .inl (cA 0, 7, .inl (fun _ => 0))) :: (q8, .inl (cA 0, 6, .inl (fun _ => 0))) :: ([] : va_W)) := hD
  refine W.widen (k := 8) (n := 2333) (Nat.le_of_ble_eq_true rfl) (Nat.le_of_ble_eq_true rfl) ?_
  refine zputF X hinit hP hD hS (C := RX8) (T := TX8) (NN := 7) (ci := 8) in_X8 tyX8 tyX8_ok nmX8 0 rfl rfl 0 (by decide) fl_X8_10 rfl rfl (ty := (tyX8 0)) (by decide +kernel) rfl rfl (Nat.le_of_ble_eq_true rfl) dX8_init_12 (fun H locs hP9 hD9 hS9 => ?_)
  clear hP hD hS; rename va_P D ZCL _ H => hP; rename va_D A _ => hD; rename va_S A s.heap H _ => hS
  replace hP : va_P D ZCL ((h0, .inr (8, [.ref q1, .null, .null, .null, .null, .null, .null])) :: (q1, .inr (10, [.int 0, .int 0, .int 0, .ref q2, .ref q3, .ref q4, .ref q5, .ref q6, .ref q7, .ref q8])) :: (q2, .inl (cA 0, 462, .inl (fun _ => 0))) :: (q3, .inl (cA 0, 462, .inl (fun _ => 0))) :: (q4, .inl (cA 1, 462, .inr (.inl (fun _ => 0)))) :: (q5, .inl (cA 2, 462, .inl (fun _ => 0))) :: (q6, .inl (cA 0, 462, .inl (fun _ => 0))) :: (q7, .inl (cA 0, 7, .inl (fun _ => 0))) :: (q8, .inl (cA 0, 6, .inl (fun _ => 0))) :: ([] : va_W)) H := hP
  replace hD : va_D A ((h0, .inr (8, [.ref q1, .null, .null, .null, .null, .null, .null])) :: (q1, .inr (10, [.int 0, .int 0, .int 0, .ref q2, .ref q3, .ref q4, .ref q5, .ref q6, .ref q7, .ref q8])) :: (q2, .inl (cA 0, 462, .inl (fun _ => 0))) :: (q3, .inl (cA 0, 462, .inl (fun _ => 0))) :: (q4, .inl (cA 1, 462, .inr (.inl (fun _ => 0)))) :: (q5, .inl (cA 2, 462, .inl (fun _ => 0))) :: (q6, .inl (cA 0, 462, .inl (fun _ => 0))) :: (q7, .inl (cA 0, 7, .inl (fun _ => 0))) :: (q8, .inl (cA 0, 6, .inl (fun _ => 0))) :: ([] : va_W)) := hD
  refine lv_aload_n hx hb dX8_init_15 rfl (lv_at hl 0 rfl) ?_
  refine lv_sipush (v := 462) hx hb dX8_init_16 (by decide) ?_
  refine znewa_l X hP hD hS hA (tb_of (tq_1 93 rfl) rfl) (N' := 462) (by decide) (by decide) (Nat.le_of_ble_eq_true rfl) ⟨Nat.le_of_ble_eq_true rfl, Nat.le_of_ble_eq_true rfl⟩ dX8_init_19 (fun q9 H hP9 hD9 hS9 => ?_)
  clear hP hD hS; rename va_P D ZCL _ H => hP; rename va_D A _ => hD; rename va_S A s.heap H _ => hS
  replace hP : va_P D ZCL ((h0, .inr (8, [.ref q1, .null, .null, .null, .null, .null, .null])) :: (q1, .inr (10, [.int 0, .int 0, .int 0, .ref q2, .ref q3, .ref q4, .ref q5, .ref q6, .ref q7, .ref q8])) :: (q2, .inl (cA 0, 462, .inl (fun _ => 0))) :: (q3, .inl (cA 0, 462, .inl (fun _ => 0))) :: (q4, .inl (cA 1, 462, .inr (.inl (fun _ => 0)))) :: (q5, .inl (cA 2, 462, .inl (fun _ => 0))) :: (q6, .inl (cA 0, 462, .inl (fun _ => 0))) :: (q7, .inl (cA 0, 7, .inl (fun _ => 0))) :: (q8, .inl (cA 0, 6, .inl (fun _ => 0))) :: (q9, .inl (cA 1, 462, .inr (.inl (fun _ => 0)))) :: ([] : va_W)) H := hP
  replace hD : va_D A ((h0, .inr (8, [.ref q1, .null, .null, .null, .null, .null, .null])) :: (q1, .inr (10, [.int 0, .int 0, .int 0, .ref q2, .ref q3, .ref q4, .ref q5, .ref q6, .ref q7, .ref q8])) :: (q2, .inl (cA 0, 462, .inl (fun _ => 0))) :: (q3, .inl (cA 0, 462, .inl (fun _ => 0))) :: (q4, .inl (cA 1, 462, .inr (.inl (fun _ => 0)))) :: (q5, .inl (cA 2, 462, .inl (fun _ => 0))) :: (q6, .inl (cA 0, 462, .inl (fun _ => 0))) :: (q7, .inl (cA 0, 7, .inl (fun _ => 0))) :: (q8, .inl (cA 0, 6, .inl (fun _ => 0))) :: (q9, .inl (cA 1, 462, .inr (.inl (fun _ => 0)))) :: ([] : va_W)) := hD
  refine W.widen (k := 9) (n := 2795) (Nat.le_of_ble_eq_true rfl) (Nat.le_of_ble_eq_true rfl) ?_
  refine zputF X hinit hP hD hS (C := RX8) (T := TX8) (NN := 7) (ci := 8) in_X8 tyX8 tyX8_ok nmX8 0 rfl rfl 1 (by decide) fl_X8_16 rfl rfl (ty := (tyX8 1)) (by decide +kernel) rfl rfl (Nat.le_of_ble_eq_true rfl) dX8_init_21 (fun H locs hP9 hD9 hS9 => ?_)
  clear hP hD hS; rename va_P D ZCL _ H => hP; rename va_D A _ => hD; rename va_S A s.heap H _ => hS
  replace hP : va_P D ZCL ((h0, .inr (8, [.ref q1, .ref q9, .null, .null, .null, .null, .null])) :: (q1, .inr (10, [.int 0, .int 0, .int 0, .ref q2, .ref q3, .ref q4, .ref q5, .ref q6, .ref q7, .ref q8])) :: (q2, .inl (cA 0, 462, .inl (fun _ => 0))) :: (q3, .inl (cA 0, 462, .inl (fun _ => 0))) :: (q4, .inl (cA 1, 462, .inr (.inl (fun _ => 0)))) :: (q5, .inl (cA 2, 462, .inl (fun _ => 0))) :: (q6, .inl (cA 0, 462, .inl (fun _ => 0))) :: (q7, .inl (cA 0, 7, .inl (fun _ => 0))) :: (q8, .inl (cA 0, 6, .inl (fun _ => 0))) :: (q9, .inl (cA 1, 462, .inr (.inl (fun _ => 0)))) :: ([] : va_W)) H := hP
  replace hD : va_D A ((h0, .inr (8, [.ref q1, .ref q9, .null, .null, .null, .null, .null])) :: (q1, .inr (10, [.int 0, .int 0, .int 0, .ref q2, .ref q3, .ref q4, .ref q5, .ref q6, .ref q7, .ref q8])) :: (q2, .inl (cA 0, 462, .inl (fun _ => 0))) :: (q3, .inl (cA 0, 462, .inl (fun _ => 0))) :: (q4, .inl (cA 1, 462, .inr (.inl (fun _ => 0)))) :: (q5, .inl (cA 2, 462, .inl (fun _ => 0))) :: (q6, .inl (cA 0, 462, .inl (fun _ => 0))) :: (q7, .inl (cA 0, 7, .inl (fun _ => 0))) :: (q8, .inl (cA 0, 6, .inl (fun _ => 0))) :: (q9, .inl (cA 1, 462, .inr (.inl (fun _ => 0)))) :: ([] : va_W)) := hD
  refine lv_aload_n hx hb dX8_init_24 rfl (lv_at hl 0 rfl) ?_
  refine lv_sipush (v := 462) hx hb dX8_init_25 (by decide) ?_
  refine znewa_l X hP hD hS hA (tb_of (tq_1 93 rfl) rfl) (N' := 462) (by decide) (by decide) (Nat.le_of_ble_eq_true rfl) ⟨Nat.le_of_ble_eq_true rfl, Nat.le_of_ble_eq_true rfl⟩ dX8_init_28 (fun q10 H hP9 hD9 hS9 => ?_)
  clear hP hD hS; rename va_P D ZCL _ H => hP; rename va_D A _ => hD; rename va_S A s.heap H _ => hS
  replace hP : va_P D ZCL ((h0, .inr (8, [.ref q1, .ref q9, .null, .null, .null, .null, .null])) :: (q1, .inr (10, [.int 0, .int 0, .int 0, .ref q2, .ref q3, .ref q4, .ref q5, .ref q6, .ref q7, .ref q8])) :: (q2, .inl (cA 0, 462, .inl (fun _ => 0))) :: (q3, .inl (cA 0, 462, .inl (fun _ => 0))) :: (q4, .inl (cA 1, 462, .inr (.inl (fun _ => 0)))) :: (q5, .inl (cA 2, 462, .inl (fun _ => 0))) :: (q6, .inl (cA 0, 462, .inl (fun _ => 0))) :: (q7, .inl (cA 0, 7, .inl (fun _ => 0))) :: (q8, .inl (cA 0, 6, .inl (fun _ => 0))) :: (q9, .inl (cA 1, 462, .inr (.inl (fun _ => 0)))) :: (q10, .inl (cA 1, 462, .inr (.inl (fun _ => 0)))) :: ([] : va_W)) H := hP
  replace hD : va_D A ((h0, .inr (8, [.ref q1, .ref q9, .null, .null, .null, .null, .null])) :: (q1, .inr (10, [.int 0, .int 0, .int 0, .ref q2, .ref q3, .ref q4, .ref q5, .ref q6, .ref q7, .ref q8])) :: (q2, .inl (cA 0, 462, .inl (fun _ => 0))) :: (q3, .inl (cA 0, 462, .inl (fun _ => 0))) :: (q4, .inl (cA 1, 462, .inr (.inl (fun _ => 0)))) :: (q5, .inl (cA 2, 462, .inl (fun _ => 0))) :: (q6, .inl (cA 0, 462, .inl (fun _ => 0))) :: (q7, .inl (cA 0, 7, .inl (fun _ => 0))) :: (q8, .inl (cA 0, 6, .inl (fun _ => 0))) :: (q9, .inl (cA 1, 462, .inr (.inl (fun _ => 0)))) :: (q10, .inl (cA 1, 462, .inr (.inl (fun _ => 0)))) :: ([] : va_W)) := hD
  refine W.widen (k := 10) (n := 3257) (Nat.le_of_ble_eq_true rfl) (Nat.le_of_ble_eq_true rfl) ?_
  refine zputF X hinit hP hD hS (C := RX8) (T := TX8) (NN := 7) (ci := 8) in_X8 tyX8 tyX8_ok nmX8 0 rfl rfl 2 (by decide) fl_X8_20 rfl rfl (ty := (tyX8 2)) (by decide +kernel) rfl rfl (Nat.le_of_ble_eq_true rfl) dX8_init_30 (fun H locs hP9 hD9 hS9 => ?_)
  clear hP hD hS; rename va_P D ZCL _ H => hP; rename va_D A _ => hD; rename va_S A s.heap H _ => hS
  replace hP : va_P D ZCL ((h0, .inr (8, [.ref q1, .ref q9, .ref q10, .null, .null, .null, .null])) :: (q1, .inr (10, [.int 0, .int 0, .int 0, .ref q2, .ref q3, .ref q4, .ref q5, .ref q6, .ref q7, .ref q8])) :: (q2, .inl (cA 0, 462, .inl (fun _ => 0))) :: (q3, .inl (cA 0, 462, .inl (fun _ => 0))) :: (q4, .inl (cA 1, 462, .inr (.inl (fun _ => 0)))) :: (q5, .inl (cA 2, 462, .inl (fun _ => 0))) :: (q6, .inl (cA 0, 462, .inl (fun _ => 0))) :: (q7, .inl (cA 0, 7, .inl (fun _ => 0))) :: (q8, .inl (cA 0, 6, .inl (fun _ => 0))) :: (q9, .inl (cA 1, 462, .inr (.inl (fun _ => 0)))) :: (q10, .inl (cA 1, 462, .inr (.inl (fun _ => 0)))) :: ([] : va_W)) H := hP
  replace hD : va_D A ((h0, .inr (8, [.ref q1, .ref q9, .ref q10, .null, .null, .null, .null])) :: (q1, .inr (10, [.int 0, .int 0, .int 0, .ref q2, .ref q3, .ref q4, .ref q5, .ref q6, .ref q7, .ref q8])) :: (q2, .inl (cA 0, 462, .inl (fun _ => 0))) :: (q3, .inl (cA 0, 462, .inl (fun _ => 0))) :: (q4, .inl (cA 1, 462, .inr (.inl (fun _ => 0)))) :: (q5, .inl (cA 2, 462, .inl (fun _ => 0))) :: (q6, .inl (cA 0, 462, .inl (fun _ => 0))) :: (q7, .inl (cA 0, 7, .inl (fun _ => 0))) :: (q8, .inl (cA 0, 6, .inl (fun _ => 0))) :: (q9, .inl (cA 1, 462, .inr (.inl (fun _ => 0)))) :: (q10, .inl (cA 1, 462, .inr (.inl (fun _ => 0)))) :: ([] : va_W)) := hD
  refine lv_aload_n hx hb dX8_init_33 rfl (lv_at hl 0 rfl) ?_
  refine lv_sipush (v := 462) hx hb dX8_init_34 (by decide) ?_
  refine znewa_l X hP hD hS hA (tb_of (tq_1 93 rfl) rfl) (N' := 462) (by decide) (by decide) (Nat.le_of_ble_eq_true rfl) ⟨Nat.le_of_ble_eq_true rfl, Nat.le_of_ble_eq_true rfl⟩ dX8_init_37 (fun q11 H hP9 hD9 hS9 => ?_)
  clear hP hD hS; rename va_P D ZCL _ H => hP; rename va_D A _ => hD; rename va_S A s.heap H _ => hS
  replace hP : va_P D ZCL ((h0, .inr (8, [.ref q1, .ref q9, .ref q10, .null, .null, .null, .null])) :: (q1, .inr (10, [.int 0, .int 0, .int 0, .ref q2, .ref q3, .ref q4, .ref q5, .ref q6, .ref q7, .ref q8])) :: (q2, .inl (cA 0, 462, .inl (fun _ => 0))) :: (q3, .inl (cA 0, 462, .inl (fun _ => 0))) :: (q4, .inl (cA 1, 462, .inr (.inl (fun _ => 0)))) :: (q5, .inl (cA 2, 462, .inl (fun _ => 0))) :: (q6, .inl (cA 0, 462, .inl (fun _ => 0))) :: (q7, .inl (cA 0, 7, .inl (fun _ => 0))) :: (q8, .inl (cA 0, 6, .inl (fun _ => 0))) :: (q9, .inl (cA 1, 462, .inr (.inl (fun _ => 0)))) :: (q10, .inl (cA 1, 462, .inr (.inl (fun _ => 0)))) :: (q11, .inl (cA 1, 462, .inr (.inl (fun _ => 0)))) :: ([] : va_W)) H := hP
  replace hD : va_D A ((h0, .inr (8, [.ref q1, .ref q9, .ref q10, .null, .null, .null, .null])) :: (q1, .inr (10, [.int 0, .int 0, .int 0, .ref q2, .ref q3, .ref q4, .ref q5, .ref q6, .ref q7, .ref q8])) :: (q2, .inl (cA 0, 462, .inl (fun _ => 0))) :: (q3, .inl (cA 0, 462, .inl (fun _ => 0))) :: (q4, .inl (cA 1, 462, .inr (.inl (fun _ => 0)))) :: (q5, .inl (cA 2, 462, .inl (fun _ => 0))) :: (q6, .inl (cA 0, 462, .inl (fun _ => 0))) :: (q7, .inl (cA 0, 7, .inl (fun _ => 0))) :: (q8, .inl (cA 0, 6, .inl (fun _ => 0))) :: (q9, .inl (cA 1, 462, .inr (.inl (fun _ => 0)))) :: (q10, .inl (cA 1, 462, .inr (.inl (fun _ => 0)))) :: (q11, .inl (cA 1, 462, .inr (.inl (fun _ => 0)))) :: ([] : va_W)) := hD
  refine W.widen (k := 11) (n := 3719) (Nat.le_of_ble_eq_true rfl) (Nat.le_of_ble_eq_true rfl) ?_
  refine zputF X hinit hP hD hS (C := RX8) (T := TX8) (NN := 7) (ci := 8) in_X8 tyX8 tyX8_ok nmX8 0 rfl rfl 3 (by decide) fl_X8_23 rfl rfl (ty := (tyX8 3)) (by decide +kernel) rfl rfl (Nat.le_of_ble_eq_true rfl) dX8_init_39 (fun H locs hP9 hD9 hS9 => ?_)
  clear hP hD hS; rename va_P D ZCL _ H => hP; rename va_D A _ => hD; rename va_S A s.heap H _ => hS
  replace hP : va_P D ZCL ((h0, .inr (8, [.ref q1, .ref q9, .ref q10, .ref q11, .null, .null, .null])) :: (q1, .inr (10, [.int 0, .int 0, .int 0, .ref q2, .ref q3, .ref q4, .ref q5, .ref q6, .ref q7, .ref q8])) :: (q2, .inl (cA 0, 462, .inl (fun _ => 0))) :: (q3, .inl (cA 0, 462, .inl (fun _ => 0))) :: (q4, .inl (cA 1, 462, .inr (.inl (fun _ => 0)))) :: (q5, .inl (cA 2, 462, .inl (fun _ => 0))) :: (q6, .inl (cA 0, 462, .inl (fun _ => 0))) :: (q7, .inl (cA 0, 7, .inl (fun _ => 0))) :: (q8, .inl (cA 0, 6, .inl (fun _ => 0))) :: (q9, .inl (cA 1, 462, .inr (.inl (fun _ => 0)))) :: (q10, .inl (cA 1, 462, .inr (.inl (fun _ => 0)))) :: (q11, .inl (cA 1, 462, .inr (.inl (fun _ => 0)))) :: ([] : va_W)) H := hP
  replace hD : va_D A ((h0, .inr (8, [.ref q1, .ref q9, .ref q10, .ref q11, .null, .null, .null])) :: (q1, .inr (10, [.int 0, .int 0, .int 0, .ref q2, .ref q3, .ref q4, .ref q5, .ref q6, .ref q7, .ref q8])) :: (q2, .inl (cA 0, 462, .inl (fun _ => 0))) :: (q3, .inl (cA 0, 462, .inl (fun _ => 0))) :: (q4, .inl (cA 1, 462, .inr (.inl (fun _ => 0)))) :: (q5, .inl (cA 2, 462, .inl (fun _ => 0))) :: (q6, .inl (cA 0, 462, .inl (fun _ => 0))) :: (q7, .inl (cA 0, 7, .inl (fun _ => 0))) :: (q8, .inl (cA 0, 6, .inl (fun _ => 0))) :: (q9, .inl (cA 1, 462, .inr (.inl (fun _ => 0)))) :: (q10, .inl (cA 1, 462, .inr (.inl (fun _ => 0)))) :: (q11, .inl (cA 1, 462, .inr (.inl (fun _ => 0)))) :: ([] : va_W)) := hD
  refine lv_aload_n hx hb dX8_init_42 rfl (lv_at hl 0 rfl) ?_
  refine lv_sipush (v := 462) hx hb dX8_init_43 (by decide) ?_
  refine znewa_l X hP hD hS hA (tb_of (tq_1 93 rfl) rfl) (N' := 462) (by decide) (by decide) (Nat.le_of_ble_eq_true rfl) ⟨Nat.le_of_ble_eq_true rfl, Nat.le_of_ble_eq_true rfl⟩ dX8_init_46 (fun q12 H hP9 hD9 hS9 => ?_)
  clear hP hD hS; rename va_P D ZCL _ H => hP; rename va_D A _ => hD; rename va_S A s.heap H _ => hS
  replace hP : va_P D ZCL ((h0, .inr (8, [.ref q1, .ref q9, .ref q10, .ref q11, .null, .null, .null])) :: (q1, .inr (10, [.int 0, .int 0, .int 0, .ref q2, .ref q3, .ref q4, .ref q5, .ref q6, .ref q7, .ref q8])) :: (q2, .inl (cA 0, 462, .inl (fun _ => 0))) :: (q3, .inl (cA 0, 462, .inl (fun _ => 0))) :: (q4, .inl (cA 1, 462, .inr (.inl (fun _ => 0)))) :: (q5, .inl (cA 2, 462, .inl (fun _ => 0))) :: (q6, .inl (cA 0, 462, .inl (fun _ => 0))) :: (q7, .inl (cA 0, 7, .inl (fun _ => 0))) :: (q8, .inl (cA 0, 6, .inl (fun _ => 0))) :: (q9, .inl (cA 1, 462, .inr (.inl (fun _ => 0)))) :: (q10, .inl (cA 1, 462, .inr (.inl (fun _ => 0)))) :: (q11, .inl (cA 1, 462, .inr (.inl (fun _ => 0)))) :: (q12, .inl (cA 1, 462, .inr (.inl (fun _ => 0)))) :: ([] : va_W)) H := hP
  replace hD : va_D A ((h0, .inr (8, [.ref q1, .ref q9, .ref q10, .ref q11, .null, .null, .null])) :: (q1, .inr (10, [.int 0, .int 0, .int 0, .ref q2, .ref q3, .ref q4, .ref q5, .ref q6, .ref q7, .ref q8])) :: (q2, .inl (cA 0, 462, .inl (fun _ => 0))) :: (q3, .inl (cA 0, 462, .inl (fun _ => 0))) :: (q4, .inl (cA 1, 462, .inr (.inl (fun _ => 0)))) :: (q5, .inl (cA 2, 462, .inl (fun _ => 0))) :: (q6, .inl (cA 0, 462, .inl (fun _ => 0))) :: (q7, .inl (cA 0, 7, .inl (fun _ => 0))) :: (q8, .inl (cA 0, 6, .inl (fun _ => 0))) :: (q9, .inl (cA 1, 462, .inr (.inl (fun _ => 0)))) :: (q10, .inl (cA 1, 462, .inr (.inl (fun _ => 0)))) :: (q11, .inl (cA 1, 462, .inr (.inl (fun _ => 0)))) :: (q12, .inl (cA 1, 462, .inr (.inl (fun _ => 0)))) :: ([] : va_W)) := hD
  refine W.widen (k := 12) (n := 4181) (Nat.le_of_ble_eq_true rfl) (Nat.le_of_ble_eq_true rfl) ?_
  refine zputF X hinit hP hD hS (C := RX8) (T := TX8) (NN := 7) (ci := 8) in_X8 tyX8 tyX8_ok nmX8 0 rfl rfl 4 (by decide) fl_X8_26 rfl rfl (ty := (tyX8 4)) (by decide +kernel) rfl rfl (Nat.le_of_ble_eq_true rfl) dX8_init_48 (fun H locs hP9 hD9 hS9 => ?_)
  clear hP hD hS; rename va_P D ZCL _ H => hP; rename va_D A _ => hD; rename va_S A s.heap H _ => hS
  replace hP : va_P D ZCL ((h0, .inr (8, [.ref q1, .ref q9, .ref q10, .ref q11, .ref q12, .null, .null])) :: (q1, .inr (10, [.int 0, .int 0, .int 0, .ref q2, .ref q3, .ref q4, .ref q5, .ref q6, .ref q7, .ref q8])) :: (q2, .inl (cA 0, 462, .inl (fun _ => 0))) :: (q3, .inl (cA 0, 462, .inl (fun _ => 0))) :: (q4, .inl (cA 1, 462, .inr (.inl (fun _ => 0)))) :: (q5, .inl (cA 2, 462, .inl (fun _ => 0))) :: (q6, .inl (cA 0, 462, .inl (fun _ => 0))) :: (q7, .inl (cA 0, 7, .inl (fun _ => 0))) :: (q8, .inl (cA 0, 6, .inl (fun _ => 0))) :: (q9, .inl (cA 1, 462, .inr (.inl (fun _ => 0)))) :: (q10, .inl (cA 1, 462, .inr (.inl (fun _ => 0)))) :: (q11, .inl (cA 1, 462, .inr (.inl (fun _ => 0)))) :: (q12, .inl (cA 1, 462, .inr (.inl (fun _ => 0)))) :: ([] : va_W)) H := hP
  replace hD : va_D A ((h0, .inr (8, [.ref q1, .ref q9, .ref q10, .ref q11, .ref q12, .null, .null])) :: (q1, .inr (10, [.int 0, .int 0, .int 0, .ref q2, .ref q3, .ref q4, .ref q5, .ref q6, .ref q7, .ref q8])) :: (q2, .inl (cA 0, 462, .inl (fun _ => 0))) :: (q3, .inl (cA 0, 462, .inl (fun _ => 0))) :: (q4, .inl (cA 1, 462, .inr (.inl (fun _ => 0)))) :: (q5, .inl (cA 2, 462, .inl (fun _ => 0))) :: (q6, .inl (cA 0, 462, .inl (fun _ => 0))) :: (q7, .inl (cA 0, 7, .inl (fun _ => 0))) :: (q8, .inl (cA 0, 6, .inl (fun _ => 0))) :: (q9, .inl (cA 1, 462, .inr (.inl (fun _ => 0)))) :: (q10, .inl (cA 1, 462, .inr (.inl (fun _ => 0)))) :: (q11, .inl (cA 1, 462, .inr (.inl (fun _ => 0)))) :: (q12, .inl (cA 1, 462, .inr (.inl (fun _ => 0)))) :: ([] : va_W)) := hD
  refine lv_aload_n hx hb dX8_init_51 rfl (lv_at hl 0 rfl) ?_
  refine lv_sipush (v := 462) hx hb dX8_init_52 (by decide) ?_
  refine znewa_l X hP hD hS hA (tb_of (tq_1 93 rfl) rfl) (N' := 462) (by decide) (by decide) (Nat.le_of_ble_eq_true rfl) ⟨Nat.le_of_ble_eq_true rfl, Nat.le_of_ble_eq_true rfl⟩ dX8_init_55 (fun q13 H hP9 hD9 hS9 => ?_)
  clear hP hD hS; rename va_P D ZCL _ H => hP; rename va_D A _ => hD; rename va_S A s.heap H _ => hS
  replace hP : va_P D ZCL ((h0, .inr (8, [.ref q1, .ref q9, .ref q10, .ref q11, .ref q12, .null, .null])) :: (q1, .inr (10, [.int 0, .int 0, .int 0, .ref q2, .ref q3, .ref q4, .ref q5, .ref q6, .ref q7, .ref q8])) :: (q2, .inl (cA 0, 462, .inl (fun _ => 0))) :: (q3, .inl (cA 0, 462, .inl (fun _ => 0))) :: (q4, .inl (cA 1, 462, .inr (.inl (fun _ => 0)))) :: (q5, .inl (cA 2, 462, .inl (fun _ => 0))) :: (q6, .inl (cA 0, 462, .inl (fun _ => 0))) :: (q7, .inl (cA 0, 7, .inl (fun _ => 0))) :: (q8, .inl (cA 0, 6, .inl (fun _ => 0))) :: (q9, .inl (cA 1, 462, .inr (.inl (fun _ => 0)))) :: (q10, .inl (cA 1, 462, .inr (.inl (fun _ => 0)))) :: (q11, .inl (cA 1, 462, .inr (.inl (fun _ => 0)))) :: (q12, .inl (cA 1, 462, .inr (.inl (fun _ => 0)))) :: (q13, .inl (cA 1, 462, .inr (.inl (fun _ => 0)))) :: ([] : va_W)) H := hP
  replace hD : va_D A ((h0, .inr (8, [.ref q1, .ref q9, .ref q10, .ref q11, .ref q12, .null, .null])) :: (q1, .inr (10, [.int 0, .int 0, .int 0, .ref q2, .ref q3, .ref q4, .ref q5, .ref q6, .ref q7, .ref q8])) :: (q2, .inl (cA 0, 462, .inl (fun _ => 0))) :: (q3, .inl (cA 0, 462, .inl (fun _ => 0))) :: (q4, .inl (cA 1, 462, .inr (.inl (fun _ => 0)))) :: (q5, .inl (cA 2, 462, .inl (fun _ => 0))) :: (q6, .inl (cA 0, 462, .inl (fun _ => 0))) :: (q7, .inl (cA 0, 7, .inl (fun _ => 0))) :: (q8, .inl (cA 0, 6, .inl (fun _ => 0))) :: (q9, .inl (cA 1, 462, .inr (.inl (fun _ => 0)))) :: (q10, .inl (cA 1, 462, .inr (.inl (fun _ => 0)))) :: (q11, .inl (cA 1, 462, .inr (.inl (fun _ => 0)))) :: (q12, .inl (cA 1, 462, .inr (.inl (fun _ => 0)))) :: (q13, .inl (cA 1, 462, .inr (.inl (fun _ => 0)))) :: ([] : va_W)) := hD
  refine W.widen (k := 13) (n := 4643) (Nat.le_of_ble_eq_true rfl) (Nat.le_of_ble_eq_true rfl) ?_
  refine zputF X hinit hP hD hS (C := RX8) (T := TX8) (NN := 7) (ci := 8) in_X8 tyX8 tyX8_ok nmX8 0 rfl rfl 5 (by decide) fl_X8_29 rfl rfl (ty := (tyX8 5)) (by decide +kernel) rfl rfl (Nat.le_of_ble_eq_true rfl) dX8_init_57 (fun H locs hP9 hD9 hS9 => ?_)
  clear hP hD hS; rename va_P D ZCL _ H => hP; rename va_D A _ => hD; rename va_S A s.heap H _ => hS
  replace hP : va_P D ZCL ((h0, .inr (8, [.ref q1, .ref q9, .ref q10, .ref q11, .ref q12, .ref q13, .null])) :: (q1, .inr (10, [.int 0, .int 0, .int 0, .ref q2, .ref q3, .ref q4, .ref q5, .ref q6, .ref q7, .ref q8])) :: (q2, .inl (cA 0, 462, .inl (fun _ => 0))) :: (q3, .inl (cA 0, 462, .inl (fun _ => 0))) :: (q4, .inl (cA 1, 462, .inr (.inl (fun _ => 0)))) :: (q5, .inl (cA 2, 462, .inl (fun _ => 0))) :: (q6, .inl (cA 0, 462, .inl (fun _ => 0))) :: (q7, .inl (cA 0, 7, .inl (fun _ => 0))) :: (q8, .inl (cA 0, 6, .inl (fun _ => 0))) :: (q9, .inl (cA 1, 462, .inr (.inl (fun _ => 0)))) :: (q10, .inl (cA 1, 462, .inr (.inl (fun _ => 0)))) :: (q11, .inl (cA 1, 462, .inr (.inl (fun _ => 0)))) :: (q12, .inl (cA 1, 462, .inr (.inl (fun _ => 0)))) :: (q13, .inl (cA 1, 462, .inr (.inl (fun _ => 0)))) :: ([] : va_W)) H := hP
  replace hD : va_D A ((h0, .inr (8, [.ref q1, .ref q9, .ref q10, .ref q11, .ref q12, .ref q13, .null])) :: (q1, .inr (10, [.int 0, .int 0, .int 0, .ref q2, .ref q3, .ref q4, .ref q5, .ref q6, .ref q7, .ref q8])) :: (q2, .inl (cA 0, 462, .inl (fun _ => 0))) :: (q3, .inl (cA 0, 462, .inl (fun _ => 0))) :: (q4, .inl (cA 1, 462, .inr (.inl (fun _ => 0)))) :: (q5, .inl (cA 2, 462, .inl (fun _ => 0))) :: (q6, .inl (cA 0, 462, .inl (fun _ => 0))) :: (q7, .inl (cA 0, 7, .inl (fun _ => 0))) :: (q8, .inl (cA 0, 6, .inl (fun _ => 0))) :: (q9, .inl (cA 1, 462, .inr (.inl (fun _ => 0)))) :: (q10, .inl (cA 1, 462, .inr (.inl (fun _ => 0)))) :: (q11, .inl (cA 1, 462, .inr (.inl (fun _ => 0)))) :: (q12, .inl (cA 1, 462, .inr (.inl (fun _ => 0)))) :: (q13, .inl (cA 1, 462, .inr (.inl (fun _ => 0)))) :: ([] : va_W)) := hD
  refine lv_aload_n hx hb dX8_init_60 rfl (lv_at hl 0 rfl) ?_
  refine lv_sipush (v := 462) hx hb dX8_init_61 (by decide) ?_
  refine znewa_i X hP hD hS hA (tb_of (tq_1 67 rfl) rfl) (N' := 462) (by decide) (by decide) (Nat.le_of_ble_eq_true rfl) ⟨Nat.le_of_ble_eq_true rfl, Nat.le_of_ble_eq_true rfl⟩ dX8_init_64 (fun q14 H hP9 hD9 hS9 => ?_)
  clear hP hD hS; rename va_P D ZCL _ H => hP; rename va_D A _ => hD; rename va_S A s.heap H _ => hS
  replace hP : va_P D ZCL ((h0, .inr (8, [.ref q1, .ref q9, .ref q10, .ref q11, .ref q12, .ref q13, .null])) :: (q1, .inr (10, [.int 0, .int 0, .int 0, .ref q2, .ref q3, .ref q4, .ref q5, .ref q6, .ref q7, .ref q8])) :: (q2, .inl (cA 0, 462, .inl (fun _ => 0))) :: (q3, .inl (cA 0, 462, .inl (fun _ => 0))) :: (q4, .inl (cA 1, 462, .inr (.inl (fun _ => 0)))) :: (q5, .inl (cA 2, 462, .inl (fun _ => 0))) :: (q6, .inl (cA 0, 462, .inl (fun _ => 0))) :: (q7, .inl (cA 0, 7, .inl (fun _ => 0))) :: (q8, .inl (cA 0, 6, .inl (fun _ => 0))) :: (q9, .inl (cA 1, 462, .inr (.inl (fun _ => 0)))) :: (q10, .inl (cA 1, 462, .inr (.inl (fun _ => 0)))) :: (q11, .inl (cA 1, 462, .inr (.inl (fun _ => 0)))) :: (q12, .inl (cA 1, 462, .inr (.inl (fun _ => 0)))) :: (q13, .inl (cA 1, 462, .inr (.inl (fun _ => 0)))) :: (q14, .inl (cA 0, 462, .inl (fun _ => 0))) :: ([] : va_W)) H := hP
  replace hD : va_D A ((h0, .inr (8, [.ref q1, .ref q9, .ref q10, .ref q11, .ref q12, .ref q13, .null])) :: (q1, .inr (10, [.int 0, .int 0, .int 0, .ref q2, .ref q3, .ref q4, .ref q5, .ref q6, .ref q7, .ref q8])) :: (q2, .inl (cA 0, 462, .inl (fun _ => 0))) :: (q3, .inl (cA 0, 462, .inl (fun _ => 0))) :: (q4, .inl (cA 1, 462, .inr (.inl (fun _ => 0)))) :: (q5, .inl (cA 2, 462, .inl (fun _ => 0))) :: (q6, .inl (cA 0, 462, .inl (fun _ => 0))) :: (q7, .inl (cA 0, 7, .inl (fun _ => 0))) :: (q8, .inl (cA 0, 6, .inl (fun _ => 0))) :: (q9, .inl (cA 1, 462, .inr (.inl (fun _ => 0)))) :: (q10, .inl (cA 1, 462, .inr (.inl (fun _ => 0)))) :: (q11, .inl (cA 1, 462, .inr (.inl (fun _ => 0)))) :: (q12, .inl (cA 1, 462, .inr (.inl (fun _ => 0)))) :: (q13, .inl (cA 1, 462, .inr (.inl (fun _ => 0)))) :: (q14, .inl (cA 0, 462, .inl (fun _ => 0))) :: ([] : va_W)) := hD
  refine W.widen (k := 14) (n := 5105) (Nat.le_of_ble_eq_true rfl) (Nat.le_of_ble_eq_true rfl) ?_
  refine zputF X hinit hP hD hS (C := RX8) (T := TX8) (NN := 7) (ci := 8) in_X8 tyX8 tyX8_ok nmX8 0 rfl rfl 6 (by decide) fl_X8_32 rfl rfl (ty := (tyX8 6)) (by decide +kernel) rfl rfl (Nat.le_of_ble_eq_true rfl) dX8_init_66 (fun H locs hP9 hD9 hS9 => ?_)
  clear hP hD hS; rename va_P D ZCL _ H => hP; rename va_D A _ => hD; rename va_S A s.heap H _ => hS
  replace hP : va_P D ZCL ((h0, .inr (8, [.ref q1, .ref q9, .ref q10, .ref q11, .ref q12, .ref q13, .ref q14])) :: (q1, .inr (10, [.int 0, .int 0, .int 0, .ref q2, .ref q3, .ref q4, .ref q5, .ref q6, .ref q7, .ref q8])) :: (q2, .inl (cA 0, 462, .inl (fun _ => 0))) :: (q3, .inl (cA 0, 462, .inl (fun _ => 0))) :: (q4, .inl (cA 1, 462, .inr (.inl (fun _ => 0)))) :: (q5, .inl (cA 2, 462, .inl (fun _ => 0))) :: (q6, .inl (cA 0, 462, .inl (fun _ => 0))) :: (q7, .inl (cA 0, 7, .inl (fun _ => 0))) :: (q8, .inl (cA 0, 6, .inl (fun _ => 0))) :: (q9, .inl (cA 1, 462, .inr (.inl (fun _ => 0)))) :: (q10, .inl (cA 1, 462, .inr (.inl (fun _ => 0)))) :: (q11, .inl (cA 1, 462, .inr (.inl (fun _ => 0)))) :: (q12, .inl (cA 1, 462, .inr (.inl (fun _ => 0)))) :: (q13, .inl (cA 1, 462, .inr (.inl (fun _ => 0)))) :: (q14, .inl (cA 0, 462, .inl (fun _ => 0))) :: ([] : va_W)) H := hP
  replace hD : va_D A ((h0, .inr (8, [.ref q1, .ref q9, .ref q10, .ref q11, .ref q12, .ref q13, .ref q14])) :: (q1, .inr (10, [.int 0, .int 0, .int 0, .ref q2, .ref q3, .ref q4, .ref q5, .ref q6, .ref q7, .ref q8])) :: (q2, .inl (cA 0, 462, .inl (fun _ => 0))) :: (q3, .inl (cA 0, 462, .inl (fun _ => 0))) :: (q4, .inl (cA 1, 462, .inr (.inl (fun _ => 0)))) :: (q5, .inl (cA 2, 462, .inl (fun _ => 0))) :: (q6, .inl (cA 0, 462, .inl (fun _ => 0))) :: (q7, .inl (cA 0, 7, .inl (fun _ => 0))) :: (q8, .inl (cA 0, 6, .inl (fun _ => 0))) :: (q9, .inl (cA 1, 462, .inr (.inl (fun _ => 0)))) :: (q10, .inl (cA 1, 462, .inr (.inl (fun _ => 0)))) :: (q11, .inl (cA 1, 462, .inr (.inl (fun _ => 0)))) :: (q12, .inl (cA 1, 462, .inr (.inl (fun _ => 0)))) :: (q13, .inl (cA 1, 462, .inr (.inl (fun _ => 0)))) :: (q14, .inl (cA 0, 462, .inl (fun _ => 0))) :: ([] : va_W)) := hD
  exact zcret X hP hD hS ⟨q1, q2, q3, q4, q5, q6, q7, q8, q9, q10, q11, q12, q13, q14, rfl⟩ dX8_init_69
