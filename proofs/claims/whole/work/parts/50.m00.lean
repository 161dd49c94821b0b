theorem dJ0_coder_7d493_0 : decode cJ0_coder_7d493 0 = .ok (.getstatic 38, 3) := by decide +kernel
theorem dJ0_coder_7d493_3 : decode cJ0_coder_7d493 3 = .ok (.ifCond .eq 10, 3) := by decide +kernel
theorem dJ0_coder_7d493_6 : decode cJ0_coder_7d493 6 = .ok (.aload_n 0, 1) := by decide +kernel
theorem dJ0_coder_7d493_7 : decode cJ0_coder_7d493 7 = .ok (.getfield 15, 3) := by decide +kernel
theorem dJ0_coder_7d493_10 : decode cJ0_coder_7d493 10 = .ok (.goto 4, 3) := by decide +kernel
theorem dJ0_coder_7d493_13 : decode cJ0_coder_7d493 13 = .ok (.iconst 1, 1) := by decide +kernel
theorem dJ0_coder_7d493_14 : decode cJ0_coder_7d493 14 = .ok (.ireturn, 1) := by decide +kernel
set_option maxHeartbeats 4000000 in
set_option maxRecDepth 100000 in
theorem cn_J0_coder_7d493 {O : Nat → OD} {N : Nat} (hO : ∀ k, N ≤ k → O k = .inl (99, [])) {l : Launch} {cA : Nat → ClassId} {ad : Nat → Nat} {D : va_G} {E : Nat → Nat} {A : Nat → Prop} {w0 : Nat} {s0 sr : SS} {rr : Int32} (hf : f_J0_coder_7d493 w0 s0 = some (rr, sr)) : zCon O N cA ad D E l yJ0_coder_7d493 cJ0_coder_7d493 1 (some .byte) 0 A [.ref (E (10 + w0))] s0 (some (.int rr)) sr := by
  refine zstart (own := RJ0) hO (by decide) rfl (Nat.le_of_ble_eq_true rfl) ?_
  intro p e s m args below meth c X hP ls hl
  have hx := X.1
  have hb := X.2.1
  have hl : lv_has ls 1 [(0, .ref (E (10 + w0)))] := hl
  have hS : va_S A s.heap s.heap [] := va_S.rf
  rw [f_J0_coder_7d493] at hf
  obtain ⟨gp0, hf⟩ := zgd hf
  refine zscs X hS dJ0_coder_7d493_0 ?_
  refine zif_eq (tgt := 13) hx hb dJ0_coder_7d493_3 (by decide) hf (fun hf => ?_) (fun hf => ?_)
  · refine lv_iconst (v := 1) hx hb dJ0_coder_7d493_13 (by decide) ?_
    exact zret_i X hP hS hf rfl dJ0_coder_7d493_14
  · refine lv_aload_n hx hb dJ0_coder_7d493_6 rfl (lv_at hl 0 rfl) ?_
    refine zsc X hS (w := w0) gp0 dJ0_coder_7d493_7 ?_
    refine lv_goto (tgt := 14) hx hb dJ0_coder_7d493_10 (by decide) ?_
    exact zret_i X hP hS hf rfl dJ0_coder_7d493_14
theorem dJ0_length_8abf5_0 : decode cJ0_length_8abf5 0 = .ok (.aload_n 0, 1) := by decide +kernel
theorem dJ0_length_8abf5_1 : decode cJ0_length_8abf5 1 = .ok (.getfield 9, 3) := by decide +kernel
theorem dJ0_length_8abf5_4 : decode cJ0_length_8abf5 4 = .ok (.arraylength, 1) := by decide +kernel
theorem dJ0_length_8abf5_5 : decode cJ0_length_8abf5 5 = .ok (.aload_n 0, 1) := by decide +kernel
theorem dJ0_length_8abf5_6 : decode cJ0_length_8abf5 6 = .ok (.invokevirtual 335, 3) := by decide +kernel
theorem dJ0_length_8abf5_9 : decode cJ0_length_8abf5 9 = .ok (.ishr, 1) := by decide +kernel
theorem dJ0_length_8abf5_10 : decode cJ0_length_8abf5 10 = .ok (.ireturn, 1) := by decide +kernel
set_option maxHeartbeats 4000000 in
set_option maxRecDepth 100000 in
theorem cn_J0_length_8abf5 {O : Nat → OD} {N : Nat} (hO : ∀ k, N ≤ k → O k = .inl (99, [])) {l : Launch} {cA : Nat → ClassId} {ad : Nat → Nat} {D : va_G} {E : Nat → Nat} {A : Nat → Prop} {w0 : Nat} {s0 sr : SS} {rr : Int32} (hf : f_J0_length_8abf5 w0 s0 = some (rr, sr)) : zCon O N cA ad D E l yJ0_length_8abf5 cJ0_length_8abf5 1 (some .int) 1 A [.ref (E (10 + w0))] s0 (some (.int rr)) sr := by
  refine zstart (own := RJ0) hO (by decide) rfl (Nat.le_of_ble_eq_true rfl) ?_
  intro p e s m args below meth c X hP ls hl
  have hx := X.1
  have hb := X.2.1
  have hl : lv_has ls 1 [(0, .ref (E (10 + w0)))] := hl
  have hS : va_S A s.heap s.heap [] := va_S.rf
  rw [f_J0_length_8abf5] at hf
  obtain ⟨gp0, hf⟩ := zgd hf
  refine lv_aload_n hx hb dJ0_length_8abf5_0 rfl (lv_at hl 0 rfl) ?_
  refine zsv X hS (w := w0) gp0 dJ0_length_8abf5_1 ?_
  refine zsal X hS (w := w0) gp0 dJ0_length_8abf5_4 ?_
  refine lv_aload_n hx hb dJ0_length_8abf5_5 rfl (lv_at hl 0 rfl) ?_
  obtain ⟨r1, s2, h3, hf⟩ := zbd_some hf
  refine zcallT X hP hS hl.1 (w := w0) (As := []) (rest := [.int (nI (ZLEN.getD w0 0))]) (cn_J0_coder_7d493 hO h3) cw_J0_coder_7d493 gp0 ml_J0_335 (by decide) rfl rfl (Nat.le_of_ble_eq_true rfl) dJ0_length_8abf5_6 (fun H locs hP hS => ?_)
  refine lv_ishr hx hb dJ0_length_8abf5_9 ?_
  exact zret_i X hP hS hf rfl dJ0_length_8abf5_10
theorem dJ0_isLatin1_aae02_0 : decode cJ0_isLatin1_aae02 0 = .ok (.getstatic 38, 3) := by decide +kernel
theorem dJ0_isLatin1_aae02_3 : decode cJ0_isLatin1_aae02 3 = .ok (.ifCond .eq 14, 3) := by decide +kernel
theorem dJ0_isLatin1_aae02_6 : decode cJ0_isLatin1_aae02 6 = .ok (.aload_n 0, 1) := by decide +kernel
theorem dJ0_isLatin1_aae02_7 : decode cJ0_isLatin1_aae02 7 = .ok (.getfield 15, 3) := by decide +kernel
theorem dJ0_isLatin1_aae02_10 : decode cJ0_isLatin1_aae02 10 = .ok (.ifCond .ne 7, 3) := by decide +kernel
theorem dJ0_isLatin1_aae02_13 : decode cJ0_isLatin1_aae02 13 = .ok (.iconst 1, 1) := by decide +kernel
theorem dJ0_isLatin1_aae02_14 : decode cJ0_isLatin1_aae02 14 = .ok (.goto 4, 3) := by decide +kernel
theorem dJ0_isLatin1_aae02_17 : decode cJ0_isLatin1_aae02 17 = .ok (.iconst 0, 1) := by decide +kernel
theorem dJ0_isLatin1_aae02_18 : decode cJ0_isLatin1_aae02 18 = .ok (.ireturn, 1) := by decide +kernel
set_option maxHeartbeats 4000000 in
set_option maxRecDepth 100000 in
theorem cn_J0_isLatin1_aae02 {O : Nat → OD} {N : Nat} (hO : ∀ k, N ≤ k → O k = .inl (99, [])) {l : Launch} {cA : Nat → ClassId} {ad : Nat → Nat} {D : va_G} {E : Nat → Nat} {A : Nat → Prop} {w0 : Nat} {s0 sr : SS} {rr : Int32} (hf : f_J0_isLatin1_aae02 w0 s0 = some (rr, sr)) : zCon O N cA ad D E l yJ0_isLatin1_aae02 cJ0_isLatin1_aae02 1 (some .boolean) 0 A [.ref (E (10 + w0))] s0 (some (.int rr)) sr := by
  refine zstart (own := RJ0) hO (by decide) rfl (Nat.le_of_ble_eq_true rfl) ?_
  intro p e s m args below meth c X hP ls hl
  have hx := X.1
  have hb := X.2.1
  have hl : lv_has ls 1 [(0, .ref (E (10 + w0)))] := hl
  have hS : va_S A s.heap s.heap [] := va_S.rf
  rw [f_J0_isLatin1_aae02] at hf
  obtain ⟨gp0, hf⟩ := zgd hf
  refine zscs X hS dJ0_isLatin1_aae02_0 ?_
  refine zif_eq (tgt := 17) hx hb dJ0_isLatin1_aae02_3 (by decide) hf (fun hf => ?_) (fun hf => ?_)
  · refine lv_iconst (v := 0) hx hb dJ0_isLatin1_aae02_17 (by decide) ?_
    exact zret_i X hP hS hf rfl dJ0_isLatin1_aae02_18
  · refine lv_aload_n hx hb dJ0_isLatin1_aae02_6 rfl (lv_at hl 0 rfl) ?_
    refine zsc X hS (w := w0) gp0 dJ0_isLatin1_aae02_7 ?_
    refine zif_ne (tgt := 17) hx hb dJ0_isLatin1_aae02_10 (by decide) hf (fun hf => ?_) (fun hf => ?_)
    · refine lv_iconst (v := 0) hx hb dJ0_isLatin1_aae02_17 (by decide) ?_
      exact zret_i X hP hS hf rfl dJ0_isLatin1_aae02_18
    · refine lv_iconst (v := 1) hx hb dJ0_isLatin1_aae02_13 (by decide) ?_
      refine lv_goto (tgt := 18) hx hb dJ0_isLatin1_aae02_14 (by decide) ?_
      exact zret_i X hP hS hf rfl dJ0_isLatin1_aae02_18
theorem dJ3_checkIndex_8e157_0 : decode cJ3_checkIndex_8e157 0 = .ok (.iload_n 0, 1) := by decide +kernel
theorem dJ3_checkIndex_8e157_1 : decode cJ3_checkIndex_8e157 1 = .ok (.ifCond .lt 8, 3) := by decide +kernel
theorem dJ3_checkIndex_8e157_4 : decode cJ3_checkIndex_8e157 4 = .ok (.iload_n 0, 1) := by decide +kernel
theorem dJ3_checkIndex_8e157_5 : decode cJ3_checkIndex_8e157 5 = .ok (.iload_n 1, 1) := by decide +kernel
theorem dJ3_checkIndex_8e157_6 : decode cJ3_checkIndex_8e157 6 = .ok (.if_icmp .lt 10, 3) := by decide +kernel
theorem dJ3_checkIndex_8e157_9 : decode cJ3_checkIndex_8e157 9 = .ok (.aload_n 2, 1) := by decide +kernel
theorem dJ3_checkIndex_8e157_10 : decode cJ3_checkIndex_8e157 10 = .ok (.iload_n 0, 1) := by decide +kernel
theorem dJ3_checkIndex_8e157_11 : decode cJ3_checkIndex_8e157 11 = .ok (.iload_n 1, 1) := by decide +kernel
theorem dJ3_checkIndex_8e157_12 : decode cJ3_checkIndex_8e157 12 = .ok (.invokestatic 95, 3) := by decide +kernel
theorem dJ3_checkIndex_8e157_15 : decode cJ3_checkIndex_8e157 15 = .ok (.athrow, 1) := by decide +kernel
theorem dJ3_checkIndex_8e157_16 : decode cJ3_checkIndex_8e157 16 = .ok (.iload_n 0, 1) := by decide +kernel
theorem dJ3_checkIndex_8e157_17 : decode cJ3_checkIndex_8e157 17 = .ok (.ireturn, 1) := by decide +kernel
set_option maxHeartbeats 4000000 in
set_option maxRecDepth 100000 in
theorem cn_J3_checkIndex_8e157n {O : Nat → OD} {N : Nat} (hO : ∀ k, N ≤ k → O k = .inl (99, [])) {l : Launch} {cA : Nat → ClassId} {ad : Nat → Nat} {D : va_G} {E : Nat → Nat} {A : Nat → Prop} {x0 : Int32} {x1 : Int32} {s0 sr : SS} {rr : Int32} (hf : f_J3_checkIndex_8e157 x0 x1 s0 = some (rr, sr)) : zCon O N cA ad D E l yJ3_checkIndex_8e157 cJ3_checkIndex_8e157 3 (some .int) 0 A [.int x0, .int x1, .null] s0 (some (.int rr)) sr := by
  refine zstart (own := RJ3) hO (by decide) rfl (Nat.le_of_ble_eq_true rfl) ?_
  intro p e s m args below meth c X hP ls hl
  have hx := X.1
  have hb := X.2.1
  have hl : lv_has ls 3 [(0, .int x0), (1, .int x1), (2, .null)] := hl
  have hS : va_S A s.heap s.heap [] := va_S.rf
  have hc_9 : ∀ (x0 : Int32) (x1 : Int32) (s1 : SS) (H : Heap) (locs : List Loc) (ls : Array Slot), lv_has ls 3 [(0, .int x0), (1, .int x1), (2, .null)] → va_P D ZCL (zw O N cA ad s1) H → va_S A s.heap H locs → f_J3_checkIndex_8e157_c9 x0 x1 s1 = some (rr, sr) → W p l e (zrm 0) s m args below meth c H locs 0 0 (MQ below (zQc O N cA ad D A (some (.int rr)) sr) args s 0 0 A) (F0 m 9 ls []) := by
    intro x0 x1 s1 H locs ls hl hP hS hf
    rw [f_J3_checkIndex_8e157_c9] at hf
    refine lv_aload_nN hx hb dJ3_checkIndex_8e157_9 rfl (lv_at hl 2 rfl) ?_
    refine lv_iload_n hx hb dJ3_checkIndex_8e157_10 rfl (lv_at hl 0 rfl) ?_
    refine lv_iload_n hx hb dJ3_checkIndex_8e157_11 rfl (lv_at hl 1 rfl) ?_
    cases hf
  rw [f_J3_checkIndex_8e157] at hf
  refine lv_iload_n hx hb dJ3_checkIndex_8e157_0 rfl (lv_at hl 0 rfl) ?_
  refine zif_lt (tgt := 9) hx hb dJ3_checkIndex_8e157_1 (by decide) hf (fun hf => ?_) (fun hf => ?_)
  · exact hc_9 x0 x1 s0 _ _ _ (lv_sub hl [0, 1, 2] rfl) hP hS hf
  · refine lv_iload_n hx hb dJ3_checkIndex_8e157_4 rfl (lv_at hl 0 rfl) ?_
    refine lv_iload_n hx hb dJ3_checkIndex_8e157_5 rfl (lv_at hl 1 rfl) ?_
    refine zicmp_lt (tgt := 16) hx hb dJ3_checkIndex_8e157_6 (by decide) hf (fun hf => ?_) (fun hf => ?_)
    · refine lv_iload_n hx hb dJ3_checkIndex_8e157_16 rfl (lv_at hl 0 rfl) ?_
      exact zret_i X hP hS hf rfl dJ3_checkIndex_8e157_17
    · exact hc_9 x0 x1 s0 _ _ _ (lv_sub hl [0, 1, 2] rfl) hP hS hf
set_option maxHeartbeats 4000000 in
theorem cn_J3_checkIndex_8e157r {O : Nat → OD} {N : Nat} (hO : ∀ k, N ≤ k → O k = .inl (99, [])) {l : Launch} {cA : Nat → ClassId} {ad : Nat → Nat} {D : va_G} {E : Nat → Nat} {A : Nat → Prop} {x0 : Int32} {x1 : Int32} {t2 : Nat} {s0 sr : SS} {rr : Int32} (hf : f_J3_checkIndex_8e157 x0 x1 s0 = some (rr, sr)) : zCon O N cA ad D E l yJ3_checkIndex_8e157 cJ3_checkIndex_8e157 3 (some .int) 0 A [.int x0, .int x1, .ref t2] s0 (some (.int rr)) sr := by
  refine zstart (own := RJ3) hO (by decide) rfl (Nat.le_of_ble_eq_true rfl) ?_
  intro p e s m args below meth c X hP ls hl
  have hx := X.1
  have hb := X.2.1
  have hl : lv_has ls 3 [(0, .int x0), (1, .int x1), (2, .ref t2)] := hl
  have hS : va_S A s.heap s.heap [] := va_S.rf
  have hc_9 : ∀ (x0 : Int32) (x1 : Int32) (s1 : SS) (H : Heap) (locs : List Loc) (ls : Array Slot), lv_has ls 3 [(0, .int x0), (1, .int x1), (2, .ref t2)] → va_P D ZCL (zw O N cA ad s1) H → va_S A s.heap H locs → f_J3_checkIndex_8e157_c9 x0 x1 s1 = some (rr, sr) → W p l e (zrm 0) s m args below meth c H locs 0 0 (MQ below (zQc O N cA ad D A (some (.int rr)) sr) args s 0 0 A) (F0 m 9 ls []) := by
    intro x0 x1 s1 H locs ls hl hP hS hf
    rw [f_J3_checkIndex_8e157_c9] at hf
    refine lv_aload_n hx hb dJ3_checkIndex_8e157_9 rfl (lv_at hl 2 rfl) ?_
    refine lv_iload_n hx hb dJ3_checkIndex_8e157_10 rfl (lv_at hl 0 rfl) ?_
    refine lv_iload_n hx hb dJ3_checkIndex_8e157_11 rfl (lv_at hl 1 rfl) ?_
    cases hf
  rw [f_J3_checkIndex_8e157] at hf
  refine lv_iload_n hx hb dJ3_checkIndex_8e157_0 rfl (lv_at hl 0 rfl) ?_
  refine zif_lt (tgt := 9) hx hb dJ3_checkIndex_8e157_1 (by decide) hf (fun hf => ?_) (fun hf => ?_)
  · exact hc_9 x0 x1 s0 _ _ _ (lv_sub hl [0, 1, 2] rfl) hP hS hf
  · refine lv_iload_n hx hb dJ3_checkIndex_8e157_4 rfl (lv_at hl 0 rfl) ?_
    refine lv_iload_n hx hb dJ3_checkIndex_8e157_5 rfl (lv_at hl 1 rfl) ?_
    refine zicmp_lt (tgt := 16) hx hb dJ3_checkIndex_8e157_6 (by decide) hf (fun hf => ?_) (fun hf => ?_)
    · refine lv_iload_n hx hb dJ3_checkIndex_8e157_16 rfl (lv_at hl 0 rfl) ?_
      exact zret_i X hP hS hf rfl dJ3_checkIndex_8e157_17
    · exact hc_9 x0 x1 s0 _ _ _ (lv_sub hl [0, 1, 2] rfl) hP hS hf
theorem dJ0_checkIndex_df160_0 : decode cJ0_checkIndex_df160 0 = .ok (.iload_n 0, 1) := by decide +kernel
theorem dJ0_checkIndex_df160_1 : decode cJ0_checkIndex_df160 1 = .ok (.iload_n 1, 1) := by decide +kernel
theorem dJ0_checkIndex_df160_2 : decode cJ0_checkIndex_df160 2 = .ok (.getstatic 1053, 3) := by decide +kernel
theorem dJ0_checkIndex_df160_5 : decode cJ0_checkIndex_df160 5 = .ok (.invokestatic 1059, 3) := by decide +kernel
theorem dJ0_checkIndex_df160_8 : decode cJ0_checkIndex_df160 8 = .ok (.pop, 1) := by decide +kernel
theorem dJ0_checkIndex_df160_9 : decode cJ0_checkIndex_df160 9 = .ok (.return_, 1) := by decide +kernel
set_option maxHeartbeats 4000000 in
set_option maxRecDepth 100000 in
theorem cn_J0_checkIndex_df160 {O : Nat → OD} {N : Nat} (hO : ∀ k, N ≤ k → O k = .inl (99, [])) {l : Launch} {cA : Nat → ClassId} {ad : Nat → Nat} {D : va_G} {E : Nat → Nat} {A : Nat → Prop} {x0 : Int32} {x1 : Int32} {s0 sr : SS} {rr : Unit} (hf : f_J0_checkIndex_df160 x0 x1 s0 = some (rr, sr)) : zCon O N cA ad D E l yJ0_checkIndex_df160 cJ0_checkIndex_df160 2 none 1 A [.int x0, .int x1] s0 none sr := by
  refine zstart (own := RJ0) hO (by decide) rfl (Nat.le_of_ble_eq_true rfl) ?_
  intro p e s m args below meth c X hP ls hl
  have hx := X.1
  have hb := X.2.1
  have hl : lv_has ls 2 [(0, .int x0), (1, .int x1)] := hl
  have hS : va_S A s.heap s.heap [] := va_S.rf
  rw [f_J0_checkIndex_df160] at hf
  refine lv_iload_n hx hb dJ0_checkIndex_df160_0 rfl (lv_at hl 0 rfl) ?_
  refine lv_iload_n hx hb dJ0_checkIndex_df160_1 rfl (lv_at hl 1 rfl) ?_
  refine zfmt X hS dJ0_checkIndex_df160_2 ?_ (fun tz => ?_)
  · obtain ⟨r1, s2, h3, hf⟩ := zbd_some hf
    refine zcallS X hP hS hl.1 (As := [.int x0, .int x1, .null]) (rest := []) (cn_J3_checkIndex_8e157n hO h3) cw_J3_checkIndex_8e157 ml_J0_1059 (by decide) rfl rfl (Nat.le_of_ble_eq_true rfl) dJ0_checkIndex_df160_5 (fun H locs hP hS => ?_)
    refine lv_pop hx hb dJ0_checkIndex_df160_8 rfl ?_
    exact zret_v X hP hS hf dJ0_checkIndex_df160_9
  · obtain ⟨r4, s5, h6, hf⟩ := zbd_some hf
    refine zcallS X hP hS hl.1 (As := [.int x0, .int x1, .ref tz]) (rest := []) (cn_J3_checkIndex_8e157r hO h6) cw_J3_checkIndex_8e157 ml_J0_1059 (by decide) rfl rfl (Nat.le_of_ble_eq_true rfl) dJ0_checkIndex_df160_5 (fun H locs hP hS => ?_)
    refine lv_pop hx hb dJ0_checkIndex_df160_8 rfl ?_
    exact zret_v X hP hS hf dJ0_checkIndex_df160_9
theorem dJ1_charAt_3b067_0 : decode cJ1_charAt_3b067 0 = .ok (.iload_n 1, 1) := by decide +kernel
theorem dJ1_charAt_3b067_1 : decode cJ1_charAt_3b067 1 = .ok (.aload_n 0, 1) := by decide +kernel
theorem dJ1_charAt_3b067_2 : decode cJ1_charAt_3b067 2 = .ok (.arraylength, 1) := by decide +kernel
theorem dJ1_charAt_3b067_3 : decode cJ1_charAt_3b067 3 = .ok (.invokestatic 9, 3) := by decide +kernel
theorem dJ1_charAt_3b067_6 : decode cJ1_charAt_3b067 6 = .ok (.aload_n 0, 1) := by decide +kernel
theorem dJ1_charAt_3b067_7 : decode cJ1_charAt_3b067 7 = .ok (.iload_n 1, 1) := by decide +kernel
theorem dJ1_charAt_3b067_8 : decode cJ1_charAt_3b067 8 = .ok (.baload, 1) := by decide +kernel
theorem dJ1_charAt_3b067_9 : decode cJ1_charAt_3b067 9 = .ok (.sipush 255, 3) := by decide +kernel
theorem dJ1_charAt_3b067_12 : decode cJ1_charAt_3b067 12 = .ok (.iand, 1) := by decide +kernel
theorem dJ1_charAt_3b067_13 : decode cJ1_charAt_3b067 13 = .ok (.i2c, 1) := by decide +kernel
theorem dJ1_charAt_3b067_14 : decode cJ1_charAt_3b067 14 = .ok (.ireturn, 1) := by decide +kernel
set_option maxHeartbeats 4000000 in
set_option maxRecDepth 100000 in
theorem cn_J1_charAt_3b067 {O : Nat → OD} {N : Nat} (hO : ∀ k, N ≤ k → O k = .inl (99, [])) {l : Launch} {cA : Nat → ClassId} {ad : Nat → Nat} {D : va_G} {E : Nat → Nat} {A : Nat → Prop} {w0 : Nat} {x1 : Int32} {s0 sr : SS} {rr : Int32} (hf : f_J1_charAt_3b067 w0 x1 s0 = some (rr, sr)) : zCon O N cA ad D E l yJ1_charAt_3b067 cJ1_charAt_3b067 2 (some .char) 2 A [.ref (E (20 + w0)), .int x1] s0 (some (.int rr)) sr := by
  refine zstart (own := RJ1) hO (by decide) rfl (Nat.le_of_ble_eq_true rfl) ?_
  intro p e s m args below meth c X hP ls hl
  have hx := X.1
  have hb := X.2.1
  have hl : lv_has ls 2 [(0, .ref (E (20 + w0))), (1, .int x1)] := hl
  have hS : va_S A s.heap s.heap [] := va_S.rf
  rw [f_J1_charAt_3b067] at hf
  obtain ⟨gp0, hf⟩ := zgd hf
  refine lv_iload_n hx hb dJ1_charAt_3b067_0 rfl (lv_at hl 1 rfl) ?_
  refine lv_aload_n hx hb dJ1_charAt_3b067_1 rfl (lv_at hl 0 rfl) ?_
  refine zsal X hS (w := w0) gp0 dJ1_charAt_3b067_2 ?_
  obtain ⟨r1, s2, h3, hf⟩ := zbd_some hf
  refine zcallS X hP hS hl.1 (As := [.int x1, .int (nI (ZLEN.getD w0 0))]) (rest := []) (cn_J0_checkIndex_df160 hO h3) cw_J0_checkIndex_df160 ml_J1_9 (by decide) rfl rfl (Nat.le_of_ble_eq_true rfl) dJ1_charAt_3b067_3 (fun H locs hP hS => ?_)
  refine lv_aload_n hx hb dJ1_charAt_3b067_6 rfl (lv_at hl 0 rfl) ?_
  refine lv_iload_n hx hb dJ1_charAt_3b067_7 rfl (lv_at hl 1 rfl) ?_
  obtain ⟨g4, hf⟩ := zgd hf
  refine zsbl X hS (w := w0) gp0 g4 dJ1_charAt_3b067_8 ?_
  refine lv_sipush (v := 255) hx hb dJ1_charAt_3b067_9 (by decide) ?_
  refine lv_iand hx hb dJ1_charAt_3b067_12 ?_
  refine lv_i2c hx hb dJ1_charAt_3b067_13 rfl ?_
  obtain ⟨b5, hf⟩ := zgd hf
  exact zret_i X hP hS hf (znar_of (by decide) b5) dJ1_charAt_3b067_14
theorem dJ0_charAt_5068e_0 : decode cJ0_charAt_5068e 0 = .ok (.aload_n 0, 1) := by decide +kernel
theorem dJ0_charAt_5068e_1 : decode cJ0_charAt_5068e 1 = .ok (.invokevirtual 492, 3) := by decide +kernel
theorem dJ0_charAt_5068e_4 : decode cJ0_charAt_5068e 4 = .ok (.ifCond .eq 12, 3) := by decide +kernel
theorem dJ0_charAt_5068e_7 : decode cJ0_charAt_5068e 7 = .ok (.aload_n 0, 1) := by decide +kernel
theorem dJ0_charAt_5068e_8 : decode cJ0_charAt_5068e 8 = .ok (.getfield 9, 3) := by decide +kernel
theorem dJ0_charAt_5068e_11 : decode cJ0_charAt_5068e 11 = .ok (.iload_n 1, 1) := by decide +kernel
theorem dJ0_charAt_5068e_12 : decode cJ0_charAt_5068e 12 = .ok (.invokestatic 495, 3) := by decide +kernel
theorem dJ0_charAt_5068e_15 : decode cJ0_charAt_5068e 15 = .ok (.ireturn, 1) := by decide +kernel
theorem dJ0_charAt_5068e_16 : decode cJ0_charAt_5068e 16 = .ok (.aload_n 0, 1) := by decide +kernel
theorem dJ0_charAt_5068e_17 : decode cJ0_charAt_5068e 17 = .ok (.getfield 9, 3) := by decide +kernel
theorem dJ0_charAt_5068e_20 : decode cJ0_charAt_5068e 20 = .ok (.iload_n 1, 1) := by decide +kernel
theorem dJ0_charAt_5068e_21 : decode cJ0_charAt_5068e 21 = .ok (.invokestatic 498, 3) := by decide +kernel
theorem dJ0_charAt_5068e_24 : decode cJ0_charAt_5068e 24 = .ok (.ireturn, 1) := by decide +kernel
set_option maxHeartbeats 4000000 in
set_option maxRecDepth 100000 in
theorem cn_J0_charAt_5068e {O : Nat → OD} {N : Nat} (hO : ∀ k, N ≤ k → O k = .inl (99, [])) {l : Launch} {cA : Nat → ClassId} {ad : Nat → Nat} {D : va_G} {E : Nat → Nat} {A : Nat → Prop} {w0 : Nat} {x1 : Int32} {s0 sr : SS} {rr : Int32} (hf : f_J0_charAt_5068e w0 x1 s0 = some (rr, sr)) : zCon O N cA ad D E l yJ0_charAt_5068e cJ0_charAt_5068e 2 (some .char) 3 A [.ref (E (10 + w0)), .int x1] s0 (some (.int rr)) sr := by
  refine zstart (own := RJ0) hO (by decide) rfl (Nat.le_of_ble_eq_true rfl) ?_
  intro p e s m args below meth c X hP ls hl
  have hx := X.1
  have hb := X.2.1
  have hl : lv_has ls 2 [(0, .ref (E (10 + w0))), (1, .int x1)] := hl
  have hS : va_S A s.heap s.heap [] := va_S.rf
  rw [f_J0_charAt_5068e] at hf
  obtain ⟨gp0, hf⟩ := zgd hf
  refine lv_aload_n hx hb dJ0_charAt_5068e_0 rfl (lv_at hl 0 rfl) ?_
  obtain ⟨r1, s2, h3, hf⟩ := zbd_some hf
  refine zcallT X hP hS hl.1 (w := w0) (As := []) (rest := []) (cn_J0_isLatin1_aae02 hO h3) cw_J0_isLatin1_aae02 gp0 ml_J0_492 (by decide) rfl rfl (Nat.le_of_ble_eq_true rfl) dJ0_charAt_5068e_1 (fun H locs hP hS => ?_)
  refine zif_eq (tgt := 16) hx hb dJ0_charAt_5068e_4 (by decide) hf (fun hf => ?_) (fun hf => ?_)
  · refine lv_aload_n hx hb dJ0_charAt_5068e_16 rfl (lv_at hl 0 rfl) ?_
    refine zsv X hS (w := w0) gp0 dJ0_charAt_5068e_17 ?_
    refine lv_iload_n hx hb dJ0_charAt_5068e_20 rfl (lv_at hl 1 rfl) ?_
    cases hf
  · refine lv_aload_n hx hb dJ0_charAt_5068e_7 rfl (lv_at hl 0 rfl) ?_
    refine zsv X hS (w := w0) gp0 dJ0_charAt_5068e_8 ?_
    refine lv_iload_n hx hb dJ0_charAt_5068e_11 rfl (lv_at hl 1 rfl) ?_
    obtain ⟨r4, s5, h6, hf⟩ := zbd_some hf
    refine zcallS X hP hS hl.1 (As := [.ref (E (20 + w0)), .int x1]) (rest := []) (cn_J1_charAt_3b067 hO h6) cw_J1_charAt_3b067 ml_J0_495 (by decide) rfl rfl (Nat.le_of_ble_eq_true rfl) dJ0_charAt_5068e_12 (fun H locs hP hS => ?_)
    obtain ⟨b7, hf⟩ := zgd hf
    exact zret_i X hP hS hf (znar_of (by decide) b7) dJ0_charAt_5068e_15
theorem dJ7_rangeCheck_23922_0 : decode cJ7_rangeCheck_23922 0 = .ok (.iload_n 1, 1) := by decide +kernel
theorem dJ7_rangeCheck_23922_1 : decode cJ7_rangeCheck_23922 1 = .ok (.iload_n 2, 1) := by decide +kernel
theorem dJ7_rangeCheck_23922_2 : decode cJ7_rangeCheck_23922 2 = .ok (.if_icmp .le 44, 3) := by decide +kernel
theorem dJ7_rangeCheck_23922_5 : decode cJ7_rangeCheck_23922 5 = .ok (.new 43, 3) := by decide +kernel
theorem dJ7_rangeCheck_23922_8 : decode cJ7_rangeCheck_23922 8 = .ok (.dup, 1) := by decide +kernel
theorem dJ7_rangeCheck_23922_9 : decode cJ7_rangeCheck_23922 9 = .ok (.new 45, 3) := by decide +kernel
theorem dJ7_rangeCheck_23922_12 : decode cJ7_rangeCheck_23922 12 = .ok (.dup, 1) := by decide +kernel
theorem dJ7_rangeCheck_23922_13 : decode cJ7_rangeCheck_23922 13 = .ok (.invokespecial 47, 3) := by decide +kernel
theorem dJ7_rangeCheck_23922_16 : decode cJ7_rangeCheck_23922 16 = .ok (.ldc 48, 2) := by decide +kernel
theorem dJ7_rangeCheck_23922_18 : decode cJ7_rangeCheck_23922 18 = .ok (.invokevirtual 50, 3) := by decide +kernel
theorem dJ7_rangeCheck_23922_21 : decode cJ7_rangeCheck_23922 21 = .ok (.iload_n 1, 1) := by decide +kernel
theorem dJ7_rangeCheck_23922_22 : decode cJ7_rangeCheck_23922 22 = .ok (.invokevirtual 54, 3) := by decide +kernel
theorem dJ7_rangeCheck_23922_25 : decode cJ7_rangeCheck_23922 25 = .ok (.ldc 57, 2) := by decide +kernel
theorem dJ7_rangeCheck_23922_27 : decode cJ7_rangeCheck_23922 27 = .ok (.invokevirtual 50, 3) := by decide +kernel
theorem dJ7_rangeCheck_23922_30 : decode cJ7_rangeCheck_23922 30 = .ok (.iload_n 2, 1) := by decide +kernel
theorem dJ7_rangeCheck_23922_31 : decode cJ7_rangeCheck_23922 31 = .ok (.invokevirtual 54, 3) := by decide +kernel
theorem dJ7_rangeCheck_23922_34 : decode cJ7_rangeCheck_23922 34 = .ok (.ldc 59, 2) := by decide +kernel
theorem dJ7_rangeCheck_23922_36 : decode cJ7_rangeCheck_23922 36 = .ok (.invokevirtual 50, 3) := by decide +kernel
theorem dJ7_rangeCheck_23922_39 : decode cJ7_rangeCheck_23922 39 = .ok (.invokevirtual 61, 3) := by decide +kernel
theorem dJ7_rangeCheck_23922_42 : decode cJ7_rangeCheck_23922 42 = .ok (.invokespecial 65, 3) := by decide +kernel
theorem dJ7_rangeCheck_23922_45 : decode cJ7_rangeCheck_23922 45 = .ok (.athrow, 1) := by decide +kernel
theorem dJ7_rangeCheck_23922_46 : decode cJ7_rangeCheck_23922 46 = .ok (.iload_n 1, 1) := by decide +kernel
theorem dJ7_rangeCheck_23922_47 : decode cJ7_rangeCheck_23922 47 = .ok (.ifCond .ge 12, 3) := by decide +kernel
theorem dJ7_rangeCheck_23922_50 : decode cJ7_rangeCheck_23922 50 = .ok (.new 68, 3) := by decide +kernel
theorem dJ7_rangeCheck_23922_53 : decode cJ7_rangeCheck_23922 53 = .ok (.dup, 1) := by decide +kernel
theorem dJ7_rangeCheck_23922_54 : decode cJ7_rangeCheck_23922 54 = .ok (.iload_n 1, 1) := by decide +kernel
theorem dJ7_rangeCheck_23922_55 : decode cJ7_rangeCheck_23922 55 = .ok (.invokespecial 70, 3) := by decide +kernel
theorem dJ7_rangeCheck_23922_58 : decode cJ7_rangeCheck_23922 58 = .ok (.athrow, 1) := by decide +kernel
theorem dJ7_rangeCheck_23922_59 : decode cJ7_rangeCheck_23922 59 = .ok (.iload_n 2, 1) := by decide +kernel
theorem dJ7_rangeCheck_23922_60 : decode cJ7_rangeCheck_23922 60 = .ok (.iload_n 0, 1) := by decide +kernel
theorem dJ7_rangeCheck_23922_61 : decode cJ7_rangeCheck_23922 61 = .ok (.if_icmp .le 12, 3) := by decide +kernel
theorem dJ7_rangeCheck_23922_64 : decode cJ7_rangeCheck_23922 64 = .ok (.new 68, 3) := by decide +kernel
theorem dJ7_rangeCheck_23922_67 : decode cJ7_rangeCheck_23922 67 = .ok (.dup, 1) := by decide +kernel
theorem dJ7_rangeCheck_23922_68 : decode cJ7_rangeCheck_23922 68 = .ok (.iload_n 2, 1) := by decide +kernel
theorem dJ7_rangeCheck_23922_69 : decode cJ7_rangeCheck_23922 69 = .ok (.invokespecial 70, 3) := by decide +kernel
theorem dJ7_rangeCheck_23922_72 : decode cJ7_rangeCheck_23922 72 = .ok (.athrow, 1) := by decide +kernel
theorem dJ7_rangeCheck_23922_73 : decode cJ7_rangeCheck_23922 73 = .ok (.return_, 1) := by decide +kernel
set_option maxHeartbeats 4000000 in
set_option maxRecDepth 100000 in
theorem cn_J7_rangeCheck_23922 {O : Nat → OD} {N : Nat} (hO : ∀ k, N ≤ k → O k = .inl (99, [])) {l : Launch} {cA : Nat → ClassId} {ad : Nat → Nat} {D : va_G} {E : Nat → Nat} {A : Nat → Prop} {x0 : Int32} {x1 : Int32} {x2 : Int32} {s0 sr : SS} {rr : Unit} (hf : f_J7_rangeCheck_23922 O x0 x1 x2 s0 = some (rr, sr)) : zCon O N cA ad D E l yJ7_rangeCheck_23922 cJ7_rangeCheck_23922 3 none 0 A [.int x0, .int x1, .int x2] s0 none sr := by
  refine zstart (own := RJ7) hO (by decide) rfl (Nat.le_of_ble_eq_true rfl) ?_
  intro p e s m args below meth c X hP ls hl
  have hx := X.1
  have hb := X.2.1
  have hl : lv_has ls 3 [(0, .int x0), (1, .int x1), (2, .int x2)] := hl
  have hS : va_S A s.heap s.heap [] := va_S.rf
  rw [f_J7_rangeCheck_23922] at hf
  refine lv_iload_n hx hb dJ7_rangeCheck_23922_0 rfl (lv_at hl 1 rfl) ?_
  refine lv_iload_n hx hb dJ7_rangeCheck_23922_1 rfl (lv_at hl 2 rfl) ?_
  refine zicmp_le (tgt := 46) hx hb dJ7_rangeCheck_23922_2 (by decide) hf (fun hf => ?_) (fun hf => ?_)
  · refine lv_iload_n hx hb dJ7_rangeCheck_23922_46 rfl (lv_at hl 1 rfl) ?_
    refine zif_ge (tgt := 59) hx hb dJ7_rangeCheck_23922_47 (by decide) hf (fun hf => ?_) (fun hf => ?_)
    · refine lv_iload_n hx hb dJ7_rangeCheck_23922_59 rfl (lv_at hl 2 rfl) ?_
      refine lv_iload_n hx hb dJ7_rangeCheck_23922_60 rfl (lv_at hl 0 rfl) ?_
      refine zicmp_le (tgt := 73) hx hb dJ7_rangeCheck_23922_61 (by decide) hf (fun hf => ?_) (fun hf => ?_)
      · exact zret_v X hP hS hf dJ7_rangeCheck_23922_73
      · cases hf
    · cases hf
  · cases hf
theorem dJ7_fill_d0a16_0 : decode cJ7_fill_d0a16 0 = .ok (.iconst 0, 1) := by decide +kernel
theorem dJ7_fill_d0a16_1 : decode cJ7_fill_d0a16 1 = .ok (.istore_n 3, 1) := by decide +kernel
theorem dJ7_fill_d0a16_2 : decode cJ7_fill_d0a16 2 = .ok (.aload_n 0, 1) := by decide +kernel
theorem dJ7_fill_d0a16_3 : decode cJ7_fill_d0a16 3 = .ok (.arraylength, 1) := by decide +kernel
theorem dJ7_fill_d0a16_4 : decode cJ7_fill_d0a16 4 = .ok (.istore 4, 2) := by decide +kernel
theorem dJ7_fill_d0a16_6 : decode cJ7_fill_d0a16 6 = .ok (.iload_n 3, 1) := by decide +kernel
theorem dJ7_fill_d0a16_7 : decode cJ7_fill_d0a16 7 = .ok (.iload 4, 2) := by decide +kernel
theorem dJ7_fill_d0a16_9 : decode cJ7_fill_d0a16 9 = .ok (.if_icmp .ge 13, 3) := by decide +kernel
theorem dJ7_fill_d0a16_12 : decode cJ7_fill_d0a16 12 = .ok (.aload_n 0, 1) := by decide +kernel
theorem dJ7_fill_d0a16_13 : decode cJ7_fill_d0a16 13 = .ok (.iload_n 3, 1) := by decide +kernel
theorem dJ7_fill_d0a16_14 : decode cJ7_fill_d0a16 14 = .ok (.lload_n 1, 1) := by decide +kernel
theorem dJ7_fill_d0a16_15 : decode cJ7_fill_d0a16 15 = .ok (.lastore, 1) := by decide +kernel
theorem dJ7_fill_d0a16_16 : decode cJ7_fill_d0a16 16 = .ok (.iinc 3 1, 3) := by decide +kernel
theorem dJ7_fill_d0a16_19 : decode cJ7_fill_d0a16 19 = .ok (.goto (-13), 3) := by decide +kernel
theorem dJ7_fill_d0a16_22 : decode cJ7_fill_d0a16 22 = .ok (.return_, 1) := by decide +kernel
set_option maxHeartbeats 4000000 in
set_option maxRecDepth 100000 in
theorem cn_J7_fill_d0a16 {O : Nat → OD} {N : Nat} (hO : ∀ k, N ≤ k → O k = .inl (99, [])) {l : Launch} {cA : Nat → ClassId} {ad : Nat → Nat} {D : va_G} {E : Nat → Nat} {A : Nat → Prop} {k0 : Nat} {x1 : Int64} {s0 sr : SS} {rr : Unit} (hf : f_J7_fill_d0a16 O k0 x1 s0 = some (rr, sr)) : zCon O N cA ad D E l yJ7_fill_d0a16 cJ7_fill_d0a16 5 none 0 A [.ref (ad k0), .long x1] s0 none sr := by
  refine zstart (own := RJ7) hO (by decide) rfl (Nat.le_of_ble_eq_true rfl) ?_
  intro p e s m args below meth c X hP ls hl
  have hx := X.1
  have hb := X.2.1
  have hl : lv_has ls 5 [(0, .ref (ad k0)), (1, .long x1)] := hl
  have hS : va_S A s.heap s.heap [] := va_S.rf
  have hc_6 : ∀ (n6 : Nat) (k0 : Nat) (x1 : Int64) (x3 : Int32) (x4 : Int32) (s1 : SS) (H : Heap) (locs : List Loc) (ls : Array Slot), lv_has ls 5 [(0, .ref (ad k0)), (1, .long x1), (3, .int x3), (4, .int x4)] → va_P D ZCL (zw O N cA ad s1) H → va_S A s.heap H locs → f_J7_fill_d0a16_c6 O n6 k0 x1 x3 x4 s1 = some (rr, sr) → W p l e (zrm 0) s m args below meth c H locs 0 0 (MQ below (zQc O N cA ad D A none sr) args s 0 0 A) (F0 m 6 ls []) := by
    intro n6
    induction n6 with
    | zero =>
      intro k0 x1 x3 x4 s1 H locs ls hl hP hS hf
      rw [f_J7_fill_d0a16_c6] at hf
      cases hf
    | succ n6 ih6 =>
      intro k0 x1 x3 x4 s1 H locs ls hl hP hS hf
      rw [f_J7_fill_d0a16_c6] at hf
      refine lv_iload_n hx hb dJ7_fill_d0a16_6 rfl (lv_at hl 2 rfl) ?_
      refine lv_iload hx hb dJ7_fill_d0a16_7 (lv_at hl 3 rfl) ?_
      refine zicmp_ge (tgt := 22) hx hb dJ7_fill_d0a16_9 (by decide) hf (fun hf => ?_) (fun hf => ?_)
      · exact zret_v X hP hS hf dJ7_fill_d0a16_22
      · refine lv_aload_n hx hb dJ7_fill_d0a16_12 rfl (lv_at hl 0 rfl) ?_
        refine lv_iload_n hx hb dJ7_fill_d0a16_13 rfl (lv_at hl 2 rfl) ?_
        refine lv_lload_n hx hb dJ7_fill_d0a16_14 rfl (lv_at hl 1 rfl) ?_
        obtain ⟨g3, hf⟩ := zgd hf
        obtain ⟨n4, rn4, on4, in4⟩ := zok_of g3
        refine zast_l X hP hS (k := k0) on4 in4 dJ7_fill_d0a16_15 (fun H locs hP hS => ?_)
        refine lv_iinc (v := (x3 + 1)) (lv' := [(3, .int (x3 + 1)), (0, .ref (ad k0)), (1, .long x1), (4, .int x4)]) hx hb dJ7_fill_d0a16_16 hl (k := 2) rfl rfl (by decide) rfl (fun ls hl => ?_)
        refine lv_goto (tgt := 6) hx hb dJ7_fill_d0a16_19 (by decide) ?_
        exact ih6 k0 x1 (x3 + 1) x4 (zSL s1 k0 (x3).toNatClampNeg x1) _ _ _ (lv_sub hl [1, 2, 0, 3] rfl) hP hS hf
  rw [f_J7_fill_d0a16] at hf
  refine lv_iconst (v := 0) hx hb dJ7_fill_d0a16_0 (by decide) ?_
  refine lv_istore_n (lv' := [(3, .int 0), (0, .ref (ad k0)), (1, .long x1)]) hx hb dJ7_fill_d0a16_1 rfl hl (by decide) rfl (fun ls hl => ?_)
  refine lv_aload_n hx hb dJ7_fill_d0a16_2 rfl (lv_at hl 1 rfl) ?_
  obtain ⟨g1, hf⟩ := zgd hf
  obtain ⟨n2, on2⟩ := zia_of g1
  refine zalen X hP (k := k0) (t := 1) on2 (by decide) rfl dJ7_fill_d0a16_3 ?_
  refine lv_istore (lv' := [(4, .int (nI (zlen O k0))), (3, .int 0), (0, .ref (ad k0)), (1, .long x1)]) hx hb dJ7_fill_d0a16_4 hl (by decide) rfl (fun ls hl => ?_)
  exact hc_6 ZF k0 x1 0 (nI (zlen O k0)) s0 _ _ _ (lv_sub hl [2, 3, 1, 0] rfl) hP hS hf
theorem dJ7_fill_bad5a_0 : decode cJ7_fill_bad5a 0 = .ok (.aload_n 0, 1) := by decide +kernel
theorem dJ7_fill_bad5a_1 : decode cJ7_fill_bad5a 1 = .ok (.arraylength, 1) := by decide +kernel
theorem dJ7_fill_bad5a_2 : decode cJ7_fill_bad5a 2 = .ok (.iload_n 1, 1) := by decide +kernel
theorem dJ7_fill_bad5a_3 : decode cJ7_fill_bad5a 3 = .ok (.iload_n 2, 1) := by decide +kernel
theorem dJ7_fill_bad5a_4 : decode cJ7_fill_bad5a 4 = .ok (.invokestatic 13, 3) := by decide +kernel
theorem dJ7_fill_bad5a_7 : decode cJ7_fill_bad5a 7 = .ok (.iload_n 1, 1) := by decide +kernel
theorem dJ7_fill_bad5a_8 : decode cJ7_fill_bad5a 8 = .ok (.istore 5, 2) := by decide +kernel
theorem dJ7_fill_bad5a_10 : decode cJ7_fill_bad5a 10 = .ok (.iload 5, 2) := by decide +kernel
theorem dJ7_fill_bad5a_12 : decode cJ7_fill_bad5a 12 = .ok (.iload_n 2, 1) := by decide +kernel
theorem dJ7_fill_bad5a_13 : decode cJ7_fill_bad5a 13 = .ok (.if_icmp .ge 14, 3) := by decide +kernel
theorem dJ7_fill_bad5a_16 : decode cJ7_fill_bad5a 16 = .ok (.aload_n 0, 1) := by decide +kernel
theorem dJ7_fill_bad5a_17 : decode cJ7_fill_bad5a 17 = .ok (.iload 5, 2) := by decide +kernel
theorem dJ7_fill_bad5a_19 : decode cJ7_fill_bad5a 19 = .ok (.lload_n 3, 1) := by decide +kernel
theorem dJ7_fill_bad5a_20 : decode cJ7_fill_bad5a 20 = .ok (.lastore, 1) := by decide +kernel
theorem dJ7_fill_bad5a_21 : decode cJ7_fill_bad5a 21 = .ok (.iinc 5 1, 3) := by decide +kernel
theorem dJ7_fill_bad5a_24 : decode cJ7_fill_bad5a 24 = .ok (.goto (-14), 3) := by decide +kernel
theorem dJ7_fill_bad5a_27 : decode cJ7_fill_bad5a 27 = .ok (.return_, 1) := by decide +kernel
set_option maxHeartbeats 4000000 in
set_option maxRecDepth 100000 in
theorem cn_J7_fill_bad5a {O : Nat → OD} {N : Nat} (hO : ∀ k, N ≤ k → O k = .inl (99, [])) {l : Launch} {cA : Nat → ClassId} {ad : Nat → Nat} {D : va_G} {E : Nat → Nat} {A : Nat → Prop} {k0 : Nat} {x1 : Int32} {x2 : Int32} {x3 : Int64} {s0 sr : SS} {rr : Unit} (hf : f_J7_fill_bad5a O k0 x1 x2 x3 s0 = some (rr, sr)) : zCon O N cA ad D E l yJ7_fill_bad5a cJ7_fill_bad5a 6 none 1 A [.ref (ad k0), .int x1, .int x2, .long x3] s0 none sr := by
  refine zstart (own := RJ7) hO (by decide) rfl (Nat.le_of_ble_eq_true rfl) ?_
  intro p e s m args below meth c X hP ls hl
  have hx := X.1
  have hb := X.2.1
  have hl : lv_has ls 6 [(0, .ref (ad k0)), (1, .int x1), (2, .int x2), (3, .long x3)] := hl
  have hS : va_S A s.heap s.heap [] := va_S.rf
  have hc_10 : ∀ (n10 : Nat) (k0 : Nat) (x2 : Int32) (x3 : Int64) (x5 : Int32) (s1 : SS) (H : Heap) (locs : List Loc) (ls : Array Slot), lv_has ls 6 [(0, .ref (ad k0)), (2, .int x2), (3, .long x3), (5, .int x5)] → va_P D ZCL (zw O N cA ad s1) H → va_S A s.heap H locs → f_J7_fill_bad5a_c10 O n10 k0 x2 x3 x5 s1 = some (rr, sr) → W p l e (zrm 1) s m args below meth c H locs 0 0 (MQ below (zQc O N cA ad D A none sr) args s 0 0 A) (F0 m 10 ls []) := by
    intro n10
    induction n10 with
    | zero =>
      intro k0 x2 x3 x5 s1 H locs ls hl hP hS hf
      rw [f_J7_fill_bad5a_c10] at hf
      cases hf
    | succ n10 ih10 =>
      intro k0 x2 x3 x5 s1 H locs ls hl hP hS hf
      rw [f_J7_fill_bad5a_c10] at hf
      refine lv_iload hx hb dJ7_fill_bad5a_10 (lv_at hl 3 rfl) ?_
      refine lv_iload_n hx hb dJ7_fill_bad5a_12 rfl (lv_at hl 1 rfl) ?_
      refine zicmp_ge (tgt := 27) hx hb dJ7_fill_bad5a_13 (by decide) hf (fun hf => ?_) (fun hf => ?_)
      · exact zret_v X hP hS hf dJ7_fill_bad5a_27
      · refine lv_aload_n hx hb dJ7_fill_bad5a_16 rfl (lv_at hl 0 rfl) ?_
        refine lv_iload hx hb dJ7_fill_bad5a_17 (lv_at hl 3 rfl) ?_
        refine lv_lload_n hx hb dJ7_fill_bad5a_19 rfl (lv_at hl 2 rfl) ?_
        obtain ⟨g6, hf⟩ := zgd hf
        obtain ⟨n7, rn7, on7, in7⟩ := zok_of g6
        refine zast_l X hP hS (k := k0) on7 in7 dJ7_fill_bad5a_20 (fun H locs hP hS => ?_)
        refine lv_iinc (v := (x5 + 1)) (lv' := [(5, .int (x5 + 1)), (0, .ref (ad k0)), (2, .int x2), (3, .long x3)]) hx hb dJ7_fill_bad5a_21 hl (k := 3) rfl rfl (by decide) rfl (fun ls hl => ?_)
        refine lv_goto (tgt := 10) hx hb dJ7_fill_bad5a_24 (by decide) ?_
        exact ih10 k0 x2 x3 (x5 + 1) (zSL s1 k0 (x5).toNatClampNeg x3) _ _ _ (lv_sub hl [1, 2, 3, 0] rfl) hP hS hf
  rw [f_J7_fill_bad5a] at hf
  refine lv_aload_n hx hb dJ7_fill_bad5a_0 rfl (lv_at hl 0 rfl) ?_
  obtain ⟨g1, hf⟩ := zgd hf
  obtain ⟨n2, on2⟩ := zia_of g1
  refine zalen X hP (k := k0) (t := 1) on2 (by decide) rfl dJ7_fill_bad5a_1 ?_
  refine lv_iload_n hx hb dJ7_fill_bad5a_2 rfl (lv_at hl 1 rfl) ?_
  refine lv_iload_n hx hb dJ7_fill_bad5a_3 rfl (lv_at hl 2 rfl) ?_
  obtain ⟨r3, s4, h5, hf⟩ := zbd_some hf
  refine zcallS X hP hS hl.1 (As := [.int (nI (zlen O k0)), .int x1, .int x2]) (rest := []) (cn_J7_rangeCheck_23922 hO h5) cw_J7_rangeCheck_23922 ml_J7_13 (by decide) rfl rfl (Nat.le_of_ble_eq_true rfl) dJ7_fill_bad5a_4 (fun H locs hP hS => ?_)
  refine lv_iload_n hx hb dJ7_fill_bad5a_7 rfl (lv_at hl 1 rfl) ?_
  refine lv_istore (lv' := [(5, .int x1), (0, .ref (ad k0)), (1, .int x1), (2, .int x2), (3, .long x3)]) hx hb dJ7_fill_bad5a_8 hl (by decide) rfl (fun ls hl => ?_)
  exact hc_10 ZF k0 x2 x3 x1 s4 _ _ _ (lv_sub hl [1, 3, 4, 0] rfl) hP hS hf
theorem dJ7_fill_53178_0 : decode cJ7_fill_53178 0 = .ok (.iconst 0, 1) := by decide +kernel
theorem dJ7_fill_53178_1 : decode cJ7_fill_53178 1 = .ok (.istore_n 2, 1) := by decide +kernel
theorem dJ7_fill_53178_2 : decode cJ7_fill_53178 2 = .ok (.aload_n 0, 1) := by decide +kernel
theorem dJ7_fill_53178_3 : decode cJ7_fill_53178 3 = .ok (.arraylength, 1) := by decide +kernel
theorem dJ7_fill_53178_4 : decode cJ7_fill_53178 4 = .ok (.istore_n 3, 1) := by decide +kernel
theorem dJ7_fill_53178_5 : decode cJ7_fill_53178 5 = .ok (.iload_n 2, 1) := by decide +kernel
theorem dJ7_fill_53178_6 : decode cJ7_fill_53178 6 = .ok (.iload_n 3, 1) := by decide +kernel
theorem dJ7_fill_53178_7 : decode cJ7_fill_53178 7 = .ok (.if_icmp .ge 13, 3) := by decide +kernel
theorem dJ7_fill_53178_10 : decode cJ7_fill_53178 10 = .ok (.aload_n 0, 1) := by decide +kernel
theorem dJ7_fill_53178_11 : decode cJ7_fill_53178 11 = .ok (.iload_n 2, 1) := by decide +kernel
theorem dJ7_fill_53178_12 : decode cJ7_fill_53178 12 = .ok (.iload_n 1, 1) := by decide +kernel
theorem dJ7_fill_53178_13 : decode cJ7_fill_53178 13 = .ok (.iastore, 1) := by decide +kernel
theorem dJ7_fill_53178_14 : decode cJ7_fill_53178 14 = .ok (.iinc 2 1, 3) := by decide +kernel
theorem dJ7_fill_53178_17 : decode cJ7_fill_53178 17 = .ok (.goto (-12), 3) := by decide +kernel
theorem dJ7_fill_53178_20 : decode cJ7_fill_53178 20 = .ok (.return_, 1) := by decide +kernel
set_option maxHeartbeats 4000000 in
set_option maxRecDepth 100000 in
theorem cn_J7_fill_53178 {O : Nat → OD} {N : Nat} (hO : ∀ k, N ≤ k → O k = .inl (99, [])) {l : Launch} {cA : Nat → ClassId} {ad : Nat → Nat} {D : va_G} {E : Nat → Nat} {A : Nat → Prop} {k0 : Nat} {x1 : Int32} {s0 sr : SS} {rr : Unit} (hf : f_J7_fill_53178 O k0 x1 s0 = some (rr, sr)) : zCon O N cA ad D E l yJ7_fill_53178 cJ7_fill_53178 4 none 0 A [.ref (ad k0), .int x1] s0 none sr := by
  refine zstart (own := RJ7) hO (by decide) rfl (Nat.le_of_ble_eq_true rfl) ?_
  intro p e s m args below meth c X hP ls hl
  have hx := X.1
  have hb := X.2.1
  have hl : lv_has ls 4 [(0, .ref (ad k0)), (1, .int x1)] := hl
  have hS : va_S A s.heap s.heap [] := va_S.rf
  have hc_5 : ∀ (n5 : Nat) (k0 : Nat) (x1 : Int32) (x2 : Int32) (x3 : Int32) (s1 : SS) (H : Heap) (locs : List Loc) (ls : Array Slot), lv_has ls 4 [(0, .ref (ad k0)), (1, .int x1), (2, .int x2), (3, .int x3)] → va_P D ZCL (zw O N cA ad s1) H → va_S A s.heap H locs → f_J7_fill_53178_c5 O n5 k0 x1 x2 x3 s1 = some (rr, sr) → W p l e (zrm 0) s m args below meth c H locs 0 0 (MQ below (zQc O N cA ad D A none sr) args s 0 0 A) (F0 m 5 ls []) := by
    intro n5
    induction n5 with
    | zero =>
      intro k0 x1 x2 x3 s1 H locs ls hl hP hS hf
      rw [f_J7_fill_53178_c5] at hf
      cases hf
    | succ n5 ih5 =>
      intro k0 x1 x2 x3 s1 H locs ls hl hP hS hf
      rw [f_J7_fill_53178_c5] at hf
      refine lv_iload_n hx hb dJ7_fill_53178_5 rfl (lv_at hl 2 rfl) ?_
      refine lv_iload_n hx hb dJ7_fill_53178_6 rfl (lv_at hl 3 rfl) ?_
      refine zicmp_ge (tgt := 20) hx hb dJ7_fill_53178_7 (by decide) hf (fun hf => ?_) (fun hf => ?_)
      · exact zret_v X hP hS hf dJ7_fill_53178_20
      · refine lv_aload_n hx hb dJ7_fill_53178_10 rfl (lv_at hl 0 rfl) ?_
        refine lv_iload_n hx hb dJ7_fill_53178_11 rfl (lv_at hl 2 rfl) ?_
        refine lv_iload_n hx hb dJ7_fill_53178_12 rfl (lv_at hl 1 rfl) ?_
        obtain ⟨g3, hf⟩ := zgd hf
        obtain ⟨n4, rn4, on4, in4⟩ := zok_of g3
        refine zast_i X hP hS (k := k0) on4 in4 dJ7_fill_53178_13 (fun H locs hP hS => ?_)
        refine lv_iinc (v := (x2 + 1)) (lv' := [(2, .int (x2 + 1)), (0, .ref (ad k0)), (1, .int x1), (3, .int x3)]) hx hb dJ7_fill_53178_14 hl (k := 2) rfl rfl (by decide) rfl (fun ls hl => ?_)
        refine lv_goto (tgt := 5) hx hb dJ7_fill_53178_17 (by decide) ?_
        exact ih5 k0 x1 (x2 + 1) x3 (zS s1 k0 (x2).toNatClampNeg x1) _ _ _ (lv_sub hl [1, 2, 0, 3] rfl) hP hS hf
  rw [f_J7_fill_53178] at hf
  refine lv_iconst (v := 0) hx hb dJ7_fill_53178_0 (by decide) ?_
  refine lv_istore_n (lv' := [(2, .int 0), (0, .ref (ad k0)), (1, .int x1)]) hx hb dJ7_fill_53178_1 rfl hl (by decide) rfl (fun ls hl => ?_)
  refine lv_aload_n hx hb dJ7_fill_53178_2 rfl (lv_at hl 1 rfl) ?_
  obtain ⟨g1, hf⟩ := zgd hf
  obtain ⟨n2, on2⟩ := zia_of g1
  refine zalen X hP (k := k0) (t := 0) on2 (by decide) rfl dJ7_fill_53178_3 ?_
  refine lv_istore_n (lv' := [(3, .int (nI (zlen O k0))), (2, .int 0), (0, .ref (ad k0)), (1, .int x1)]) hx hb dJ7_fill_53178_4 rfl hl (by decide) rfl (fun ls hl => ?_)
  exact hc_5 ZF k0 x1 0 (nI (zlen O k0)) s0 _ _ _ (lv_sub hl [2, 3, 1, 0] rfl) hP hS hf
theorem dX0_note_0 : decode cX0_note 0 = .ok (.aload_n 0, 1) := by decide +kernel
theorem dX0_note_1 : decode cX0_note 1 = .ok (.getfield 15, 3) := by decide +kernel
theorem dX0_note_4 : decode cX0_note 4 = .ok (.bipush 24, 2) := by decide +kernel
theorem dX0_note_6 : decode cX0_note 6 = .ok (.if_icmp .ge 23, 3) := by decide +kernel
theorem dX0_note_9 : decode cX0_note 9 = .ok (.aload_n 0, 1) := by decide +kernel
theorem dX0_note_10 : decode cX0_note 10 = .ok (.getfield 11, 3) := by decide +kernel
theorem dX0_note_13 : decode cX0_note 13 = .ok (.aload_n 0, 1) := by decide +kernel
theorem dX0_note_14 : decode cX0_note 14 = .ok (.getfield 15, 3) := by decide +kernel
theorem dX0_note_17 : decode cX0_note 17 = .ok (.iload_n 1, 1) := by decide +kernel
theorem dX0_note_18 : decode cX0_note 18 = .ok (.iastore, 1) := by decide +kernel
theorem dX0_note_19 : decode cX0_note 19 = .ok (.aload_n 0, 1) := by decide +kernel
theorem dX0_note_20 : decode cX0_note 20 = .ok (.dup, 1) := by decide +kernel
theorem dX0_note_21 : decode cX0_note 21 = .ok (.getfield 15, 3) := by decide +kernel
theorem dX0_note_24 : decode cX0_note 24 = .ok (.iconst 1, 1) := by decide +kernel
theorem dX0_note_25 : decode cX0_note 25 = .ok (.iadd, 1) := by decide +kernel
theorem dX0_note_26 : decode cX0_note 26 = .ok (.putfield 15, 3) := by decide +kernel
theorem dX0_note_29 : decode cX0_note 29 = .ok (.return_, 1) := by decide +kernel
set_option maxHeartbeats 4000000 in
set_option maxRecDepth 100000 in
theorem cn_X0_note {l : Launch} {cA : Nat → ClassId} {ad : Nat → Nat} {D : va_G} {E : Nat → Nat} {A : Nat → Prop} {x1 : Int32} {s0 sr : SS} {rr : Unit} (hf : f_X0_note x1 s0 = some (rr, sr)) : zCon Ox Nx cA ad D E l yX0_note cX0_note 2 none 0 A [.ref (ad 12), .int x1] s0 none sr := by
  refine zstart (own := RX0) hOx (by decide) rfl (Nat.le_of_ble_eq_true rfl) ?_
  intro p e s m args below meth c X hP ls hl
  have hx := X.1
  have hb := X.2.1
  have hl : lv_has ls 2 [(0, .ref (ad 12)), (1, .int x1)] := hl
  have hS : va_S A s.heap s.heap [] := va_S.rf
  rw [f_X0_note] at hf
  refine lv_aload_n hx hb dX0_note_0 rfl (lv_at hl 0 rfl) ?_
  refine gf_X0_15 X hP (k := 12) rfl dX0_note_1 ?_
  refine lv_bipush (v := 24) hx hb dX0_note_4 (by decide) ?_
  refine zicmp_ge (tgt := 29) hx hb dX0_note_6 (by decide) hf (fun hf => ?_) (fun hf => ?_)
  · exact zret_v X hP hS hf dX0_note_29
  · refine lv_aload_n hx hb dX0_note_9 rfl (lv_at hl 0 rfl) ?_
    refine gf_X0_11 X hP (k := 12) (q := 82) rfl dX0_note_10 rfl ?_
    refine lv_aload_n hx hb dX0_note_13 rfl (lv_at hl 0 rfl) ?_
    refine gf_X0_15 X hP (k := 12) rfl dX0_note_14 ?_
    refine lv_iload_n hx hb dX0_note_17 rfl (lv_at hl 1 rfl) ?_
    obtain ⟨g1, hf⟩ := zgd hf
    refine zast_i X hP hS (k := 82) (n := 24) (rs := []) rfl g1 dX0_note_18 (fun H locs hP hS => ?_)
    refine lv_aload_n hx hb dX0_note_19 rfl (lv_at hl 0 rfl) ?_
    refine lv_dup hx hb dX0_note_20 rfl ?_
    refine gf_X0_15 X hP (k := 12) rfl dX0_note_21 ?_
    refine lv_iconst (v := 1) hx hb dX0_note_24 (by decide) ?_
    refine lv_iadd hx hb dX0_note_25 ?_
    refine pf_X0_15 X hP hS (k := 12) rfl dX0_note_26 (fun H locs hP hS => ?_)
    exact zret_v X hP hS hf dX0_note_29
theorem dX0_run_0 : decode cX0_run 0 = .ok (.iconst 3, 1) := by decide +kernel
theorem dX0_run_1 : decode cX0_run 1 = .ok (.iload_n 1, 1) := by decide +kernel
theorem dX0_run_2 : decode cX0_run 2 = .ok (.imul, 1) := by decide +kernel
theorem dX0_run_3 : decode cX0_run 3 = .ok (.iload_n 2, 1) := by decide +kernel
theorem dX0_run_4 : decode cX0_run 4 = .ok (.iadd, 1) := by decide +kernel
theorem dX0_run_5 : decode cX0_run 5 = .ok (.istore 5, 2) := by decide +kernel
theorem dX0_run_7 : decode cX0_run 7 = .ok (.iload 4, 2) := by decide +kernel
theorem dX0_run_9 : decode cX0_run 9 = .ok (.bipush 40, 2) := by decide +kernel
theorem dX0_run_11 : decode cX0_run 11 = .ok (.if_icmp .gt 17, 3) := by decide +kernel
theorem dX0_run_14 : decode cX0_run 14 = .ok (.iload 5, 2) := by decide +kernel
theorem dX0_run_16 : decode cX0_run 16 = .ok (.ifCond .lt 12, 3) := by decide +kernel
theorem dX0_run_19 : decode cX0_run 19 = .ok (.iload 5, 2) := by decide +kernel
theorem dX0_run_21 : decode cX0_run 21 = .ok (.getstatic 36, 3) := by decide +kernel
theorem dX0_run_24 : decode cX0_run 24 = .ok (.arraylength, 1) := by decide +kernel
theorem dX0_run_25 : decode cX0_run 25 = .ok (.if_icmp .lt 5, 3) := by decide +kernel
theorem dX0_run_28 : decode cX0_run 28 = .ok (.iconst 0, 1) := by decide +kernel
theorem dX0_run_29 : decode cX0_run 29 = .ok (.ireturn, 1) := by decide +kernel
theorem dX0_run_30 : decode cX0_run 30 = .ok (.getstatic 36, 3) := by decide +kernel
theorem dX0_run_33 : decode cX0_run 33 = .ok (.iload 5, 2) := by decide +kernel
theorem dX0_run_35 : decode cX0_run 35 = .ok (.iaload, 1) := by decide +kernel
theorem dX0_run_36 : decode cX0_run 36 = .ok (.istore 6, 2) := by decide +kernel
theorem dX0_run_38 : decode cX0_run 38 = .ok (.iload 4, 2) := by decide +kernel
theorem dX0_run_40 : decode cX0_run 40 = .ok (.iconst 1, 1) := by decide +kernel
theorem dX0_run_41 : decode cX0_run 41 = .ok (.iadd, 1) := by decide +kernel
theorem dX0_run_42 : decode cX0_run 42 = .ok (.istore 7, 2) := by decide +kernel
theorem dX0_run_44 : decode cX0_run 44 = .ok (.aload_n 0, 1) := by decide +kernel
theorem dX0_run_45 : decode cX0_run 45 = .ok (.iload 6, 2) := by decide +kernel
theorem dX0_run_47 : decode cX0_run 47 = .ok (.invokevirtual 39, 3) := by decide +kernel
theorem dX0_run_50 : decode cX0_run 50 = .ok (.iload 6, 2) := by decide +kernel
theorem dX0_run_52 : decode cX0_run 52 = .ok (.lookupswitch 209 #[(10, 84), (11, 91), (12, 106), (20, 124), (30, 136), (40, 147), (41, 159), (50, 171), (60, 194)], 84) := by decide +kernel
theorem dX0_run_136 : decode cX0_run 136 = .ok (.iload_n 3, 1) := by decide +kernel
theorem dX0_run_137 : decode cX0_run 137 = .ok (.aload_n 0, 1) := by decide +kernel
theorem dX0_run_138 : decode cX0_run 138 = .ok (.getfield 25, 3) := by decide +kernel
theorem dX0_run_141 : decode cX0_run 141 = .ok (.iadd, 1) := by decide +kernel
theorem dX0_run_142 : decode cX0_run 142 = .ok (.ireturn, 1) := by decide +kernel
theorem dX0_run_143 : decode cX0_run 143 = .ok (.aload_n 0, 1) := by decide +kernel
theorem dX0_run_144 : decode cX0_run 144 = .ok (.aload_n 0, 1) := by decide +kernel
theorem dX0_run_145 : decode cX0_run 145 = .ok (.getfield 24, 3) := by decide +kernel
theorem dX0_run_148 : decode cX0_run 148 = .ok (.iconst 0, 1) := by decide +kernel
theorem dX0_run_149 : decode cX0_run 149 = .ok (.iload_n 3, 1) := by decide +kernel
theorem dX0_run_150 : decode cX0_run 150 = .ok (.iload 7, 2) := by decide +kernel
theorem dX0_run_152 : decode cX0_run 152 = .ok (.invokestatic 32, 3) := by decide +kernel
theorem dX0_run_155 : decode cX0_run 155 = .ok (.iconst 2, 1) := by decide +kernel
theorem dX0_run_156 : decode cX0_run 156 = .ok (.imul, 1) := by decide +kernel
theorem dX0_run_157 : decode cX0_run 157 = .ok (.ireturn, 1) := by decide +kernel
theorem dX0_run_158 : decode cX0_run 158 = .ok (.aload_n 0, 1) := by decide +kernel
theorem dX0_run_159 : decode cX0_run 159 = .ok (.aload_n 0, 1) := by decide +kernel
theorem dX0_run_160 : decode cX0_run 160 = .ok (.getfield 24, 3) := by decide +kernel
theorem dX0_run_163 : decode cX0_run 163 = .ok (.iconst 1, 1) := by decide +kernel
theorem dX0_run_164 : decode cX0_run 164 = .ok (.iload_n 3, 1) := by decide +kernel
theorem dX0_run_165 : decode cX0_run 165 = .ok (.iload 7, 2) := by decide +kernel
theorem dX0_run_167 : decode cX0_run 167 = .ok (.invokestatic 32, 3) := by decide +kernel
theorem dX0_run_170 : decode cX0_run 170 = .ok (.aload_n 0, 1) := by decide +kernel
theorem dX0_run_171 : decode cX0_run 171 = .ok (.getfield 31, 3) := by decide +kernel
theorem dX0_run_174 : decode cX0_run 174 = .ok (.isub, 1) := by decide +kernel
theorem dX0_run_175 : decode cX0_run 175 = .ok (.ireturn, 1) := by decide +kernel
theorem dX0_run_176 : decode cX0_run 176 = .ok (.aload_n 0, 1) := by decide +kernel
theorem dX0_run_177 : decode cX0_run 177 = .ok (.iconst 0, 1) := by decide +kernel
theorem dX0_run_178 : decode cX0_run 178 = .ok (.iconst 1, 1) := by decide +kernel
theorem dX0_run_179 : decode cX0_run 179 = .ok (.iload_n 3, 1) := by decide +kernel
theorem dX0_run_180 : decode cX0_run 180 = .ok (.iload 7, 2) := by decide +kernel
theorem dX0_run_182 : decode cX0_run 182 = .ok (.invokestatic 32, 3) := by decide +kernel
theorem dX0_run_185 : decode cX0_run 185 = .ok (.iconst 3, 1) := by decide +kernel
theorem dX0_run_186 : decode cX0_run 186 = .ok (.ixor, 1) := by decide +kernel
theorem dX0_run_187 : decode cX0_run 187 = .ok (.ireturn, 1) := by decide +kernel
theorem dX0_run_188 : decode cX0_run 188 = .ok (.aload_n 0, 1) := by decide +kernel
theorem dX0_run_189 : decode cX0_run 189 = .ok (.iconst 0, 1) := by decide +kernel
theorem dX0_run_190 : decode cX0_run 190 = .ok (.iconst 0, 1) := by decide +kernel
theorem dX0_run_191 : decode cX0_run 191 = .ok (.iload_n 3, 1) := by decide +kernel
theorem dX0_run_192 : decode cX0_run 192 = .ok (.iload 7, 2) := by decide +kernel
theorem dX0_run_194 : decode cX0_run 194 = .ok (.invokestatic 32, 3) := by decide +kernel
theorem dX0_run_197 : decode cX0_run 197 = .ok (.ineg, 1) := by decide +kernel
theorem dX0_run_198 : decode cX0_run 198 = .ok (.ireturn, 1) := by decide +kernel
theorem dX0_run_199 : decode cX0_run 199 = .ok (.aload_n 0, 1) := by decide +kernel
theorem dX0_run_200 : decode cX0_run 200 = .ok (.iconst 2, 1) := by decide +kernel
theorem dX0_run_201 : decode cX0_run 201 = .ok (.iconst 2, 1) := by decide +kernel
theorem dX0_run_202 : decode cX0_run 202 = .ok (.iload_n 3, 1) := by decide +kernel
theorem dX0_run_203 : decode cX0_run 203 = .ok (.iconst 1, 1) := by decide +kernel
theorem dX0_run_204 : decode cX0_run 204 = .ok (.iadd, 1) := by decide +kernel
theorem dX0_run_205 : decode cX0_run 205 = .ok (.iload 7, 2) := by decide +kernel
theorem dX0_run_207 : decode cX0_run 207 = .ok (.invokestatic 32, 3) := by decide +kernel
theorem dX0_run_210 : decode cX0_run 210 = .ok (.ireturn, 1) := by decide +kernel
theorem dX0_run_211 : decode cX0_run 211 = .ok (.aload_n 0, 1) := by decide +kernel
theorem dX0_run_212 : decode cX0_run 212 = .ok (.iconst 2, 1) := by decide +kernel
theorem dX0_run_213 : decode cX0_run 213 = .ok (.iconst 0, 1) := by decide +kernel
theorem dX0_run_214 : decode cX0_run 214 = .ok (.iload_n 3, 1) := by decide +kernel
theorem dX0_run_215 : decode cX0_run 215 = .ok (.iload 7, 2) := by decide +kernel
theorem dX0_run_217 : decode cX0_run 217 = .ok (.invokestatic 32, 3) := by decide +kernel
theorem dX0_run_220 : decode cX0_run 220 = .ok (.iconst 3, 1) := by decide +kernel
theorem dX0_run_221 : decode cX0_run 221 = .ok (.imul, 1) := by decide +kernel
theorem dX0_run_222 : decode cX0_run 222 = .ok (.ireturn, 1) := by decide +kernel
theorem dX0_run_223 : decode cX0_run 223 = .ok (.aload_n 0, 1) := by decide +kernel
theorem dX0_run_224 : decode cX0_run 224 = .ok (.iconst 0, 1) := by decide +kernel
theorem dX0_run_225 : decode cX0_run 225 = .ok (.iconst 1, 1) := by decide +kernel
theorem dX0_run_226 : decode cX0_run 226 = .ok (.iload_n 3, 1) := by decide +kernel
theorem dX0_run_227 : decode cX0_run 227 = .ok (.iload 7, 2) := by decide +kernel
theorem dX0_run_229 : decode cX0_run 229 = .ok (.invokestatic 32, 3) := by decide +kernel
theorem dX0_run_232 : decode cX0_run 232 = .ok (.aload_n 0, 1) := by decide +kernel
theorem dX0_run_233 : decode cX0_run 233 = .ok (.aload_n 0, 1) := by decide +kernel
theorem dX0_run_234 : decode cX0_run 234 = .ok (.getfield 24, 3) := by decide +kernel
theorem dX0_run_237 : decode cX0_run 237 = .ok (.iconst 0, 1) := by decide +kernel
theorem dX0_run_238 : decode cX0_run 238 = .ok (.iconst 2, 1) := by decide +kernel
theorem dX0_run_239 : decode cX0_run 239 = .ok (.iload 7, 2) := by decide +kernel
theorem dX0_run_241 : decode cX0_run 241 = .ok (.invokestatic 32, 3) := by decide +kernel
theorem dX0_run_244 : decode cX0_run 244 = .ok (.iadd, 1) := by decide +kernel
theorem dX0_run_245 : decode cX0_run 245 = .ok (.ireturn, 1) := by decide +kernel
theorem dX0_run_246 : decode cX0_run 246 = .ok (.aload_n 0, 1) := by decide +kernel
theorem dX0_run_247 : decode cX0_run 247 = .ok (.iconst 1, 1) := by decide +kernel
theorem dX0_run_248 : decode cX0_run 248 = .ok (.iconst 2, 1) := by decide +kernel
theorem dX0_run_249 : decode cX0_run 249 = .ok (.iload_n 3, 1) := by decide +kernel
theorem dX0_run_250 : decode cX0_run 250 = .ok (.iload 7, 2) := by decide +kernel
theorem dX0_run_252 : decode cX0_run 252 = .ok (.invokestatic 32, 3) := by decide +kernel
theorem dX0_run_255 : decode cX0_run 255 = .ok (.aload_n 0, 1) := by decide +kernel
theorem dX0_run_256 : decode cX0_run 256 = .ok (.getfield 31, 3) := by decide +kernel
theorem dX0_run_259 : decode cX0_run 259 = .ok (.ixor, 1) := by decide +kernel
theorem dX0_run_260 : decode cX0_run 260 = .ok (.ireturn, 1) := by decide +kernel
theorem dX0_run_261 : decode cX0_run 261 = .ok (.iconst 0, 1) := by decide +kernel
theorem dX0_run_262 : decode cX0_run 262 = .ok (.ireturn, 1) := by decide +kernel
set_option maxHeartbeats 4000000 in
set_option maxRecDepth 100000 in
theorem cn_X0_run {l : Launch} {cA : Nat → ClassId} {ad : Nat → Nat} {D : va_G} {E : Nat → Nat} {A : Nat → Prop} : ∀ (n : Nat) {x1 x2 x3 x4 : Int32} {s0 sr : SS} {rr : Int32}, f_X0_run n x1 x2 x3 x4 s0 = some (rr, sr) → zCon Ox Nx cA ad D E l yX0_run cX0_run 8 (some .int) n A [.ref (ad 12), .int x1, .int x2, .int x3, .int x4] s0 (some (.int rr)) sr := by
  intro n
  induction n with
  | zero => intro x1 x2 x3 x4 s0 sr rr hf; rw [f_X0_run] at hf; cases hf
  | succ n ih =>
    intro x1 x2 x3 x4 s0 sr rr hf
    refine zstart (own := RX0) hOx (by decide) rfl (Nat.le_of_ble_eq_true rfl) ?_
    intro p e s m args below meth c X hP ls hl
    have hx := X.1
    have hb := X.2.1
    have hl : lv_has ls 8 [(0, .ref (ad 12)), (1, .int x1), (2, .int x2), (3, .int x3), (4, .int x4)] := hl
    have hS : va_S A s.heap s.heap [] := va_S.rf
    rw [f_X0_run] at hf
    refine lv_iconst (v := 3) hx hb dX0_run_0 (by decide) ?_
    refine lv_iload_n hx hb dX0_run_1 rfl (lv_at hl 1 rfl) ?_
    refine lv_imul hx hb dX0_run_2 ?_
    refine lv_iload_n hx hb dX0_run_3 rfl (lv_at hl 2 rfl) ?_
    refine lv_iadd hx hb dX0_run_4 ?_
    refine lv_istore (lv' := [(5, .int (((3 : Int32) * x1) + x2)), (0, .ref (ad 12)), (1, .int x1), (2, .int x2), (3, .int x3), (4, .int x4)]) hx hb dX0_run_5 hl (by decide) rfl (fun ls hl => ?_)
    refine lv_iload hx hb dX0_run_7 (lv_at hl 5 rfl) ?_
    refine lv_bipush (v := 40) hx hb dX0_run_9 (by decide) ?_
    refine zicmp_gt (tgt := 28) hx hb dX0_run_11 (by decide) hf (fun hf => ?_) (fun hf => ?_)
    · refine lv_iconst (v := 0) hx hb dX0_run_28 (by decide) ?_
      exact zret_i X hP hS hf rfl dX0_run_29
    · refine lv_iload hx hb dX0_run_14 (lv_at hl 0 rfl) ?_
      refine zif_lt (tgt := 28) hx hb dX0_run_16 (by decide) hf (fun hf => ?_) (fun hf => ?_)
      · refine lv_iconst (v := 0) hx hb dX0_run_28 (by decide) ?_
        exact zret_i X hP hS hf rfl dX0_run_29
      · refine lv_iload hx hb dX0_run_19 (lv_at hl 0 rfl) ?_
        refine zgsN X hS (i := 3) rfl nf_X0_36 dX0_run_21 ?_
        refine zstl X hS (k := 3) (v := 18) rfl (by decide) dX0_run_24 ?_
        refine zicmp_lt (tgt := 30) hx hb dX0_run_25 (by decide) hf (fun hf => ?_) (fun hf => ?_)
        · refine zgsN X hS (i := 3) rfl nf_X0_36 dX0_run_30 ?_
          refine lv_iload hx hb dX0_run_33 (lv_at hl 0 rfl) ?_
          obtain ⟨g1, hf⟩ := zgd hf
          refine zst X hS (k := 3) (n := 18) rfl rfl g1 dX0_run_35 ?_
          refine lv_istore (lv' := [(6, .int (ztab 3 (((3 : Int32) * x1) + x2))), (5, .int (((3 : Int32) * x1) + x2)), (0, .ref (ad 12)), (1, .int x1), (2, .int x2), (3, .int x3), (4, .int x4)]) hx hb dX0_run_36 hl (by decide) rfl (fun ls hl => ?_)
          refine lv_iload hx hb dX0_run_38 (lv_at hl 6 rfl) ?_
          refine lv_iconst (v := 1) hx hb dX0_run_40 (by decide) ?_
          refine lv_iadd hx hb dX0_run_41 ?_
          refine lv_istore (lv' := [(7, .int (x4 + (1 : Int32))), (6, .int (ztab 3 (((3 : Int32) * x1) + x2))), (5, .int (((3 : Int32) * x1) + x2)), (0, .ref (ad 12)), (1, .int x1), (2, .int x2), (3, .int x3), (4, .int x4)]) hx hb dX0_run_42 hl (by decide) rfl (fun ls hl => ?_)
          refine lv_aload_n hx hb dX0_run_44 rfl (lv_at hl 3 rfl) ?_
          refine lv_iload hx hb dX0_run_45 (lv_at hl 1 rfl) ?_
          obtain ⟨r2, s3, h4, hf⟩ := zbd_some hf
          refine zcallV X hP hS hl.1 (k := 12) (As := [.int (ztab 3 (((3 : Int32) * x1) + x2))]) (rest := []) (cn_X0_note h4) cw_X0_note zp_0 rfl (by decide) rfl ml_X0_39 ⟨by omega, by omega⟩ rfl rfl (Nat.le_of_ble_eq_true rfl) dX0_run_47 (fun H locs hP hS => ?_)
          refine lv_iload hx hb dX0_run_50 (lv_at hl 1 rfl) ?_
          by_cases e5 : (ztab 3 (((3 : Int32) * x1) + x2)) = 10
          · rw [if_pos e5] at hf
            refine lv_lookup (tgt := 136) (off := 84) hx hb dX0_run_52 (by decide) (by first | (rw [e5]; done) | (rw [e5]; decide +kernel)) (by decide) ?_
            refine lv_iload_n hx hb dX0_run_136 rfl (lv_at hl 6 rfl) ?_
            refine lv_aload_n hx hb dX0_run_137 rfl (lv_at hl 3 rfl) ?_
            refine gf_X0_25 X hP (k := 12) rfl dX0_run_138 ?_
            refine lv_iadd hx hb dX0_run_141 ?_
            exact zret_i X hP hS hf rfl dX0_run_142
          · rw [if_neg e5] at hf
            by_cases e6 : (ztab 3 (((3 : Int32) * x1) + x2)) = 11
            · rw [if_pos e6] at hf
              refine lv_lookup (tgt := 143) (off := 91) hx hb dX0_run_52 (by decide) (by first | (rw [e6]; done) | (rw [e6]; decide +kernel)) (by decide) ?_
              refine lv_aload_n hx hb dX0_run_143 rfl (lv_at hl 3 rfl) ?_
              refine lv_aload_n hx hb dX0_run_144 rfl (lv_at hl 3 rfl) ?_
              refine gf_X0_24 X hP (k := 12) rfl dX0_run_145 ?_
              refine lv_iconst (v := 0) hx hb dX0_run_148 (by decide) ?_
              refine lv_iload_n hx hb dX0_run_149 rfl (lv_at hl 6 rfl) ?_
              refine lv_iload hx hb dX0_run_150 (lv_at hl 0 rfl) ?_
              obtain ⟨r7, s8, h9, hf⟩ := zbd_some hf
              refine zcallS X hP hS hl.1 (As := [.ref (ad 12), .int (s3.1 12 2), .int 0, .int x3, .int (x4 + (1 : Int32))]) (rest := []) (ih h9) cw_X0_run ml_X0_32 ⟨by omega, by omega⟩ rfl rfl (Nat.le_of_ble_eq_true rfl) dX0_run_152 (fun H locs hP hS => ?_)
              refine lv_iconst (v := 2) hx hb dX0_run_155 (by decide) ?_
              refine lv_imul hx hb dX0_run_156 ?_
              exact zret_i X hP hS hf rfl dX0_run_157
            · rw [if_neg e6] at hf
              by_cases e10 : (ztab 3 (((3 : Int32) * x1) + x2)) = 12
              · rw [if_pos e10] at hf
                refine lv_lookup (tgt := 158) (off := 106) hx hb dX0_run_52 (by decide) (by first | (rw [e10]; done) | (rw [e10]; decide +kernel)) (by decide) ?_
                refine lv_aload_n hx hb dX0_run_158 rfl (lv_at hl 3 rfl) ?_
                refine lv_aload_n hx hb dX0_run_159 rfl (lv_at hl 3 rfl) ?_
                refine gf_X0_24 X hP (k := 12) rfl dX0_run_160 ?_
                refine lv_iconst (v := 1) hx hb dX0_run_163 (by decide) ?_
                refine lv_iload_n hx hb dX0_run_164 rfl (lv_at hl 6 rfl) ?_
                refine lv_iload hx hb dX0_run_165 (lv_at hl 0 rfl) ?_
                obtain ⟨r11, s12, h13, hf⟩ := zbd_some hf
                refine zcallS X hP hS hl.1 (As := [.ref (ad 12), .int (s3.1 12 2), .int 1, .int x3, .int (x4 + (1 : Int32))]) (rest := []) (ih h13) cw_X0_run ml_X0_32 ⟨by omega, by omega⟩ rfl rfl (Nat.le_of_ble_eq_true rfl) dX0_run_167 (fun H locs hP hS => ?_)
                refine lv_aload_n hx hb dX0_run_170 rfl (lv_at hl 3 rfl) ?_
                refine gf_X0_31 X hP (k := 12) rfl dX0_run_171 ?_
                refine lv_isub hx hb dX0_run_174 ?_
                exact zret_i X hP hS hf rfl dX0_run_175
              · rw [if_neg e10] at hf
                by_cases e14 : (ztab 3 (((3 : Int32) * x1) + x2)) = 20
                · rw [if_pos e14] at hf
                  refine lv_lookup (tgt := 176) (off := 124) hx hb dX0_run_52 (by decide) (by first | (rw [e14]; done) | (rw [e14]; decide +kernel)) (by decide) ?_
                  refine lv_aload_n hx hb dX0_run_176 rfl (lv_at hl 3 rfl) ?_
                  refine lv_iconst (v := 0) hx hb dX0_run_177 (by decide) ?_
                  refine lv_iconst (v := 1) hx hb dX0_run_178 (by decide) ?_
                  refine lv_iload_n hx hb dX0_run_179 rfl (lv_at hl 6 rfl) ?_
                  refine lv_iload hx hb dX0_run_180 (lv_at hl 0 rfl) ?_
                  obtain ⟨r15, s16, h17, hf⟩ := zbd_some hf
                  refine zcallS X hP hS hl.1 (As := [.ref (ad 12), .int 0, .int 1, .int x3, .int (x4 + (1 : Int32))]) (rest := []) (ih h17) cw_X0_run ml_X0_32 ⟨by omega, by omega⟩ rfl rfl (Nat.le_of_ble_eq_true rfl) dX0_run_182 (fun H locs hP hS => ?_)
                  refine lv_iconst (v := 3) hx hb dX0_run_185 (by decide) ?_
                  refine lv_ixor hx hb dX0_run_186 ?_
                  exact zret_i X hP hS hf rfl dX0_run_187
                · rw [if_neg e14] at hf
                  by_cases e18 : (ztab 3 (((3 : Int32) * x1) + x2)) = 30
                  · rw [if_pos e18] at hf
                    refine lv_lookup (tgt := 188) (off := 136) hx hb dX0_run_52 (by decide) (by first | (rw [e18]; done) | (rw [e18]; decide +kernel)) (by decide) ?_
                    refine lv_aload_n hx hb dX0_run_188 rfl (lv_at hl 3 rfl) ?_
                    refine lv_iconst (v := 0) hx hb dX0_run_189 (by decide) ?_
                    refine lv_iconst (v := 0) hx hb dX0_run_190 (by decide) ?_
                    refine lv_iload_n hx hb dX0_run_191 rfl (lv_at hl 6 rfl) ?_
                    refine lv_iload hx hb dX0_run_192 (lv_at hl 0 rfl) ?_
                    obtain ⟨r19, s20, h21, hf⟩ := zbd_some hf
                    refine zcallS X hP hS hl.1 (As := [.ref (ad 12), .int 0, .int 0, .int x3, .int (x4 + (1 : Int32))]) (rest := []) (ih h21) cw_X0_run ml_X0_32 ⟨by omega, by omega⟩ rfl rfl (Nat.le_of_ble_eq_true rfl) dX0_run_194 (fun H locs hP hS => ?_)
                    refine lv_ineg hx hb dX0_run_197 ?_
                    exact zret_i X hP hS hf rfl dX0_run_198
                  · rw [if_neg e18] at hf
                    by_cases e22 : (ztab 3 (((3 : Int32) * x1) + x2)) = 40
                    · rw [if_pos e22] at hf
                      refine lv_lookup (tgt := 199) (off := 147) hx hb dX0_run_52 (by decide) (by first | (rw [e22]; done) | (rw [e22]; decide +kernel)) (by decide) ?_
                      refine lv_aload_n hx hb dX0_run_199 rfl (lv_at hl 3 rfl) ?_
                      refine lv_iconst (v := 2) hx hb dX0_run_200 (by decide) ?_
                      refine lv_iconst (v := 2) hx hb dX0_run_201 (by decide) ?_
                      refine lv_iload_n hx hb dX0_run_202 rfl (lv_at hl 6 rfl) ?_
                      refine lv_iconst (v := 1) hx hb dX0_run_203 (by decide) ?_
                      refine lv_iadd hx hb dX0_run_204 ?_
                      refine lv_iload hx hb dX0_run_205 (lv_at hl 0 rfl) ?_
                      obtain ⟨r23, s24, h25, hf⟩ := zbd_some hf
                      refine zcallS X hP hS hl.1 (As := [.ref (ad 12), .int 2, .int 2, .int (x3 + (1 : Int32)), .int (x4 + (1 : Int32))]) (rest := []) (ih h25) cw_X0_run ml_X0_32 ⟨by omega, by omega⟩ rfl rfl (Nat.le_of_ble_eq_true rfl) dX0_run_207 (fun H locs hP hS => ?_)
                      exact zret_i X hP hS hf rfl dX0_run_210
                    · rw [if_neg e22] at hf
                      by_cases e26 : (ztab 3 (((3 : Int32) * x1) + x2)) = 41
                      · rw [if_pos e26] at hf
                        refine lv_lookup (tgt := 211) (off := 159) hx hb dX0_run_52 (by decide) (by first | (rw [e26]; done) | (rw [e26]; decide +kernel)) (by decide) ?_
                        refine lv_aload_n hx hb dX0_run_211 rfl (lv_at hl 3 rfl) ?_
                        refine lv_iconst (v := 2) hx hb dX0_run_212 (by decide) ?_
                        refine lv_iconst (v := 0) hx hb dX0_run_213 (by decide) ?_
                        refine lv_iload_n hx hb dX0_run_214 rfl (lv_at hl 6 rfl) ?_
                        refine lv_iload hx hb dX0_run_215 (lv_at hl 0 rfl) ?_
                        obtain ⟨r27, s28, h29, hf⟩ := zbd_some hf
                        refine zcallS X hP hS hl.1 (As := [.ref (ad 12), .int 2, .int 0, .int x3, .int (x4 + (1 : Int32))]) (rest := []) (ih h29) cw_X0_run ml_X0_32 ⟨by omega, by omega⟩ rfl rfl (Nat.le_of_ble_eq_true rfl) dX0_run_217 (fun H locs hP hS => ?_)
                        refine lv_iconst (v := 3) hx hb dX0_run_220 (by decide) ?_
                        refine lv_imul hx hb dX0_run_221 ?_
                        exact zret_i X hP hS hf rfl dX0_run_222
                      · rw [if_neg e26] at hf
                        by_cases e30 : (ztab 3 (((3 : Int32) * x1) + x2)) = 50
                        · rw [if_pos e30] at hf
                          refine lv_lookup (tgt := 223) (off := 171) hx hb dX0_run_52 (by decide) (by first | (rw [e30]; done) | (rw [e30]; decide +kernel)) (by decide) ?_
                          refine lv_aload_n hx hb dX0_run_223 rfl (lv_at hl 3 rfl) ?_
                          refine lv_iconst (v := 0) hx hb dX0_run_224 (by decide) ?_
                          refine lv_iconst (v := 1) hx hb dX0_run_225 (by decide) ?_
                          refine lv_iload_n hx hb dX0_run_226 rfl (lv_at hl 6 rfl) ?_
                          refine lv_iload hx hb dX0_run_227 (lv_at hl 0 rfl) ?_
                          obtain ⟨r31, s32, h33, hf⟩ := zbd_some hf
                          refine zcallS X hP hS hl.1 (As := [.ref (ad 12), .int 0, .int 1, .int x3, .int (x4 + (1 : Int32))]) (rest := []) (ih h33) cw_X0_run ml_X0_32 ⟨by omega, by omega⟩ rfl rfl (Nat.le_of_ble_eq_true rfl) dX0_run_229 (fun H locs hP hS => ?_)
                          refine lv_aload_n hx hb dX0_run_232 rfl (lv_at hl 3 rfl) ?_
                          refine lv_aload_n hx hb dX0_run_233 rfl (lv_at hl 3 rfl) ?_
                          refine gf_X0_24 X hP (k := 12) rfl dX0_run_234 ?_
                          refine lv_iconst (v := 0) hx hb dX0_run_237 (by decide) ?_
                          refine lv_iconst (v := 2) hx hb dX0_run_238 (by decide) ?_
                          refine lv_iload hx hb dX0_run_239 (lv_at hl 0 rfl) ?_
                          obtain ⟨r34, s35, h36, hf⟩ := zbd_some hf
                          refine zcallS X hP hS hl.1 (As := [.ref (ad 12), .int (s32.1 12 2), .int 0, .int 2, .int (x4 + (1 : Int32))]) (rest := [.int r31]) (ih h36) cw_X0_run ml_X0_32 ⟨by omega, by omega⟩ rfl rfl (Nat.le_of_ble_eq_true rfl) dX0_run_241 (fun H locs hP hS => ?_)
                          refine lv_iadd hx hb dX0_run_244 ?_
                          exact zret_i X hP hS hf rfl dX0_run_245
                        · rw [if_neg e30] at hf
                          by_cases e37 : (ztab 3 (((3 : Int32) * x1) + x2)) = 60
                          · rw [if_pos e37] at hf
                            refine lv_lookup (tgt := 246) (off := 194) hx hb dX0_run_52 (by decide) (by first | (rw [e37]; done) | (rw [e37]; decide +kernel)) (by decide) ?_
                            refine lv_aload_n hx hb dX0_run_246 rfl (lv_at hl 3 rfl) ?_
                            refine lv_iconst (v := 1) hx hb dX0_run_247 (by decide) ?_
                            refine lv_iconst (v := 2) hx hb dX0_run_248 (by decide) ?_
                            refine lv_iload_n hx hb dX0_run_249 rfl (lv_at hl 6 rfl) ?_
                            refine lv_iload hx hb dX0_run_250 (lv_at hl 0 rfl) ?_
                            obtain ⟨r38, s39, h40, hf⟩ := zbd_some hf
                            refine zcallS X hP hS hl.1 (As := [.ref (ad 12), .int 1, .int 2, .int x3, .int (x4 + (1 : Int32))]) (rest := []) (ih h40) cw_X0_run ml_X0_32 ⟨by omega, by omega⟩ rfl rfl (Nat.le_of_ble_eq_true rfl) dX0_run_252 (fun H locs hP hS => ?_)
                            refine lv_aload_n hx hb dX0_run_255 rfl (lv_at hl 3 rfl) ?_
                            refine gf_X0_31 X hP (k := 12) rfl dX0_run_256 ?_
                            refine lv_ixor hx hb dX0_run_259 ?_
                            exact zret_i X hP hS hf rfl dX0_run_260
                          · rw [if_neg e37] at hf
                            have ye5 := zne e5 (v := 10) (by decide)
                            have ye6 := zne e6 (v := 11) (by decide)
                            have ye10 := zne e10 (v := 12) (by decide)
                            have ye14 := zne e14 (v := 20) (by decide)
                            have ye18 := zne e18 (v := 30) (by decide)
                            have ye22 := zne e22 (v := 40) (by decide)
                            have ye26 := zne e26 (v := 41) (by decide)
                            have ye30 := zne e30 (v := 50) (by decide)
                            have ye37 := zne e37 (v := 60) (by decide)
                            refine lv_lookup (tgt := 261) hx hb dX0_run_52 (by decide) (off := 209) (by simp [Op.lookupswitch.offset, ye5, Ne.symm ye5, ye6, Ne.symm ye6, ye10, Ne.symm ye10, ye14, Ne.symm ye14, ye18, Ne.symm ye18, ye22, Ne.symm ye22, ye26, Ne.symm ye26, ye30, Ne.symm ye30, ye37, Ne.symm ye37]) (by decide) ?_
                            refine lv_iconst (v := 0) hx hb dX0_run_261 (by decide) ?_
                            exact zret_i X hP hS hf rfl dX0_run_262
        · refine lv_iconst (v := 0) hx hb dX0_run_28 (by decide) ?_
          exact zret_i X hP hS hf rfl dX0_run_29
theorem dX0_begin_0 : decode cX0_begin 0 = .ok (.aload_n 0, 1) := by decide +kernel
theorem dX0_begin_1 : decode cX0_begin 1 = .ok (.iconst 0, 1) := by decide +kernel
theorem dX0_begin_2 : decode cX0_begin 2 = .ok (.putfield 15, 3) := by decide +kernel
theorem dX0_begin_5 : decode cX0_begin 5 = .ok (.aload_n 0, 1) := by decide +kernel
theorem dX0_begin_6 : decode cX0_begin 6 = .ok (.aload_n 1, 1) := by decide +kernel
theorem dX0_begin_7 : decode cX0_begin 7 = .ok (.getfield 19, 3) := by decide +kernel
theorem dX0_begin_10 : decode cX0_begin 10 = .ok (.putfield 24, 3) := by decide +kernel
theorem dX0_begin_13 : decode cX0_begin 13 = .ok (.aload_n 0, 1) := by decide +kernel
theorem dX0_begin_14 : decode cX0_begin 14 = .ok (.iload_n 2, 1) := by decide +kernel
theorem dX0_begin_15 : decode cX0_begin 15 = .ok (.putfield 25, 3) := by decide +kernel
theorem dX0_begin_18 : decode cX0_begin 18 = .ok (.aload_n 0, 1) := by decide +kernel
theorem dX0_begin_19 : decode cX0_begin 19 = .ok (.aload_n 1, 1) := by decide +kernel
theorem dX0_begin_20 : decode cX0_begin 20 = .ok (.getfield 28, 3) := by decide +kernel
theorem dX0_begin_23 : decode cX0_begin 23 = .ok (.putfield 31, 3) := by decide +kernel
theorem dX0_begin_26 : decode cX0_begin 26 = .ok (.aload_n 0, 1) := by decide +kernel
theorem dX0_begin_27 : decode cX0_begin 27 = .ok (.aload_n 0, 1) := by decide +kernel
theorem dX0_begin_28 : decode cX0_begin 28 = .ok (.getfield 24, 3) := by decide +kernel
theorem dX0_begin_31 : decode cX0_begin 31 = .ok (.iload_n 3, 1) := by decide +kernel
theorem dX0_begin_32 : decode cX0_begin 32 = .ok (.iload 4, 2) := by decide +kernel
theorem dX0_begin_34 : decode cX0_begin 34 = .ok (.iconst 0, 1) := by decide +kernel
theorem dX0_begin_35 : decode cX0_begin 35 = .ok (.invokestatic 32, 3) := by decide +kernel
theorem dX0_begin_38 : decode cX0_begin 38 = .ok (.ireturn, 1) := by decide +kernel
set_option maxHeartbeats 4000000 in
set_option maxRecDepth 100000 in
theorem cn_X0_begin {l : Launch} {cA : Nat → ClassId} {ad : Nat → Nat} {D : va_G} {E : Nat → Nat} {A : Nat → Prop} {k1 : Nat} {x2 : Int32} {x3 : Int32} {x4 : Int32} {s0 sr : SS} {rr : Int32} (hf : f_X0_begin k1 x2 x3 x4 s0 = some (rr, sr)) : zCon Ox Nx cA ad D E l yX0_begin cX0_begin 5 (some .int) 11 A [.ref (ad 12), .ref (ad k1), .int x2, .int x3, .int x4] s0 (some (.int rr)) sr := by
  refine zstart (own := RX0) hOx (by decide) rfl (Nat.le_of_ble_eq_true rfl) ?_
  intro p e s m args below meth c X hP ls hl
  have hx := X.1
  have hb := X.2.1
  have hl : lv_has ls 5 [(0, .ref (ad 12)), (1, .ref (ad k1)), (2, .int x2), (3, .int x3), (4, .int x4)] := hl
  have hS : va_S A s.heap s.heap [] := va_S.rf
  rw [f_X0_begin] at hf
  obtain ⟨gp1, hf⟩ := zgd hf
  refine lv_aload_n hx hb dX0_begin_0 rfl (lv_at hl 0 rfl) ?_
  refine lv_iconst (v := 0) hx hb dX0_begin_1 (by decide) ?_
  refine pf_X0_15 X hP hS (k := 12) rfl dX0_begin_2 (fun H locs hP hS => ?_)
  refine lv_aload_n hx hb dX0_begin_5 rfl (lv_at hl 0 rfl) ?_
  refine lv_aload_n hx hb dX0_begin_6 rfl (lv_at hl 1 rfl) ?_
  refine gf_X0_19 X hP (k := k1) gp1 dX0_begin_7 ?_
  refine pf_X0_24 X hP hS (k := 12) rfl dX0_begin_10 (fun H locs hP hS => ?_)
  refine lv_aload_n hx hb dX0_begin_13 rfl (lv_at hl 0 rfl) ?_
  refine lv_iload_n hx hb dX0_begin_14 rfl (lv_at hl 2 rfl) ?_
  refine pf_X0_25 X hP hS (k := 12) rfl dX0_begin_15 (fun H locs hP hS => ?_)
  refine lv_aload_n hx hb dX0_begin_18 rfl (lv_at hl 0 rfl) ?_
  refine lv_aload_n hx hb dX0_begin_19 rfl (lv_at hl 1 rfl) ?_
  refine gf_X0_28 X hP (k := k1) gp1 dX0_begin_20 ?_
  refine pf_X0_31 X hP hS (k := 12) rfl dX0_begin_23 (fun H locs hP hS => ?_)
  refine lv_aload_n hx hb dX0_begin_26 rfl (lv_at hl 0 rfl) ?_
  refine lv_aload_n hx hb dX0_begin_27 rfl (lv_at hl 0 rfl) ?_
  refine gf_X0_24 X hP (k := 12) rfl dX0_begin_28 ?_
  refine lv_iload_n hx hb dX0_begin_31 rfl (lv_at hl 3 rfl) ?_
  refine lv_iload hx hb dX0_begin_32 (lv_at hl 4 rfl) ?_
  refine lv_iconst (v := 0) hx hb dX0_begin_34 (by decide) ?_
  obtain ⟨r1, s2, h3, hf⟩ := zbd_some hf
  refine zcallS X hP hS hl.1 (As := [.ref (ad 12), .int ((zS (zS (zS (zS s0 12 1 0) 12 2 ((zS s0 12 1 0).1 k1 0)) 12 3 x2) 12 4 ((zS (zS (zS s0 12 1 0) 12 2 ((zS s0 12 1 0).1 k1 0)) 12 3 x2).1 k1 1)).1 12 2), .int x3, .int x4, .int 0]) (rest := []) (cn_X0_run 10 h3) cw_X0_run ml_X0_32 (by decide) rfl rfl (Nat.le_of_ble_eq_true rfl) dX0_begin_35 (fun H locs hP hS => ?_)
  exact zret_i X hP hS hf rfl dX0_begin_38
theorem dX1_forget_0 : decode cX1_forget 0 = .ok (.aload_n 0, 1) := by decide +kernel
theorem dX1_forget_1 : decode cX1_forget 1 = .ok (.iconst 0, 1) := by decide +kernel
theorem dX1_forget_2 : decode cX1_forget 2 = .ok (.putfield 22, 3) := by decide +kernel
theorem dX1_forget_5 : decode cX1_forget 5 = .ok (.aload_n 0, 1) := by decide +kernel
theorem dX1_forget_6 : decode cX1_forget 6 = .ok (.iconst 0, 1) := by decide +kernel
theorem dX1_forget_7 : decode cX1_forget 7 = .ok (.putfield 26, 3) := by decide +kernel
theorem dX1_forget_10 : decode cX1_forget 10 = .ok (.return_, 1) := by decide +kernel
set_option maxHeartbeats 4000000 in
set_option maxRecDepth 100000 in
theorem cn_X1_forget {l : Launch} {cA : Nat → ClassId} {ad : Nat → Nat} {D : va_G} {E : Nat → Nat} {A : Nat → Prop}  {s0 sr : SS} {rr : Unit} (hf : f_X1_forget s0 = some (rr, sr)) : zCon Ox Nx cA ad D E l yX1_forget cX1_forget 1 none 0 A [.ref (ad 7)] s0 none sr := by
  refine zstart (own := RX1) hOx (by decide) rfl (Nat.le_of_ble_eq_true rfl) ?_
  intro p e s m args below meth c X hP ls hl
  have hx := X.1
  have hb := X.2.1
  have hl : lv_has ls 1 [(0, .ref (ad 7))] := hl
  have hS : va_S A s.heap s.heap [] := va_S.rf
  rw [f_X1_forget] at hf
  refine lv_aload_n hx hb dX1_forget_0 rfl (lv_at hl 0 rfl) ?_
  refine lv_iconst (v := 0) hx hb dX1_forget_1 (by decide) ?_
  refine pf_X1_22 X hP hS (k := 7) rfl dX1_forget_2 (fun H locs hP hS => ?_)
  refine lv_aload_n hx hb dX1_forget_5 rfl (lv_at hl 0 rfl) ?_
  refine lv_iconst (v := 0) hx hb dX1_forget_6 (by decide) ?_
  refine pf_X1_26 X hP hS (k := 7) rfl dX1_forget_7 (fun H locs hP hS => ?_)
  exact zret_v X hP hS hf dX1_forget_10
theorem dX1_dropEldest_0 : decode cX1_dropEldest 0 = .ok (.aload_n 0, 1) := by decide +kernel
theorem dX1_dropEldest_1 : decode cX1_dropEldest 1 = .ok (.getfield 9, 3) := by decide +kernel
theorem dX1_dropEldest_4 : decode cX1_dropEldest 4 = .ok (.iconst 1, 1) := by decide +kernel
theorem dX1_dropEldest_5 : decode cX1_dropEldest 5 = .ok (.aload_n 0, 1) := by decide +kernel
theorem dX1_dropEldest_6 : decode cX1_dropEldest 6 = .ok (.getfield 9, 3) := by decide +kernel
theorem dX1_dropEldest_9 : decode cX1_dropEldest 9 = .ok (.iconst 0, 1) := by decide +kernel
theorem dX1_dropEldest_10 : decode cX1_dropEldest 10 = .ok (.bipush 11, 2) := by decide +kernel
theorem dX1_dropEldest_12 : decode cX1_dropEldest 12 = .ok (.invokestatic 32, 3) := by decide +kernel
theorem dX1_dropEldest_15 : decode cX1_dropEldest 15 = .ok (.aload_n 0, 1) := by decide +kernel
theorem dX1_dropEldest_16 : decode cX1_dropEldest 16 = .ok (.getfield 13, 3) := by decide +kernel
theorem dX1_dropEldest_19 : decode cX1_dropEldest 19 = .ok (.iconst 1, 1) := by decide +kernel
theorem dX1_dropEldest_20 : decode cX1_dropEldest 20 = .ok (.aload_n 0, 1) := by decide +kernel
theorem dX1_dropEldest_21 : decode cX1_dropEldest 21 = .ok (.getfield 13, 3) := by decide +kernel
theorem dX1_dropEldest_24 : decode cX1_dropEldest 24 = .ok (.iconst 0, 1) := by decide +kernel
theorem dX1_dropEldest_25 : decode cX1_dropEldest 25 = .ok (.bipush 11, 2) := by decide +kernel
theorem dX1_dropEldest_27 : decode cX1_dropEldest 27 = .ok (.invokestatic 32, 3) := by decide +kernel
theorem dX1_dropEldest_30 : decode cX1_dropEldest 30 = .ok (.aload_n 0, 1) := by decide +kernel
theorem dX1_dropEldest_31 : decode cX1_dropEldest 31 = .ok (.getfield 16, 3) := by decide +kernel
theorem dX1_dropEldest_34 : decode cX1_dropEldest 34 = .ok (.iconst 1, 1) := by decide +kernel
theorem dX1_dropEldest_35 : decode cX1_dropEldest 35 = .ok (.aload_n 0, 1) := by decide +kernel
theorem dX1_dropEldest_36 : decode cX1_dropEldest 36 = .ok (.getfield 16, 3) := by decide +kernel
theorem dX1_dropEldest_39 : decode cX1_dropEldest 39 = .ok (.iconst 0, 1) := by decide +kernel
theorem dX1_dropEldest_40 : decode cX1_dropEldest 40 = .ok (.bipush 11, 2) := by decide +kernel
theorem dX1_dropEldest_42 : decode cX1_dropEldest 42 = .ok (.invokestatic 32, 3) := by decide +kernel
theorem dX1_dropEldest_45 : decode cX1_dropEldest 45 = .ok (.aload_n 0, 1) := by decide +kernel
theorem dX1_dropEldest_46 : decode cX1_dropEldest 46 = .ok (.getfield 19, 3) := by decide +kernel
theorem dX1_dropEldest_49 : decode cX1_dropEldest 49 = .ok (.iconst 1, 1) := by decide +kernel
theorem dX1_dropEldest_50 : decode cX1_dropEldest 50 = .ok (.aload_n 0, 1) := by decide +kernel
theorem dX1_dropEldest_51 : decode cX1_dropEldest 51 = .ok (.getfield 19, 3) := by decide +kernel
theorem dX1_dropEldest_54 : decode cX1_dropEldest 54 = .ok (.iconst 0, 1) := by decide +kernel
theorem dX1_dropEldest_55 : decode cX1_dropEldest 55 = .ok (.bipush 11, 2) := by decide +kernel
theorem dX1_dropEldest_57 : decode cX1_dropEldest 57 = .ok (.invokestatic 32, 3) := by decide +kernel
theorem dX1_dropEldest_60 : decode cX1_dropEldest 60 = .ok (.aload_n 0, 1) := by decide +kernel
theorem dX1_dropEldest_61 : decode cX1_dropEldest 61 = .ok (.bipush 11, 2) := by decide +kernel
theorem dX1_dropEldest_63 : decode cX1_dropEldest 63 = .ok (.putfield 22, 3) := by decide +kernel
theorem dX1_dropEldest_66 : decode cX1_dropEldest 66 = .ok (.return_, 1) := by decide +kernel
set_option maxHeartbeats 4000000 in
set_option maxRecDepth 100000 in
theorem cn_X1_dropEldest {l : Launch} {cA : Nat → ClassId} {ad : Nat → Nat} {D : va_G} {E : Nat → Nat} {A : Nat → Prop}  {s0 sr : SS} {rr : Unit} (hf : f_X1_dropEldest s0 = some (rr, sr)) : zCon Ox Nx cA ad D E l yX1_dropEldest cX1_dropEldest 1 none 1 A [.ref (ad 7)] s0 none sr := by
  refine zstart (own := RX1) hOx (by decide) rfl (Nat.le_of_ble_eq_true rfl) ?_
  intro p e s m args below meth c X hP ls hl
  have hx := X.1
  have hb := X.2.1
  have hl : lv_has ls 1 [(0, .ref (ad 7))] := hl
  have hS : va_S A s.heap s.heap [] := va_S.rf
  rw [f_X1_dropEldest] at hf
  refine lv_aload_n hx hb dX1_dropEldest_0 rfl (lv_at hl 0 rfl) ?_
  refine gf_X1_9 X hP (k := 7) (q := 69) rfl dX1_dropEldest_1 rfl ?_
  refine lv_iconst (v := 1) hx hb dX1_dropEldest_4 (by decide) ?_
  refine lv_aload_n hx hb dX1_dropEldest_5 rfl (lv_at hl 0 rfl) ?_
  refine gf_X1_9 X hP (k := 7) (q := 69) rfl dX1_dropEldest_6 rfl ?_
  refine lv_iconst (v := 0) hx hb dX1_dropEldest_9 (by decide) ?_
  refine lv_bipush (v := 11) hx hb dX1_dropEldest_10 (by decide) ?_
  obtain ⟨g1, hf⟩ := zgd hf
  refine zcp_i X hP hS hl.1 (k0 := 69) (k1 := 69) ml_X1_32 nt_copy.1 nt_copy.2.1 nt_copy.2.2 g1 ⟨Nat.le_of_ble_eq_true rfl, Nat.le_of_ble_eq_true rfl⟩ dX1_dropEldest_12 (fun H locs hP hS => ?_)
  refine lv_aload_n hx hb dX1_dropEldest_15 rfl (lv_at hl 0 rfl) ?_
  refine gf_X1_13 X hP (k := 7) (q := 70) rfl dX1_dropEldest_16 rfl ?_
  refine lv_iconst (v := 1) hx hb dX1_dropEldest_19 (by decide) ?_
  refine lv_aload_n hx hb dX1_dropEldest_20 rfl (lv_at hl 0 rfl) ?_
  refine gf_X1_13 X hP (k := 7) (q := 70) rfl dX1_dropEldest_21 rfl ?_
  refine lv_iconst (v := 0) hx hb dX1_dropEldest_24 (by decide) ?_
  refine lv_bipush (v := 11) hx hb dX1_dropEldest_25 (by decide) ?_
  obtain ⟨g2, hf⟩ := zgd hf
  refine zcp_i X hP hS hl.1 (k0 := 70) (k1 := 70) ml_X1_32 nt_copy.1 nt_copy.2.1 nt_copy.2.2 g2 ⟨Nat.le_of_ble_eq_true rfl, Nat.le_of_ble_eq_true rfl⟩ dX1_dropEldest_27 (fun H locs hP hS => ?_)
  refine lv_aload_n hx hb dX1_dropEldest_30 rfl (lv_at hl 0 rfl) ?_
  refine gf_X1_16 X hP (k := 7) (q := 71) rfl dX1_dropEldest_31 rfl ?_
  refine lv_iconst (v := 1) hx hb dX1_dropEldest_34 (by decide) ?_
  refine lv_aload_n hx hb dX1_dropEldest_35 rfl (lv_at hl 0 rfl) ?_
  refine gf_X1_16 X hP (k := 7) (q := 71) rfl dX1_dropEldest_36 rfl ?_
  refine lv_iconst (v := 0) hx hb dX1_dropEldest_39 (by decide) ?_
  refine lv_bipush (v := 11) hx hb dX1_dropEldest_40 (by decide) ?_
  obtain ⟨g3, hf⟩ := zgd hf
  refine zcp_i X hP hS hl.1 (k0 := 71) (k1 := 71) ml_X1_32 nt_copy.1 nt_copy.2.1 nt_copy.2.2 g3 ⟨Nat.le_of_ble_eq_true rfl, Nat.le_of_ble_eq_true rfl⟩ dX1_dropEldest_42 (fun H locs hP hS => ?_)
  refine lv_aload_n hx hb dX1_dropEldest_45 rfl (lv_at hl 0 rfl) ?_
  refine gf_X1_19 X hP (k := 7) (q := 72) rfl dX1_dropEldest_46 rfl ?_
  refine lv_iconst (v := 1) hx hb dX1_dropEldest_49 (by decide) ?_
  refine lv_aload_n hx hb dX1_dropEldest_50 rfl (lv_at hl 0 rfl) ?_
  refine gf_X1_19 X hP (k := 7) (q := 72) rfl dX1_dropEldest_51 rfl ?_
  refine lv_iconst (v := 0) hx hb dX1_dropEldest_54 (by decide) ?_
  refine lv_bipush (v := 11) hx hb dX1_dropEldest_55 (by decide) ?_
  obtain ⟨g4, hf⟩ := zgd hf
  refine zcp_i X hP hS hl.1 (k0 := 72) (k1 := 72) ml_X1_32 nt_copy.1 nt_copy.2.1 nt_copy.2.2 g4 ⟨Nat.le_of_ble_eq_true rfl, Nat.le_of_ble_eq_true rfl⟩ dX1_dropEldest_57 (fun H locs hP hS => ?_)
  refine lv_aload_n hx hb dX1_dropEldest_60 rfl (lv_at hl 0 rfl) ?_
  refine lv_bipush (v := 11) hx hb dX1_dropEldest_61 (by decide) ?_
  refine pf_X1_22 X hP hS (k := 7) rfl dX1_dropEldest_63 (fun H locs hP hS => ?_)
  exact zret_v X hP hS hf dX1_dropEldest_66
theorem dX1_remember_0 : decode cX1_remember 0 = .ok (.aload_n 0, 1) := by decide +kernel
theorem dX1_remember_1 : decode cX1_remember 1 = .ok (.getfield 22, 3) := by decide +kernel
theorem dX1_remember_4 : decode cX1_remember 4 = .ok (.bipush 12, 2) := by decide +kernel
theorem dX1_remember_6 : decode cX1_remember 6 = .ok (.if_icmp .lt 7, 3) := by decide +kernel
theorem dX1_remember_9 : decode cX1_remember 9 = .ok (.aload_n 0, 1) := by decide +kernel
theorem dX1_remember_10 : decode cX1_remember 10 = .ok (.invokevirtual 29, 3) := by decide +kernel
theorem dX1_remember_13 : decode cX1_remember 13 = .ok (.aload_n 0, 1) := by decide +kernel
theorem dX1_remember_14 : decode cX1_remember 14 = .ok (.getfield 9, 3) := by decide +kernel
theorem dX1_remember_17 : decode cX1_remember 17 = .ok (.aload_n 0, 1) := by decide +kernel
theorem dX1_remember_18 : decode cX1_remember 18 = .ok (.getfield 22, 3) := by decide +kernel
theorem dX1_remember_21 : decode cX1_remember 21 = .ok (.iload_n 1, 1) := by decide +kernel
theorem dX1_remember_22 : decode cX1_remember 22 = .ok (.iastore, 1) := by decide +kernel
theorem dX1_remember_23 : decode cX1_remember 23 = .ok (.aload_n 0, 1) := by decide +kernel
theorem dX1_remember_24 : decode cX1_remember 24 = .ok (.getfield 13, 3) := by decide +kernel
theorem dX1_remember_27 : decode cX1_remember 27 = .ok (.aload_n 0, 1) := by decide +kernel
theorem dX1_remember_28 : decode cX1_remember 28 = .ok (.getfield 22, 3) := by decide +kernel
theorem dX1_remember_31 : decode cX1_remember 31 = .ok (.iload_n 2, 1) := by decide +kernel
theorem dX1_remember_32 : decode cX1_remember 32 = .ok (.iastore, 1) := by decide +kernel
theorem dX1_remember_33 : decode cX1_remember 33 = .ok (.aload_n 0, 1) := by decide +kernel
theorem dX1_remember_34 : decode cX1_remember 34 = .ok (.getfield 16, 3) := by decide +kernel
theorem dX1_remember_37 : decode cX1_remember 37 = .ok (.aload_n 0, 1) := by decide +kernel
theorem dX1_remember_38 : decode cX1_remember 38 = .ok (.getfield 22, 3) := by decide +kernel
theorem dX1_remember_41 : decode cX1_remember 41 = .ok (.iload_n 3, 1) := by decide +kernel
theorem dX1_remember_42 : decode cX1_remember 42 = .ok (.iastore, 1) := by decide +kernel
theorem dX1_remember_43 : decode cX1_remember 43 = .ok (.aload_n 0, 1) := by decide +kernel
theorem dX1_remember_44 : decode cX1_remember 44 = .ok (.getfield 19, 3) := by decide +kernel
theorem dX1_remember_47 : decode cX1_remember 47 = .ok (.aload_n 0, 1) := by decide +kernel
theorem dX1_remember_48 : decode cX1_remember 48 = .ok (.getfield 22, 3) := by decide +kernel
theorem dX1_remember_51 : decode cX1_remember 51 = .ok (.iload 4, 2) := by decide +kernel
theorem dX1_remember_53 : decode cX1_remember 53 = .ok (.iastore, 1) := by decide +kernel
theorem dX1_remember_54 : decode cX1_remember 54 = .ok (.aload_n 0, 1) := by decide +kernel
theorem dX1_remember_55 : decode cX1_remember 55 = .ok (.dup, 1) := by decide +kernel
theorem dX1_remember_56 : decode cX1_remember 56 = .ok (.getfield 22, 3) := by decide +kernel
theorem dX1_remember_59 : decode cX1_remember 59 = .ok (.iconst 1, 1) := by decide +kernel
theorem dX1_remember_60 : decode cX1_remember 60 = .ok (.iadd, 1) := by decide +kernel
theorem dX1_remember_61 : decode cX1_remember 61 = .ok (.putfield 22, 3) := by decide +kernel
theorem dX1_remember_64 : decode cX1_remember 64 = .ok (.aload_n 0, 1) := by decide +kernel
theorem dX1_remember_65 : decode cX1_remember 65 = .ok (.iconst 0, 1) := by decide +kernel
theorem dX1_remember_66 : decode cX1_remember 66 = .ok (.putfield 26, 3) := by decide +kernel
theorem dX1_remember_69 : decode cX1_remember 69 = .ok (.return_, 1) := by decide +kernel
set_option maxHeartbeats 4000000 in
set_option maxRecDepth 100000 in
theorem cn_X1_remember {l : Launch} {cA : Nat → ClassId} {ad : Nat → Nat} {D : va_G} {E : Nat → Nat} {A : Nat → Prop} {x1 : Int32} {x2 : Int32} {x3 : Int32} {x4 : Int32} {s0 sr : SS} {rr : Unit} (hf : f_X1_remember x1 x2 x3 x4 s0 = some (rr, sr)) : zCon Ox Nx cA ad D E l yX1_remember cX1_remember 5 none 2 A [.ref (ad 7), .int x1, .int x2, .int x3, .int x4] s0 none sr := by
  refine zstart (own := RX1) hOx (by decide) rfl (Nat.le_of_ble_eq_true rfl) ?_
  intro p e s m args below meth c X hP ls hl
  have hx := X.1
  have hb := X.2.1
  have hl : lv_has ls 5 [(0, .ref (ad 7)), (1, .int x1), (2, .int x2), (3, .int x3), (4, .int x4)] := hl
  have hS : va_S A s.heap s.heap [] := va_S.rf
  have hc_13 : ∀ (x1 : Int32) (x2 : Int32) (x3 : Int32) (x4 : Int32) (s1 : SS) (H : Heap) (locs : List Loc) (ls : Array Slot), lv_has ls 5 [(0, .ref (ad 7)), (1, .int x1), (2, .int x2), (3, .int x3), (4, .int x4)] → va_P D ZCL (zw Ox Nx cA ad s1) H → va_S A s.heap H locs → f_X1_remember_c13 x1 x2 x3 x4 s1 = some (rr, sr) → W p l e (zrm 2) s m args below meth c H locs 0 0 (MQ below (zQc Ox Nx cA ad D A none sr) args s 0 0 A) (F0 m 13 ls []) := by
    intro x1 x2 x3 x4 s1 H locs ls hl hP hS hf
    rw [f_X1_remember_c13] at hf
    refine lv_aload_n hx hb dX1_remember_13 rfl (lv_at hl 0 rfl) ?_
    refine gf_X1_9 X hP (k := 7) (q := 69) rfl dX1_remember_14 rfl ?_
    refine lv_aload_n hx hb dX1_remember_17 rfl (lv_at hl 0 rfl) ?_
    refine gf_X1_22 X hP (k := 7) rfl dX1_remember_18 ?_
    refine lv_iload_n hx hb dX1_remember_21 rfl (lv_at hl 1 rfl) ?_
    obtain ⟨g1, hf⟩ := zgd hf
    refine zast_i X hP hS (k := 69) (n := 12) (rs := []) rfl g1 dX1_remember_22 (fun H locs hP hS => ?_)
    refine lv_aload_n hx hb dX1_remember_23 rfl (lv_at hl 0 rfl) ?_
    refine gf_X1_13 X hP (k := 7) (q := 70) rfl dX1_remember_24 rfl ?_
    refine lv_aload_n hx hb dX1_remember_27 rfl (lv_at hl 0 rfl) ?_
    refine gf_X1_22 X hP (k := 7) rfl dX1_remember_28 ?_
    refine lv_iload_n hx hb dX1_remember_31 rfl (lv_at hl 2 rfl) ?_
    obtain ⟨g2, hf⟩ := zgd hf
    refine zast_i X hP hS (k := 70) (n := 12) (rs := []) rfl g2 dX1_remember_32 (fun H locs hP hS => ?_)
    refine lv_aload_n hx hb dX1_remember_33 rfl (lv_at hl 0 rfl) ?_
    refine gf_X1_16 X hP (k := 7) (q := 71) rfl dX1_remember_34 rfl ?_
    refine lv_aload_n hx hb dX1_remember_37 rfl (lv_at hl 0 rfl) ?_
    refine gf_X1_22 X hP (k := 7) rfl dX1_remember_38 ?_
    refine lv_iload_n hx hb dX1_remember_41 rfl (lv_at hl 3 rfl) ?_
    obtain ⟨g3, hf⟩ := zgd hf
    refine zast_i X hP hS (k := 71) (n := 12) (rs := []) rfl g3 dX1_remember_42 (fun H locs hP hS => ?_)
    refine lv_aload_n hx hb dX1_remember_43 rfl (lv_at hl 0 rfl) ?_
    refine gf_X1_19 X hP (k := 7) (q := 72) rfl dX1_remember_44 rfl ?_
    refine lv_aload_n hx hb dX1_remember_47 rfl (lv_at hl 0 rfl) ?_
    refine gf_X1_22 X hP (k := 7) rfl dX1_remember_48 ?_
    refine lv_iload hx hb dX1_remember_51 (lv_at hl 4 rfl) ?_
    obtain ⟨g4, hf⟩ := zgd hf
    refine zast_i X hP hS (k := 72) (n := 12) (rs := []) rfl g4 dX1_remember_53 (fun H locs hP hS => ?_)
    refine lv_aload_n hx hb dX1_remember_54 rfl (lv_at hl 0 rfl) ?_
    refine lv_dup hx hb dX1_remember_55 rfl ?_
    refine gf_X1_22 X hP (k := 7) rfl dX1_remember_56 ?_
    refine lv_iconst (v := 1) hx hb dX1_remember_59 (by decide) ?_
    refine lv_iadd hx hb dX1_remember_60 ?_
    refine pf_X1_22 X hP hS (k := 7) rfl dX1_remember_61 (fun H locs hP hS => ?_)
    refine lv_aload_n hx hb dX1_remember_64 rfl (lv_at hl 0 rfl) ?_
    refine lv_iconst (v := 0) hx hb dX1_remember_65 (by decide) ?_
    refine pf_X1_26 X hP hS (k := 7) rfl dX1_remember_66 (fun H locs hP hS => ?_)
    exact zret_v X hP hS hf dX1_remember_69
  rw [f_X1_remember] at hf
  refine lv_aload_n hx hb dX1_remember_0 rfl (lv_at hl 0 rfl) ?_
  refine gf_X1_22 X hP (k := 7) rfl dX1_remember_1 ?_
  refine lv_bipush (v := 12) hx hb dX1_remember_4 (by decide) ?_
  refine zicmp_lt (tgt := 13) hx hb dX1_remember_6 (by decide) hf (fun hf => ?_) (fun hf => ?_)
  · exact hc_13 x1 x2 x3 x4 s0 _ _ _ (lv_sub hl [0, 1, 2, 3, 4] rfl) hP hS hf
  · refine lv_aload_n hx hb dX1_remember_9 rfl (lv_at hl 0 rfl) ?_
    obtain ⟨r5, s6, h7, hf⟩ := zbd_some hf
    refine zcallV X hP hS hl.1 (k := 7) (As := []) (rest := []) (cn_X1_dropEldest h7) cw_X1_dropEldest zp_1 rfl (by decide) rfl ml_X1_29 (by decide) rfl rfl (Nat.le_of_ble_eq_true rfl) dX1_remember_10 (fun H locs hP hS => ?_)
    exact hc_13 x1 x2 x3 x4 s6 _ _ _ (lv_sub hl [0, 1, 2, 3, 4] rfl) hP hS hf
theorem dX9_signAt_0 : decode cX9_signAt 0 = .ok (.iload_n 1, 1) := by decide +kernel
theorem dX9_signAt_1 : decode cX9_signAt 1 = .ok (.ifCond .lt 11, 3) := by decide +kernel
theorem dX9_signAt_4 : decode cX9_signAt 4 = .ok (.iload_n 1, 1) := by decide +kernel
theorem dX9_signAt_5 : decode cX9_signAt 5 = .ok (.aload_n 0, 1) := by decide +kernel
theorem dX9_signAt_6 : decode cX9_signAt 6 = .ok (.getfield 15, 3) := by decide +kernel
theorem dX9_signAt_9 : decode cX9_signAt 9 = .ok (.if_icmp .lt 7, 3) := by decide +kernel
theorem dX9_signAt_12 : decode cX9_signAt 12 = .ok (.iconst (-1), 1) := by decide +kernel
theorem dX9_signAt_13 : decode cX9_signAt 13 = .ok (.goto 9, 3) := by decide +kernel
theorem dX9_signAt_16 : decode cX9_signAt 16 = .ok (.aload_n 0, 1) := by decide +kernel
theorem dX9_signAt_17 : decode cX9_signAt 17 = .ok (.getfield 11, 3) := by decide +kernel
theorem dX9_signAt_20 : decode cX9_signAt 20 = .ok (.iload_n 1, 1) := by decide +kernel
theorem dX9_signAt_21 : decode cX9_signAt 21 = .ok (.caload, 1) := by decide +kernel
theorem dX9_signAt_22 : decode cX9_signAt 22 = .ok (.ireturn, 1) := by decide +kernel
set_option maxHeartbeats 4000000 in
set_option maxRecDepth 100000 in
theorem cn_X9_signAt {l : Launch} {cA : Nat → ClassId} {ad : Nat → Nat} {D : va_G} {E : Nat → Nat} {A : Nat → Prop} {x1 : Int32} {s0 sr : SS} {rr : Int32} (hf : f_X9_signAt x1 s0 = some (rr, sr)) : zCon Ox Nx cA ad D E l yX9_signAt cX9_signAt 2 (some .int) 0 A [.ref (ad 8), .int x1] s0 (some (.int rr)) sr := by
  refine zstart (own := RX9) hOx (by decide) rfl (Nat.le_of_ble_eq_true rfl) ?_
  intro p e s m args below meth c X hP ls hl
  have hx := X.1
  have hb := X.2.1
  have hl : lv_has ls 2 [(0, .ref (ad 8)), (1, .int x1)] := hl
  have hS : va_S A s.heap s.heap [] := va_S.rf
  rw [f_X9_signAt] at hf
  refine lv_iload_n hx hb dX9_signAt_0 rfl (lv_at hl 1 rfl) ?_
  refine zif_lt (tgt := 12) hx hb dX9_signAt_1 (by decide) hf (fun hf => ?_) (fun hf => ?_)
  · refine lv_iconst (v := (-1)) hx hb dX9_signAt_12 (by decide) ?_
    refine lv_goto (tgt := 22) hx hb dX9_signAt_13 (by decide) ?_
    exact zret_i X hP hS hf rfl dX9_signAt_22
  · refine lv_iload_n hx hb dX9_signAt_4 rfl (lv_at hl 1 rfl) ?_
    refine lv_aload_n hx hb dX9_signAt_5 rfl (lv_at hl 0 rfl) ?_
    refine gf_X9_15 X hP (k := 8) rfl dX9_signAt_6 ?_
    refine zicmp_lt (tgt := 16) hx hb dX9_signAt_9 (by decide) hf (fun hf => ?_) (fun hf => ?_)
    · refine lv_aload_n hx hb dX9_signAt_16 rfl (lv_at hl 0 rfl) ?_
      refine gf_X9_11 X hP (k := 8) (q := 73) rfl dX9_signAt_17 rfl ?_
      refine lv_iload_n hx hb dX9_signAt_20 rfl (lv_at hl 1 rfl) ?_
      obtain ⟨g1, hf⟩ := zgd hf
      refine zald_c X hP (k := 73) (n := 80) (rs := []) rfl g1 dX9_signAt_21 ?_
      exact zret_i X hP hS hf rfl dX9_signAt_22
    · refine lv_iconst (v := (-1)) hx hb dX9_signAt_12 (by decide) ?_
      refine lv_goto (tgt := 22) hx hb dX9_signAt_13 (by decide) ?_
      exact zret_i X hP hS hf rfl dX9_signAt_22
theorem dX9_wordLength_0 : decode cX9_wordLength 0 = .ok (.iconst 0, 1) := by decide +kernel
theorem dX9_wordLength_1 : decode cX9_wordLength 1 = .ok (.istore_n 2, 1) := by decide +kernel
theorem dX9_wordLength_2 : decode cX9_wordLength 2 = .ok (.iload_n 2, 1) := by decide +kernel
theorem dX9_wordLength_3 : decode cX9_wordLength 3 = .ok (.bipush 80, 2) := by decide +kernel
theorem dX9_wordLength_5 : decode cX9_wordLength 5 = .ok (.if_icmp .ge 33, 3) := by decide +kernel
theorem dX9_wordLength_8 : decode cX9_wordLength 8 = .ok (.aload_n 0, 1) := by decide +kernel
theorem dX9_wordLength_9 : decode cX9_wordLength 9 = .ok (.iload_n 1, 1) := by decide +kernel
theorem dX9_wordLength_10 : decode cX9_wordLength 10 = .ok (.iload_n 2, 1) := by decide +kernel
theorem dX9_wordLength_11 : decode cX9_wordLength 11 = .ok (.iadd, 1) := by decide +kernel
theorem dX9_wordLength_12 : decode cX9_wordLength 12 = .ok (.invokevirtual 19, 3) := by decide +kernel
theorem dX9_wordLength_15 : decode cX9_wordLength 15 = .ok (.bipush 97, 2) := by decide +kernel
theorem dX9_wordLength_17 : decode cX9_wordLength 17 = .ok (.if_icmp .lt 21, 3) := by decide +kernel
theorem dX9_wordLength_20 : decode cX9_wordLength 20 = .ok (.aload_n 0, 1) := by decide +kernel
theorem dX9_wordLength_21 : decode cX9_wordLength 21 = .ok (.iload_n 1, 1) := by decide +kernel
theorem dX9_wordLength_22 : decode cX9_wordLength 22 = .ok (.iload_n 2, 1) := by decide +kernel
theorem dX9_wordLength_23 : decode cX9_wordLength 23 = .ok (.iadd, 1) := by decide +kernel
theorem dX9_wordLength_24 : decode cX9_wordLength 24 = .ok (.invokevirtual 19, 3) := by decide +kernel
theorem dX9_wordLength_27 : decode cX9_wordLength 27 = .ok (.bipush 122, 2) := by decide +kernel
theorem dX9_wordLength_29 : decode cX9_wordLength 29 = .ok (.if_icmp .gt 9, 3) := by decide +kernel
theorem dX9_wordLength_32 : decode cX9_wordLength 32 = .ok (.iinc 2 1, 3) := by decide +kernel
theorem dX9_wordLength_35 : decode cX9_wordLength 35 = .ok (.goto (-33), 3) := by decide +kernel
theorem dX9_wordLength_38 : decode cX9_wordLength 38 = .ok (.iload_n 2, 1) := by decide +kernel
theorem dX9_wordLength_39 : decode cX9_wordLength 39 = .ok (.ireturn, 1) := by decide +kernel
set_option maxHeartbeats 4000000 in
set_option maxRecDepth 100000 in
theorem cn_X9_wordLength {l : Launch} {cA : Nat → ClassId} {ad : Nat → Nat} {D : va_G} {E : Nat → Nat} {A : Nat → Prop} {x1 : Int32} {s0 sr : SS} {rr : Int32} (hf : f_X9_wordLength x1 s0 = some (rr, sr)) : zCon Ox Nx cA ad D E l yX9_wordLength cX9_wordLength 3 (some .int) 1 A [.ref (ad 8), .int x1] s0 (some (.int rr)) sr := by
  refine zstart (own := RX9) hOx (by decide) rfl (Nat.le_of_ble_eq_true rfl) ?_
  intro p e s m args below meth c X hP ls hl
  have hx := X.1
  have hb := X.2.1
  have hl : lv_has ls 3 [(0, .ref (ad 8)), (1, .int x1)] := hl
  have hS : va_S A s.heap s.heap [] := va_S.rf
  have hc_2 : ∀ (n2 : Nat) (x1 : Int32) (x2 : Int32) (s1 : SS) (H : Heap) (locs : List Loc) (ls : Array Slot), lv_has ls 3 [(0, .ref (ad 8)), (1, .int x1), (2, .int x2)] → va_P D ZCL (zw Ox Nx cA ad s1) H → va_S A s.heap H locs → f_X9_wordLength_c2 n2 x1 x2 s1 = some (rr, sr) → W p l e (zrm 1) s m args below meth c H locs 0 0 (MQ below (zQc Ox Nx cA ad D A (some (.int rr)) sr) args s 0 0 A) (F0 m 2 ls []) := by
    intro n2
    induction n2 with
    | zero =>
      intro x1 x2 s1 H locs ls hl hP hS hf
      rw [f_X9_wordLength_c2] at hf
      cases hf
    | succ n2 ih2 =>
      intro x1 x2 s1 H locs ls hl hP hS hf
      rw [f_X9_wordLength_c2] at hf
      refine lv_iload_n hx hb dX9_wordLength_2 rfl (lv_at hl 2 rfl) ?_
      refine lv_bipush (v := 80) hx hb dX9_wordLength_3 (by decide) ?_
      refine zicmp_ge (tgt := 38) hx hb dX9_wordLength_5 (by decide) hf (fun hf => ?_) (fun hf => ?_)
      · refine lv_iload_n hx hb dX9_wordLength_38 rfl (lv_at hl 2 rfl) ?_
        exact zret_i X hP hS hf rfl dX9_wordLength_39
      · refine lv_aload_n hx hb dX9_wordLength_8 rfl (lv_at hl 0 rfl) ?_
        refine lv_iload_n hx hb dX9_wordLength_9 rfl (lv_at hl 1 rfl) ?_
        refine lv_iload_n hx hb dX9_wordLength_10 rfl (lv_at hl 2 rfl) ?_
        refine lv_iadd hx hb dX9_wordLength_11 ?_
        obtain ⟨r1, s2, h3, hf⟩ := zbd_some hf
        refine zcallV X hP hS hl.1 (k := 8) (As := [.int (x1 + x2)]) (rest := []) (cn_X9_signAt h3) cw_X9_signAt zp_9 rfl (by decide) rfl ml_X9_19 (by decide) rfl rfl (Nat.le_of_ble_eq_true rfl) dX9_wordLength_12 (fun H locs hP hS => ?_)
        refine lv_bipush (v := 97) hx hb dX9_wordLength_15 (by decide) ?_
        refine zicmp_lt (tgt := 38) hx hb dX9_wordLength_17 (by decide) hf (fun hf => ?_) (fun hf => ?_)
        · refine lv_iload_n hx hb dX9_wordLength_38 rfl (lv_at hl 2 rfl) ?_
          exact zret_i X hP hS hf rfl dX9_wordLength_39
        · refine lv_aload_n hx hb dX9_wordLength_20 rfl (lv_at hl 0 rfl) ?_
          refine lv_iload_n hx hb dX9_wordLength_21 rfl (lv_at hl 1 rfl) ?_
          refine lv_iload_n hx hb dX9_wordLength_22 rfl (lv_at hl 2 rfl) ?_
          refine lv_iadd hx hb dX9_wordLength_23 ?_
          obtain ⟨r4, s5, h6, hf⟩ := zbd_some hf
          refine zcallV X hP hS hl.1 (k := 8) (As := [.int (x1 + x2)]) (rest := []) (cn_X9_signAt h6) cw_X9_signAt zp_9 rfl (by decide) rfl ml_X9_19 (by decide) rfl rfl (Nat.le_of_ble_eq_true rfl) dX9_wordLength_24 (fun H locs hP hS => ?_)
          refine lv_bipush (v := 122) hx hb dX9_wordLength_27 (by decide) ?_
          refine zicmp_gt (tgt := 38) hx hb dX9_wordLength_29 (by decide) hf (fun hf => ?_) (fun hf => ?_)
          · refine lv_iload_n hx hb dX9_wordLength_38 rfl (lv_at hl 2 rfl) ?_
            exact zret_i X hP hS hf rfl dX9_wordLength_39
          · refine lv_iinc (v := (x2 + 1)) (lv' := [(2, .int (x2 + 1)), (0, .ref (ad 8)), (1, .int x1)]) hx hb dX9_wordLength_32 hl (k := 2) rfl rfl (by decide) rfl (fun ls hl => ?_)
            refine lv_goto (tgt := 2) hx hb dX9_wordLength_35 (by decide) ?_
            exact ih2 x1 (x2 + 1) s5 _ _ _ (lv_sub hl [1, 2, 0] rfl) hP hS hf
  rw [f_X9_wordLength] at hf
  refine lv_iconst (v := 0) hx hb dX9_wordLength_0 (by decide) ?_
  refine lv_istore_n (lv' := [(2, .int 0), (0, .ref (ad 8)), (1, .int x1)]) hx hb dX9_wordLength_1 rfl hl (by decide) rfl (fun ls hl => ?_)
  exact hc_2 ZF x1 0 s0 _ _ _ (lv_sub hl [1, 2, 0] rfl) hP hS hf
theorem dX9_hasWord_0 : decode cX9_hasWord 0 = .ok (.iload_n 2, 1) := by decide +kernel
theorem dX9_hasWord_1 : decode cX9_hasWord 1 = .ok (.aload_n 3, 1) := by decide +kernel
theorem dX9_hasWord_2 : decode cX9_hasWord 2 = .ok (.invokevirtual 23, 3) := by decide +kernel
theorem dX9_hasWord_5 : decode cX9_hasWord 5 = .ok (.if_icmp .eq 5, 3) := by decide +kernel
theorem dX9_hasWord_8 : decode cX9_hasWord 8 = .ok (.iconst 0, 1) := by decide +kernel
theorem dX9_hasWord_9 : decode cX9_hasWord 9 = .ok (.ireturn, 1) := by decide +kernel
theorem dX9_hasWord_10 : decode cX9_hasWord 10 = .ok (.iconst 0, 1) := by decide +kernel
theorem dX9_hasWord_11 : decode cX9_hasWord 11 = .ok (.istore 4, 2) := by decide +kernel
theorem dX9_hasWord_13 : decode cX9_hasWord 13 = .ok (.iload 4, 2) := by decide +kernel
theorem dX9_hasWord_15 : decode cX9_hasWord 15 = .ok (.iload_n 2, 1) := by decide +kernel
theorem dX9_hasWord_16 : decode cX9_hasWord 16 = .ok (.if_icmp .ge 28, 3) := by decide +kernel
theorem dX9_hasWord_19 : decode cX9_hasWord 19 = .ok (.aload_n 0, 1) := by decide +kernel
theorem dX9_hasWord_20 : decode cX9_hasWord 20 = .ok (.iload_n 1, 1) := by decide +kernel
theorem dX9_hasWord_21 : decode cX9_hasWord 21 = .ok (.iload 4, 2) := by decide +kernel
theorem dX9_hasWord_23 : decode cX9_hasWord 23 = .ok (.iadd, 1) := by decide +kernel
theorem dX9_hasWord_24 : decode cX9_hasWord 24 = .ok (.invokevirtual 19, 3) := by decide +kernel
theorem dX9_hasWord_27 : decode cX9_hasWord 27 = .ok (.aload_n 3, 1) := by decide +kernel
theorem dX9_hasWord_28 : decode cX9_hasWord 28 = .ok (.iload 4, 2) := by decide +kernel
theorem dX9_hasWord_30 : decode cX9_hasWord 30 = .ok (.invokevirtual 28, 3) := by decide +kernel
theorem dX9_hasWord_33 : decode cX9_hasWord 33 = .ok (.if_icmp .eq 5, 3) := by decide +kernel
theorem dX9_hasWord_36 : decode cX9_hasWord 36 = .ok (.iconst 0, 1) := by decide +kernel
theorem dX9_hasWord_37 : decode cX9_hasWord 37 = .ok (.ireturn, 1) := by decide +kernel
theorem dX9_hasWord_38 : decode cX9_hasWord 38 = .ok (.iinc 4 1, 3) := by decide +kernel
theorem dX9_hasWord_41 : decode cX9_hasWord 41 = .ok (.goto (-28), 3) := by decide +kernel
theorem dX9_hasWord_44 : decode cX9_hasWord 44 = .ok (.iconst 1, 1) := by decide +kernel
theorem dX9_hasWord_45 : decode cX9_hasWord 45 = .ok (.ireturn, 1) := by decide +kernel
set_option maxHeartbeats 4000000 in
set_option maxRecDepth 100000 in
theorem cn_X9_hasWord {l : Launch} {cA : Nat → ClassId} {ad : Nat → Nat} {D : va_G} {E : Nat → Nat} {A : Nat → Prop} {x1 : Int32} {x2 : Int32} {w3 : Nat} {s0 sr : SS} {rr : Int32} (hf : f_X9_hasWord x1 x2 w3 s0 = some (rr, sr)) : zCon Ox Nx cA ad D E l yX9_hasWord cX9_hasWord 5 (some .boolean) 4 A [.ref (ad 8), .int x1, .int x2, .ref (E (10 + w3))] s0 (some (.int rr)) sr := by
  refine zstart (own := RX9) hOx (by decide) rfl (Nat.le_of_ble_eq_true rfl) ?_
  intro p e s m args below meth c X hP ls hl
  have hx := X.1
  have hb := X.2.1
  have hl : lv_has ls 5 [(0, .ref (ad 8)), (1, .int x1), (2, .int x2), (3, .ref (E (10 + w3)))] := hl
  have hS : va_S A s.heap s.heap [] := va_S.rf
  have hc_13 : ∀ (n13 : Nat) (x1 : Int32) (x2 : Int32) (w3 : Nat) (x4 : Int32) (s1 : SS) (H : Heap) (locs : List Loc) (ls : Array Slot), lv_has ls 5 [(0, .ref (ad 8)), (1, .int x1), (2, .int x2), (3, .ref (E (10 + w3))), (4, .int x4)] → va_P D ZCL (zw Ox Nx cA ad s1) H → va_S A s.heap H locs → f_X9_hasWord_c13 n13 x1 x2 w3 x4 s1 = some (rr, sr) → W p l e (zrm 4) s m args below meth c H locs 0 0 (MQ below (zQc Ox Nx cA ad D A (some (.int rr)) sr) args s 0 0 A) (F0 m 13 ls []) := by
    intro n13
    induction n13 with
    | zero =>
      intro x1 x2 w3 x4 s1 H locs ls hl hP hS hf
      rw [f_X9_hasWord_c13] at hf
      cases hf
    | succ n13 ih13 =>
      intro x1 x2 w3 x4 s1 H locs ls hl hP hS hf
      rw [f_X9_hasWord_c13] at hf
      obtain ⟨gp3, hf⟩ := zgd hf
      refine lv_iload hx hb dX9_hasWord_13 (lv_at hl 4 rfl) ?_
      refine lv_iload_n hx hb dX9_hasWord_15 rfl (lv_at hl 2 rfl) ?_
      refine zicmp_ge (tgt := 44) hx hb dX9_hasWord_16 (by decide) hf (fun hf => ?_) (fun hf => ?_)
      · refine lv_iconst (v := 1) hx hb dX9_hasWord_44 (by decide) ?_
        exact zret_i X hP hS hf rfl dX9_hasWord_45
      · refine lv_aload_n hx hb dX9_hasWord_19 rfl (lv_at hl 0 rfl) ?_
        refine lv_iload_n hx hb dX9_hasWord_20 rfl (lv_at hl 1 rfl) ?_
        refine lv_iload hx hb dX9_hasWord_21 (lv_at hl 4 rfl) ?_
        refine lv_iadd hx hb dX9_hasWord_23 ?_
        obtain ⟨r4, s5, h6, hf⟩ := zbd_some hf
        refine zcallV X hP hS hl.1 (k := 8) (As := [.int (x1 + x4)]) (rest := []) (cn_X9_signAt h6) cw_X9_signAt zp_9 rfl (by decide) rfl ml_X9_19 (by decide) rfl rfl (Nat.le_of_ble_eq_true rfl) dX9_hasWord_24 (fun H locs hP hS => ?_)
        refine lv_aload_n hx hb dX9_hasWord_27 rfl (lv_at hl 3 rfl) ?_
        refine lv_iload hx hb dX9_hasWord_28 (lv_at hl 4 rfl) ?_
        obtain ⟨r7, s8, h9, hf⟩ := zbd_some hf
        refine zcallT X hP hS hl.1 (w := w3) (As := [.int x4]) (rest := [.int r4]) (cn_J0_charAt_5068e hOx h9) cw_J0_charAt_5068e gp3 ml_X9_28 (by decide) rfl rfl (Nat.le_of_ble_eq_true rfl) dX9_hasWord_30 (fun H locs hP hS => ?_)
        refine zicmp_eq (tgt := 38) hx hb dX9_hasWord_33 (by decide) hf (fun hf => ?_) (fun hf => ?_)
        · refine lv_iinc (v := (x4 + 1)) (lv' := [(4, .int (x4 + 1)), (0, .ref (ad 8)), (1, .int x1), (2, .int x2), (3, .ref (E (10 + w3)))]) hx hb dX9_hasWord_38 hl (k := 4) rfl rfl (by decide) rfl (fun ls hl => ?_)
          refine lv_goto (tgt := 13) hx hb dX9_hasWord_41 (by decide) ?_
          exact ih13 x1 x2 w3 (x4 + 1) s8 _ _ _ (lv_sub hl [1, 2, 3, 4, 0] rfl) hP hS hf
        · refine lv_iconst (v := 0) hx hb dX9_hasWord_36 (by decide) ?_
          exact zret_i X hP hS hf rfl dX9_hasWord_37
  rw [f_X9_hasWord] at hf
  obtain ⟨gp3, hf⟩ := zgd hf
  refine lv_iload_n hx hb dX9_hasWord_0 rfl (lv_at hl 2 rfl) ?_
  refine lv_aload_n hx hb dX9_hasWord_1 rfl (lv_at hl 3 rfl) ?_
  obtain ⟨r1, s2, h3, hf⟩ := zbd_some hf
  refine zcallT X hP hS hl.1 (w := w3) (As := []) (rest := [.int x2]) (cn_J0_length_8abf5 hOx h3) cw_J0_length_8abf5 gp3 ml_X9_23 (by decide) rfl rfl (Nat.le_of_ble_eq_true rfl) dX9_hasWord_2 (fun H locs hP hS => ?_)
  refine zicmp_eq (tgt := 10) hx hb dX9_hasWord_5 (by decide) hf (fun hf => ?_) (fun hf => ?_)
  · refine lv_iconst (v := 0) hx hb dX9_hasWord_10 (by decide) ?_
    refine lv_istore (lv' := [(4, .int 0), (0, .ref (ad 8)), (1, .int x1), (2, .int x2), (3, .ref (E (10 + w3)))]) hx hb dX9_hasWord_11 hl (by decide) rfl (fun ls hl => ?_)
    exact hc_13 ZF x1 x2 w3 0 s2 _ _ _ (lv_sub hl [1, 2, 3, 4, 0] rfl) hP hS hf
  · refine lv_iconst (v := 0) hx hb dX9_hasWord_8 (by decide) ?_
    exact zret_i X hP hS hf rfl dX9_hasWord_9
theorem dX2_wordOf_0 : decode cX2_wordOf 0 = .ok (.aload_n 0, 1) := by decide +kernel
theorem dX2_wordOf_1 : decode cX2_wordOf 1 = .ok (.iload_n 1, 1) := by decide +kernel
theorem dX2_wordOf_2 : decode cX2_wordOf 2 = .ok (.iload_n 2, 1) := by decide +kernel
theorem dX2_wordOf_3 : decode cX2_wordOf 3 = .ok (.ldc 42, 2) := by decide +kernel
theorem dX2_wordOf_5 : decode cX2_wordOf 5 = .ok (.invokevirtual 44, 3) := by decide +kernel
theorem dX2_wordOf_8 : decode cX2_wordOf 8 = .ok (.ifCond .eq 5, 3) := by decide +kernel
theorem dX2_wordOf_11 : decode cX2_wordOf 11 = .ok (.iconst 0, 1) := by decide +kernel
theorem dX2_wordOf_12 : decode cX2_wordOf 12 = .ok (.ireturn, 1) := by decide +kernel
theorem dX2_wordOf_13 : decode cX2_wordOf 13 = .ok (.aload_n 0, 1) := by decide +kernel
theorem dX2_wordOf_14 : decode cX2_wordOf 14 = .ok (.iload_n 1, 1) := by decide +kernel
theorem dX2_wordOf_15 : decode cX2_wordOf 15 = .ok (.iload_n 2, 1) := by decide +kernel
theorem dX2_wordOf_16 : decode cX2_wordOf 16 = .ok (.ldc 48, 2) := by decide +kernel
theorem dX2_wordOf_18 : decode cX2_wordOf 18 = .ok (.invokevirtual 44, 3) := by decide +kernel
theorem dX2_wordOf_21 : decode cX2_wordOf 21 = .ok (.ifCond .eq 5, 3) := by decide +kernel
theorem dX2_wordOf_24 : decode cX2_wordOf 24 = .ok (.iconst 1, 1) := by decide +kernel
theorem dX2_wordOf_25 : decode cX2_wordOf 25 = .ok (.ireturn, 1) := by decide +kernel
theorem dX2_wordOf_26 : decode cX2_wordOf 26 = .ok (.aload_n 0, 1) := by decide +kernel
theorem dX2_wordOf_27 : decode cX2_wordOf 27 = .ok (.iload_n 1, 1) := by decide +kernel
theorem dX2_wordOf_28 : decode cX2_wordOf 28 = .ok (.iload_n 2, 1) := by decide +kernel
theorem dX2_wordOf_29 : decode cX2_wordOf 29 = .ok (.ldc 50, 2) := by decide +kernel
theorem dX2_wordOf_31 : decode cX2_wordOf 31 = .ok (.invokevirtual 44, 3) := by decide +kernel
theorem dX2_wordOf_34 : decode cX2_wordOf 34 = .ok (.ifCond .eq 5, 3) := by decide +kernel
theorem dX2_wordOf_37 : decode cX2_wordOf 37 = .ok (.iconst 2, 1) := by decide +kernel
theorem dX2_wordOf_38 : decode cX2_wordOf 38 = .ok (.ireturn, 1) := by decide +kernel
theorem dX2_wordOf_39 : decode cX2_wordOf 39 = .ok (.aload_n 0, 1) := by decide +kernel
theorem dX2_wordOf_40 : decode cX2_wordOf 40 = .ok (.iload_n 1, 1) := by decide +kernel
theorem dX2_wordOf_41 : decode cX2_wordOf 41 = .ok (.iload_n 2, 1) := by decide +kernel
theorem dX2_wordOf_42 : decode cX2_wordOf 42 = .ok (.ldc 52, 2) := by decide +kernel
theorem dX2_wordOf_44 : decode cX2_wordOf 44 = .ok (.invokevirtual 44, 3) := by decide +kernel
theorem dX2_wordOf_47 : decode cX2_wordOf 47 = .ok (.ifCond .eq 5, 3) := by decide +kernel
theorem dX2_wordOf_50 : decode cX2_wordOf 50 = .ok (.iconst 3, 1) := by decide +kernel
theorem dX2_wordOf_51 : decode cX2_wordOf 51 = .ok (.ireturn, 1) := by decide +kernel
theorem dX2_wordOf_52 : decode cX2_wordOf 52 = .ok (.aload_n 0, 1) := by decide +kernel
theorem dX2_wordOf_53 : decode cX2_wordOf 53 = .ok (.iload_n 1, 1) := by decide +kernel
theorem dX2_wordOf_54 : decode cX2_wordOf 54 = .ok (.iload_n 2, 1) := by decide +kernel
theorem dX2_wordOf_55 : decode cX2_wordOf 55 = .ok (.ldc 54, 2) := by decide +kernel
theorem dX2_wordOf_57 : decode cX2_wordOf 57 = .ok (.invokevirtual 44, 3) := by decide +kernel
theorem dX2_wordOf_60 : decode cX2_wordOf 60 = .ok (.ifCond .eq 7, 3) := by decide +kernel
theorem dX2_wordOf_63 : decode cX2_wordOf 63 = .ok (.iconst 4, 1) := by decide +kernel
theorem dX2_wordOf_64 : decode cX2_wordOf 64 = .ok (.goto 4, 3) := by decide +kernel
theorem dX2_wordOf_67 : decode cX2_wordOf 67 = .ok (.iconst (-1), 1) := by decide +kernel
theorem dX2_wordOf_68 : decode cX2_wordOf 68 = .ok (.ireturn, 1) := by decide +kernel
set_option maxHeartbeats 4000000 in
set_option maxRecDepth 100000 in
theorem cn_X2_wordOf {l : Launch} {cA : Nat → ClassId} {ad : Nat → Nat} {D : va_G} {E : Nat → Nat} {A : Nat → Prop} {x1 : Int32} {x2 : Int32} {s0 sr : SS} {rr : Int32} (hf : f_X2_wordOf x1 x2 s0 = some (rr, sr)) : zCon Ox Nx cA ad D E l yX2_wordOf cX2_wordOf 3 (some .int) 5 A [.ref (ad 8), .int x1, .int x2] s0 (some (.int rr)) sr := by
  refine zstart (own := RX2) hOx (by decide) rfl (Nat.le_of_ble_eq_true rfl) ?_
  intro p e s m args below meth c X hP ls hl
  have hx := X.1
  have hb := X.2.1
  have hl : lv_has ls 3 [(0, .ref (ad 8)), (1, .int x1), (2, .int x2)] := hl
  have hS : va_S A s.heap s.heap [] := va_S.rf
  rw [f_X2_wordOf] at hf
  refine lv_aload_n hx hb dX2_wordOf_0 rfl (lv_at hl 0 rfl) ?_
  refine lv_iload_n hx hb dX2_wordOf_1 rfl (lv_at hl 1 rfl) ?_
  refine lv_iload_n hx hb dX2_wordOf_2 rfl (lv_at hl 2 rfl) ?_
  refine zldcS X (w := 0) (tx := "sum") (by decide) dX2_wordOf_3 ?_
  obtain ⟨r1, s2, h3, hf⟩ := zbd_some hf
  refine zcallV X hP hS hl.1 (k := 8) (As := [.int x1, .int x2, .ref (E (10 + 0))]) (rest := []) (cn_X9_hasWord h3) cw_X9_hasWord zp_9 rfl (by decide) rfl ml_X2_44 (by decide) rfl rfl (Nat.le_of_ble_eq_true rfl) dX2_wordOf_5 (fun H locs hP hS => ?_)
  refine zif_eq (tgt := 13) hx hb dX2_wordOf_8 (by decide) hf (fun hf => ?_) (fun hf => ?_)
  · refine lv_aload_n hx hb dX2_wordOf_13 rfl (lv_at hl 0 rfl) ?_
    refine lv_iload_n hx hb dX2_wordOf_14 rfl (lv_at hl 1 rfl) ?_
    refine lv_iload_n hx hb dX2_wordOf_15 rfl (lv_at hl 2 rfl) ?_
    refine zldcS X (w := 1) (tx := "times") (by decide) dX2_wordOf_16 ?_
    obtain ⟨r4, s5, h6, hf⟩ := zbd_some hf
    refine zcallV X hP hS hl.1 (k := 8) (As := [.int x1, .int x2, .ref (E (10 + 1))]) (rest := []) (cn_X9_hasWord h6) cw_X9_hasWord zp_9 rfl (by decide) rfl ml_X2_44 (by decide) rfl rfl (Nat.le_of_ble_eq_true rfl) dX2_wordOf_18 (fun H locs hP hS => ?_)
    refine zif_eq (tgt := 26) hx hb dX2_wordOf_21 (by decide) hf (fun hf => ?_) (fun hf => ?_)
    · refine lv_aload_n hx hb dX2_wordOf_26 rfl (lv_at hl 0 rfl) ?_
      refine lv_iload_n hx hb dX2_wordOf_27 rfl (lv_at hl 1 rfl) ?_
      refine lv_iload_n hx hb dX2_wordOf_28 rfl (lv_at hl 2 rfl) ?_
      refine zldcS X (w := 2) (tx := "minus") (by decide) dX2_wordOf_29 ?_
      obtain ⟨r7, s8, h9, hf⟩ := zbd_some hf
      refine zcallV X hP hS hl.1 (k := 8) (As := [.int x1, .int x2, .ref (E (10 + 2))]) (rest := []) (cn_X9_hasWord h9) cw_X9_hasWord zp_9 rfl (by decide) rfl ml_X2_44 (by decide) rfl rfl (Nat.le_of_ble_eq_true rfl) dX2_wordOf_31 (fun H locs hP hS => ?_)
      refine zif_eq (tgt := 39) hx hb dX2_wordOf_34 (by decide) hf (fun hf => ?_) (fun hf => ?_)
      · refine lv_aload_n hx hb dX2_wordOf_39 rfl (lv_at hl 0 rfl) ?_
        refine lv_iload_n hx hb dX2_wordOf_40 rfl (lv_at hl 1 rfl) ?_
        refine lv_iload_n hx hb dX2_wordOf_41 rfl (lv_at hl 2 rfl) ?_
        refine zldcS X (w := 3) (tx := "power") (by decide) dX2_wordOf_42 ?_
        obtain ⟨r10, s11, h12, hf⟩ := zbd_some hf
        refine zcallV X hP hS hl.1 (k := 8) (As := [.int x1, .int x2, .ref (E (10 + 3))]) (rest := []) (cn_X9_hasWord h12) cw_X9_hasWord zp_9 rfl (by decide) rfl ml_X2_44 (by decide) rfl rfl (Nat.le_of_ble_eq_true rfl) dX2_wordOf_44 (fun H locs hP hS => ?_)
        refine zif_eq (tgt := 52) hx hb dX2_wordOf_47 (by decide) hf (fun hf => ?_) (fun hf => ?_)
        · refine lv_aload_n hx hb dX2_wordOf_52 rfl (lv_at hl 0 rfl) ?_
          refine lv_iload_n hx hb dX2_wordOf_53 rfl (lv_at hl 1 rfl) ?_
          refine lv_iload_n hx hb dX2_wordOf_54 rfl (lv_at hl 2 rfl) ?_
          refine zldcS X (w := 4) (tx := "part") (by decide) dX2_wordOf_55 ?_
          obtain ⟨r13, s14, h15, hf⟩ := zbd_some hf
          refine zcallV X hP hS hl.1 (k := 8) (As := [.int x1, .int x2, .ref (E (10 + 4))]) (rest := []) (cn_X9_hasWord h15) cw_X9_hasWord zp_9 rfl (by decide) rfl ml_X2_44 (by decide) rfl rfl (Nat.le_of_ble_eq_true rfl) dX2_wordOf_57 (fun H locs hP hS => ?_)
          refine zif_eq (tgt := 67) hx hb dX2_wordOf_60 (by decide) hf (fun hf => ?_) (fun hf => ?_)
          · refine lv_iconst (v := (-1)) hx hb dX2_wordOf_67 (by decide) ?_
            exact zret_i X hP hS hf rfl dX2_wordOf_68
          · refine lv_iconst (v := 4) hx hb dX2_wordOf_63 (by decide) ?_
            refine lv_goto (tgt := 68) hx hb dX2_wordOf_64 (by decide) ?_
            exact zret_i X hP hS hf rfl dX2_wordOf_68
        · refine lv_iconst (v := 3) hx hb dX2_wordOf_50 (by decide) ?_
          exact zret_i X hP hS hf rfl dX2_wordOf_51
      · refine lv_iconst (v := 2) hx hb dX2_wordOf_37 (by decide) ?_
        exact zret_i X hP hS hf rfl dX2_wordOf_38
    · refine lv_iconst (v := 1) hx hb dX2_wordOf_24 (by decide) ?_
      exact zret_i X hP hS hf rfl dX2_wordOf_25
  · refine lv_iconst (v := 0) hx hb dX2_wordOf_11 (by decide) ?_
    exact zret_i X hP hS hf rfl dX2_wordOf_12
theorem dX9_isFigure_0 : decode cX9_isFigure 0 = .ok (.iload_n 0, 1) := by decide +kernel
theorem dX9_isFigure_1 : decode cX9_isFigure 1 = .ok (.bipush 48, 2) := by decide +kernel
theorem dX9_isFigure_3 : decode cX9_isFigure 3 = .ok (.if_icmp .lt 13, 3) := by decide +kernel
theorem dX9_isFigure_6 : decode cX9_isFigure 6 = .ok (.iload_n 0, 1) := by decide +kernel
theorem dX9_isFigure_7 : decode cX9_isFigure 7 = .ok (.bipush 57, 2) := by decide +kernel
theorem dX9_isFigure_9 : decode cX9_isFigure 9 = .ok (.if_icmp .gt 7, 3) := by decide +kernel
theorem dX9_isFigure_12 : decode cX9_isFigure 12 = .ok (.iconst 1, 1) := by decide +kernel
theorem dX9_isFigure_13 : decode cX9_isFigure 13 = .ok (.goto 4, 3) := by decide +kernel
theorem dX9_isFigure_16 : decode cX9_isFigure 16 = .ok (.iconst 0, 1) := by decide +kernel
theorem dX9_isFigure_17 : decode cX9_isFigure 17 = .ok (.ireturn, 1) := by decide +kernel
set_option maxHeartbeats 4000000 in
set_option maxRecDepth 100000 in
theorem cn_X9_isFigure {l : Launch} {cA : Nat → ClassId} {ad : Nat → Nat} {D : va_G} {E : Nat → Nat} {A : Nat → Prop} {x0 : Int32} {s0 sr : SS} {rr : Int32} (hf : f_X9_isFigure x0 s0 = some (rr, sr)) : zCon Ox Nx cA ad D E l yX9_isFigure cX9_isFigure 1 (some .boolean) 0 A [.int x0] s0 (some (.int rr)) sr := by
  refine zstart (own := RX9) hOx (by decide) rfl (Nat.le_of_ble_eq_true rfl) ?_
  intro p e s m args below meth c X hP ls hl
  have hx := X.1
  have hb := X.2.1
  have hl : lv_has ls 1 [(0, .int x0)] := hl
  have hS : va_S A s.heap s.heap [] := va_S.rf
  rw [f_X9_isFigure] at hf
  refine lv_iload_n hx hb dX9_isFigure_0 rfl (lv_at hl 0 rfl) ?_
  refine lv_bipush (v := 48) hx hb dX9_isFigure_1 (by decide) ?_
  refine zicmp_lt (tgt := 16) hx hb dX9_isFigure_3 (by decide) hf (fun hf => ?_) (fun hf => ?_)
  · refine lv_iconst (v := 0) hx hb dX9_isFigure_16 (by decide) ?_
    exact zret_i X hP hS hf rfl dX9_isFigure_17
  · refine lv_iload_n hx hb dX9_isFigure_6 rfl (lv_at hl 0 rfl) ?_
    refine lv_bipush (v := 57) hx hb dX9_isFigure_7 (by decide) ?_
    refine zicmp_gt (tgt := 16) hx hb dX9_isFigure_9 (by decide) hf (fun hf => ?_) (fun hf => ?_)
    · refine lv_iconst (v := 0) hx hb dX9_isFigure_16 (by decide) ?_
      exact zret_i X hP hS hf rfl dX9_isFigure_17
    · refine lv_iconst (v := 1) hx hb dX9_isFigure_12 (by decide) ?_
      refine lv_goto (tgt := 17) hx hb dX9_isFigure_13 (by decide) ?_
      exact zret_i X hP hS hf rfl dX9_isFigure_17
theorem dX2_rightSigns_0 : decode cX2_rightSigns 0 = .ok (.iconst 0, 1) := by decide +kernel
theorem dX2_rightSigns_1 : decode cX2_rightSigns 1 = .ok (.istore_n 2, 1) := by decide +kernel
theorem dX2_rightSigns_2 : decode cX2_rightSigns 2 = .ok (.iload_n 2, 1) := by decide +kernel
theorem dX2_rightSigns_3 : decode cX2_rightSigns 3 = .ok (.iconst 4, 1) := by decide +kernel
theorem dX2_rightSigns_4 : decode cX2_rightSigns 4 = .ok (.if_icmp .ge 41, 3) := by decide +kernel
theorem dX2_rightSigns_7 : decode cX2_rightSigns 7 = .ok (.aload_n 0, 1) := by decide +kernel
theorem dX2_rightSigns_8 : decode cX2_rightSigns 8 = .ok (.iload_n 1, 1) := by decide +kernel
theorem dX2_rightSigns_9 : decode cX2_rightSigns 9 = .ok (.iload_n 2, 1) := by decide +kernel
theorem dX2_rightSigns_10 : decode cX2_rightSigns 10 = .ok (.iadd, 1) := by decide +kernel
theorem dX2_rightSigns_11 : decode cX2_rightSigns 11 = .ok (.invokevirtual 39, 3) := by decide +kernel
theorem dX2_rightSigns_14 : decode cX2_rightSigns 14 = .ok (.istore_n 3, 1) := by decide +kernel
theorem dX2_rightSigns_15 : decode cX2_rightSigns 15 = .ok (.iload_n 2, 1) := by decide +kernel
theorem dX2_rightSigns_16 : decode cX2_rightSigns 16 = .ok (.iconst 2, 1) := by decide +kernel
theorem dX2_rightSigns_17 : decode cX2_rightSigns 17 = .ok (.irem, 1) := by decide +kernel
theorem dX2_rightSigns_18 : decode cX2_rightSigns 18 = .ok (.ifCond .ne 12, 3) := by decide +kernel
theorem dX2_rightSigns_21 : decode cX2_rightSigns 21 = .ok (.iload_n 3, 1) := by decide +kernel
theorem dX2_rightSigns_22 : decode cX2_rightSigns 22 = .ok (.bipush 32, 2) := by decide +kernel
theorem dX2_rightSigns_24 : decode cX2_rightSigns 24 = .ok (.if_icmp .eq 15, 3) := by decide +kernel
theorem dX2_rightSigns_27 : decode cX2_rightSigns 27 = .ok (.goto 10, 3) := by decide +kernel
theorem dX2_rightSigns_30 : decode cX2_rightSigns 30 = .ok (.iload_n 3, 1) := by decide +kernel
theorem dX2_rightSigns_31 : decode cX2_rightSigns 31 = .ok (.invokestatic 56, 3) := by decide +kernel
theorem dX2_rightSigns_34 : decode cX2_rightSigns 34 = .ok (.ifCond .ne 5, 3) := by decide +kernel
theorem dX2_rightSigns_37 : decode cX2_rightSigns 37 = .ok (.iload_n 2, 1) := by decide +kernel
theorem dX2_rightSigns_38 : decode cX2_rightSigns 38 = .ok (.ireturn, 1) := by decide +kernel
theorem dX2_rightSigns_39 : decode cX2_rightSigns 39 = .ok (.iinc 2 1, 3) := by decide +kernel
theorem dX2_rightSigns_42 : decode cX2_rightSigns 42 = .ok (.goto (-40), 3) := by decide +kernel
theorem dX2_rightSigns_45 : decode cX2_rightSigns 45 = .ok (.iconst 4, 1) := by decide +kernel
theorem dX2_rightSigns_46 : decode cX2_rightSigns 46 = .ok (.ireturn, 1) := by decide +kernel
set_option maxHeartbeats 4000000 in
set_option maxRecDepth 100000 in
theorem cn_X2_rightSigns {l : Launch} {cA : Nat → ClassId} {ad : Nat → Nat} {D : va_G} {E : Nat → Nat} {A : Nat → Prop} {x1 : Int32} {s0 sr : SS} {rr : Int32} (hf : f_X2_rightSigns x1 s0 = some (rr, sr)) : zCon Ox Nx cA ad D E l yX2_rightSigns cX2_rightSigns 4 (some .int) 1 A [.ref (ad 8), .int x1] s0 (some (.int rr)) sr := by
  refine zstart (own := RX2) hOx (by decide) rfl (Nat.le_of_ble_eq_true rfl) ?_
  intro p e s m args below meth c X hP ls hl
  have hx := X.1
  have hb := X.2.1
  have hl : lv_has ls 4 [(0, .ref (ad 8)), (1, .int x1)] := hl
  have hS : va_S A s.heap s.heap [] := va_S.rf
  have hc_2 : ∀ (n2 : Nat) (x1 : Int32) (x2 : Int32) (s1 : SS) (H : Heap) (locs : List Loc) (ls : Array Slot), lv_has ls 4 [(0, .ref (ad 8)), (1, .int x1), (2, .int x2)] → va_P D ZCL (zw Ox Nx cA ad s1) H → va_S A s.heap H locs → f_X2_rightSigns_c2 n2 x1 x2 s1 = some (rr, sr) → W p l e (zrm 1) s m args below meth c H locs 0 0 (MQ below (zQc Ox Nx cA ad D A (some (.int rr)) sr) args s 0 0 A) (F0 m 2 ls []) := by
    intro n2
    induction n2 with
    | zero =>
      intro x1 x2 s1 H locs ls hl hP hS hf
      rw [f_X2_rightSigns_c2] at hf
      cases hf
    | succ n2 ih2 =>
      have hc_39 : ∀ (x1 : Int32) (x2 : Int32) (s1 : SS) (H : Heap) (locs : List Loc) (ls : Array Slot), lv_has ls 4 [(0, .ref (ad 8)), (1, .int x1), (2, .int x2)] → va_P D ZCL (zw Ox Nx cA ad s1) H → va_S A s.heap H locs → f_X2_rightSigns_c39 (f_X2_rightSigns_c2 n2) x1 x2 s1 = some (rr, sr) → W p l e (zrm 1) s m args below meth c H locs 0 0 (MQ below (zQc Ox Nx cA ad D A (some (.int rr)) sr) args s 0 0 A) (F0 m 39 ls []) := by
        intro x1 x2 s1 H locs ls hl hP hS hf
        rw [f_X2_rightSigns_c39] at hf
        refine lv_iinc (v := (x2 + 1)) (lv' := [(2, .int (x2 + 1)), (0, .ref (ad 8)), (1, .int x1)]) hx hb dX2_rightSigns_39 hl (k := 2) rfl rfl (by decide) rfl (fun ls hl => ?_)
        refine lv_goto (tgt := 2) hx hb dX2_rightSigns_42 (by decide) ?_
        exact ih2 x1 (x2 + 1) s1 _ _ _ (lv_sub hl [1, 2, 0] rfl) hP hS hf
      intro x1 x2 s1 H locs ls hl hP hS hf
      rw [f_X2_rightSigns_c2] at hf
      refine lv_iload_n hx hb dX2_rightSigns_2 rfl (lv_at hl 2 rfl) ?_
      refine lv_iconst (v := 4) hx hb dX2_rightSigns_3 (by decide) ?_
      refine zicmp_ge (tgt := 45) hx hb dX2_rightSigns_4 (by decide) hf (fun hf => ?_) (fun hf => ?_)
      · refine lv_iconst (v := 4) hx hb dX2_rightSigns_45 (by decide) ?_
        exact zret_i X hP hS hf rfl dX2_rightSigns_46
      · refine lv_aload_n hx hb dX2_rightSigns_7 rfl (lv_at hl 0 rfl) ?_
        refine lv_iload_n hx hb dX2_rightSigns_8 rfl (lv_at hl 1 rfl) ?_
        refine lv_iload_n hx hb dX2_rightSigns_9 rfl (lv_at hl 2 rfl) ?_
        refine lv_iadd hx hb dX2_rightSigns_10 ?_
        obtain ⟨r1, s2, h3, hf⟩ := zbd_some hf
        refine zcallV X hP hS hl.1 (k := 8) (As := [.int (x1 + x2)]) (rest := []) (cn_X9_signAt h3) cw_X9_signAt zp_9 rfl (by decide) rfl ml_X2_39 (by decide) rfl rfl (Nat.le_of_ble_eq_true rfl) dX2_rightSigns_11 (fun H locs hP hS => ?_)
        refine lv_istore_n (lv' := [(3, .int r1), (0, .ref (ad 8)), (1, .int x1), (2, .int x2)]) hx hb dX2_rightSigns_14 rfl hl (by decide) rfl (fun ls hl => ?_)
        refine lv_iload_n hx hb dX2_rightSigns_15 rfl (lv_at hl 3 rfl) ?_
        refine lv_iconst (v := 2) hx hb dX2_rightSigns_16 (by decide) ?_
        refine lv_irem hx hb dX2_rightSigns_17 (by decide) ?_
        refine zif_ne (tgt := 30) hx hb dX2_rightSigns_18 (by decide) hf (fun hf => ?_) (fun hf => ?_)
        · refine lv_iload_n hx hb dX2_rightSigns_30 rfl (lv_at hl 0 rfl) ?_
          obtain ⟨r4, s5, h6, hf⟩ := zbd_some hf
          refine zcallS X hP hS hl.1 (As := [.int r1]) (rest := []) (cn_X9_isFigure h6) cw_X9_isFigure ml_X2_56 (by decide) rfl rfl (Nat.le_of_ble_eq_true rfl) dX2_rightSigns_31 (fun H locs hP hS => ?_)
          refine zif_ne (tgt := 39) hx hb dX2_rightSigns_34 (by decide) hf (fun hf => ?_) (fun hf => ?_)
          · exact hc_39 x1 x2 s5 _ _ _ (lv_sub hl [1, 2, 3] rfl) hP hS hf
          · refine lv_iload_n hx hb dX2_rightSigns_37 rfl (lv_at hl 3 rfl) ?_
            exact zret_i X hP hS hf rfl dX2_rightSigns_38
        · refine lv_iload_n hx hb dX2_rightSigns_21 rfl (lv_at hl 0 rfl) ?_
          refine lv_bipush (v := 32) hx hb dX2_rightSigns_22 (by decide) ?_
          refine zicmp_eq (tgt := 39) hx hb dX2_rightSigns_24 (by decide) hf (fun hf => ?_) (fun hf => ?_)
          · exact hc_39 x1 x2 s2 _ _ _ (lv_sub hl [1, 2, 3] rfl) hP hS hf
          · refine lv_goto (tgt := 37) hx hb dX2_rightSigns_27 (by decide) ?_
            refine lv_iload_n hx hb dX2_rightSigns_37 rfl (lv_at hl 3 rfl) ?_
            exact zret_i X hP hS hf rfl dX2_rightSigns_38
  rw [f_X2_rightSigns] at hf
  refine lv_iconst (v := 0) hx hb dX2_rightSigns_0 (by decide) ?_
  refine lv_istore_n (lv' := [(2, .int 0), (0, .ref (ad 8)), (1, .int x1)]) hx hb dX2_rightSigns_1 rfl hl (by decide) rfl (fun ls hl => ?_)
  exact hc_2 ZF x1 0 s0 _ _ _ (lv_sub hl [1, 2, 0] rfl) hP hS hf
theorem dX2_readFrom_0 : decode cX2_readFrom 0 = .ok (.aload_n 0, 1) := by decide +kernel
theorem dX2_readFrom_1 : decode cX2_readFrom 1 = .ok (.iconst 0, 1) := by decide +kernel
theorem dX2_readFrom_2 : decode cX2_readFrom 2 = .ok (.putfield 21, 3) := by decide +kernel
theorem dX2_readFrom_5 : decode cX2_readFrom 5 = .ok (.iconst 0, 1) := by decide +kernel
theorem dX2_readFrom_6 : decode cX2_readFrom 6 = .ok (.istore_n 2, 1) := by decide +kernel
theorem dX2_readFrom_7 : decode cX2_readFrom 7 = .ok (.iconst 0, 1) := by decide +kernel
theorem dX2_readFrom_8 : decode cX2_readFrom 8 = .ok (.istore_n 3, 1) := by decide +kernel
theorem dX2_readFrom_9 : decode cX2_readFrom 9 = .ok (.iload_n 3, 1) := by decide +kernel
theorem dX2_readFrom_10 : decode cX2_readFrom 10 = .ok (.bipush 12, 2) := by decide +kernel
theorem dX2_readFrom_12 : decode cX2_readFrom 12 = .ok (.if_icmp .ge 131, 3) := by decide +kernel
theorem dX2_readFrom_15 : decode cX2_readFrom 15 = .ok (.aload_n 1, 1) := by decide +kernel
theorem dX2_readFrom_16 : decode cX2_readFrom 16 = .ok (.iload_n 2, 1) := by decide +kernel
theorem dX2_readFrom_17 : decode cX2_readFrom 17 = .ok (.invokevirtual 25, 3) := by decide +kernel
theorem dX2_readFrom_20 : decode cX2_readFrom 20 = .ok (.istore 4, 2) := by decide +kernel
theorem dX2_readFrom_22 : decode cX2_readFrom 22 = .ok (.aload_n 1, 1) := by decide +kernel
theorem dX2_readFrom_23 : decode cX2_readFrom 23 = .ok (.iload_n 2, 1) := by decide +kernel
theorem dX2_readFrom_24 : decode cX2_readFrom 24 = .ok (.iload 4, 2) := by decide +kernel
theorem dX2_readFrom_26 : decode cX2_readFrom 26 = .ok (.invokestatic 31, 3) := by decide +kernel
theorem dX2_readFrom_29 : decode cX2_readFrom 29 = .ok (.istore 5, 2) := by decide +kernel
theorem dX2_readFrom_31 : decode cX2_readFrom 31 = .ok (.iload 5, 2) := by decide +kernel
theorem dX2_readFrom_33 : decode cX2_readFrom 33 = .ok (.ifCond .ge 5, 3) := by decide +kernel
theorem dX2_readFrom_36 : decode cX2_readFrom 36 = .ok (.iload_n 2, 1) := by decide +kernel
theorem dX2_readFrom_37 : decode cX2_readFrom 37 = .ok (.ireturn, 1) := by decide +kernel
theorem dX2_readFrom_38 : decode cX2_readFrom 38 = .ok (.iload_n 2, 1) := by decide +kernel
theorem dX2_readFrom_39 : decode cX2_readFrom 39 = .ok (.iload 4, 2) := by decide +kernel
theorem dX2_readFrom_41 : decode cX2_readFrom 41 = .ok (.iadd, 1) := by decide +kernel
theorem dX2_readFrom_42 : decode cX2_readFrom 42 = .ok (.istore_n 2, 1) := by decide +kernel
theorem dX2_readFrom_43 : decode cX2_readFrom 43 = .ok (.aload_n 1, 1) := by decide +kernel
theorem dX2_readFrom_44 : decode cX2_readFrom 44 = .ok (.iload_n 2, 1) := by decide +kernel
theorem dX2_readFrom_45 : decode cX2_readFrom 45 = .ok (.invokestatic 35, 3) := by decide +kernel
theorem dX2_readFrom_48 : decode cX2_readFrom 48 = .ok (.istore 6, 2) := by decide +kernel
theorem dX2_readFrom_50 : decode cX2_readFrom 50 = .ok (.iload 6, 2) := by decide +kernel
theorem dX2_readFrom_52 : decode cX2_readFrom 52 = .ok (.iconst 4, 1) := by decide +kernel
theorem dX2_readFrom_53 : decode cX2_readFrom 53 = .ok (.if_icmp .ge 8, 3) := by decide +kernel
theorem dX2_readFrom_56 : decode cX2_readFrom 56 = .ok (.iload_n 2, 1) := by decide +kernel
theorem dX2_readFrom_57 : decode cX2_readFrom 57 = .ok (.iload 6, 2) := by decide +kernel
theorem dX2_readFrom_59 : decode cX2_readFrom 59 = .ok (.iadd, 1) := by decide +kernel
theorem dX2_readFrom_60 : decode cX2_readFrom 60 = .ok (.ireturn, 1) := by decide +kernel
theorem dX2_readFrom_61 : decode cX2_readFrom 61 = .ok (.aload_n 0, 1) := by decide +kernel
theorem dX2_readFrom_62 : decode cX2_readFrom 62 = .ok (.getfield 11, 3) := by decide +kernel
theorem dX2_readFrom_65 : decode cX2_readFrom 65 = .ok (.iload_n 3, 1) := by decide +kernel
theorem dX2_readFrom_66 : decode cX2_readFrom 66 = .ok (.iload 5, 2) := by decide +kernel
theorem dX2_readFrom_68 : decode cX2_readFrom 68 = .ok (.iastore, 1) := by decide +kernel
theorem dX2_readFrom_69 : decode cX2_readFrom 69 = .ok (.aload_n 0, 1) := by decide +kernel
theorem dX2_readFrom_70 : decode cX2_readFrom 70 = .ok (.getfield 15, 3) := by decide +kernel
theorem dX2_readFrom_73 : decode cX2_readFrom 73 = .ok (.iload_n 3, 1) := by decide +kernel
theorem dX2_readFrom_74 : decode cX2_readFrom 74 = .ok (.aload_n 1, 1) := by decide +kernel
theorem dX2_readFrom_75 : decode cX2_readFrom 75 = .ok (.iload_n 2, 1) := by decide +kernel
theorem dX2_readFrom_76 : decode cX2_readFrom 76 = .ok (.iconst 1, 1) := by decide +kernel
theorem dX2_readFrom_77 : decode cX2_readFrom 77 = .ok (.iadd, 1) := by decide +kernel
theorem dX2_readFrom_78 : decode cX2_readFrom 78 = .ok (.invokevirtual 39, 3) := by decide +kernel
theorem dX2_readFrom_81 : decode cX2_readFrom 81 = .ok (.bipush 48, 2) := by decide +kernel
theorem dX2_readFrom_83 : decode cX2_readFrom 83 = .ok (.isub, 1) := by decide +kernel
theorem dX2_readFrom_84 : decode cX2_readFrom 84 = .ok (.iastore, 1) := by decide +kernel
theorem dX2_readFrom_85 : decode cX2_readFrom 85 = .ok (.aload_n 0, 1) := by decide +kernel
theorem dX2_readFrom_86 : decode cX2_readFrom 86 = .ok (.getfield 18, 3) := by decide +kernel
theorem dX2_readFrom_89 : decode cX2_readFrom 89 = .ok (.iload_n 3, 1) := by decide +kernel
theorem dX2_readFrom_90 : decode cX2_readFrom 90 = .ok (.aload_n 1, 1) := by decide +kernel
theorem dX2_readFrom_91 : decode cX2_readFrom 91 = .ok (.iload_n 2, 1) := by decide +kernel
theorem dX2_readFrom_92 : decode cX2_readFrom 92 = .ok (.iconst 3, 1) := by decide +kernel
theorem dX2_readFrom_93 : decode cX2_readFrom 93 = .ok (.iadd, 1) := by decide +kernel
theorem dX2_readFrom_94 : decode cX2_readFrom 94 = .ok (.invokevirtual 39, 3) := by decide +kernel
theorem dX2_readFrom_97 : decode cX2_readFrom 97 = .ok (.bipush 48, 2) := by decide +kernel
theorem dX2_readFrom_99 : decode cX2_readFrom 99 = .ok (.isub, 1) := by decide +kernel
theorem dX2_readFrom_100 : decode cX2_readFrom 100 = .ok (.iastore, 1) := by decide +kernel
theorem dX2_readFrom_101 : decode cX2_readFrom 101 = .ok (.aload_n 0, 1) := by decide +kernel
theorem dX2_readFrom_102 : decode cX2_readFrom 102 = .ok (.iload_n 3, 1) := by decide +kernel
theorem dX2_readFrom_103 : decode cX2_readFrom 103 = .ok (.iconst 1, 1) := by decide +kernel
theorem dX2_readFrom_104 : decode cX2_readFrom 104 = .ok (.iadd, 1) := by decide +kernel
theorem dX2_readFrom_105 : decode cX2_readFrom 105 = .ok (.putfield 21, 3) := by decide +kernel
theorem dX2_readFrom_108 : decode cX2_readFrom 108 = .ok (.iinc 2 4, 3) := by decide +kernel
theorem dX2_readFrom_111 : decode cX2_readFrom 111 = .ok (.aload_n 1, 1) := by decide +kernel
theorem dX2_readFrom_112 : decode cX2_readFrom 112 = .ok (.iload_n 2, 1) := by decide +kernel
theorem dX2_readFrom_113 : decode cX2_readFrom 113 = .ok (.invokevirtual 39, 3) := by decide +kernel
theorem dX2_readFrom_116 : decode cX2_readFrom 116 = .ok (.iconst (-1), 1) := by decide +kernel
theorem dX2_readFrom_117 : decode cX2_readFrom 117 = .ok (.if_icmp .ne 5, 3) := by decide +kernel
theorem dX2_readFrom_120 : decode cX2_readFrom 120 = .ok (.iconst (-1), 1) := by decide +kernel
theorem dX2_readFrom_121 : decode cX2_readFrom 121 = .ok (.ireturn, 1) := by decide +kernel
theorem dX2_readFrom_122 : decode cX2_readFrom 122 = .ok (.aload_n 1, 1) := by decide +kernel
theorem dX2_readFrom_123 : decode cX2_readFrom 123 = .ok (.iload_n 2, 1) := by decide +kernel
theorem dX2_readFrom_124 : decode cX2_readFrom 124 = .ok (.invokevirtual 39, 3) := by decide +kernel
theorem dX2_readFrom_127 : decode cX2_readFrom 127 = .ok (.bipush 59, 2) := by decide +kernel
theorem dX2_readFrom_129 : decode cX2_readFrom 129 = .ok (.if_icmp .eq 5, 3) := by decide +kernel
theorem dX2_readFrom_132 : decode cX2_readFrom 132 = .ok (.iload_n 2, 1) := by decide +kernel
theorem dX2_readFrom_133 : decode cX2_readFrom 133 = .ok (.ireturn, 1) := by decide +kernel
theorem dX2_readFrom_134 : decode cX2_readFrom 134 = .ok (.iinc 2 1, 3) := by decide +kernel
theorem dX2_readFrom_137 : decode cX2_readFrom 137 = .ok (.iinc 3 1, 3) := by decide +kernel
theorem dX2_readFrom_140 : decode cX2_readFrom 140 = .ok (.goto (-131), 3) := by decide +kernel
theorem dX2_readFrom_143 : decode cX2_readFrom 143 = .ok (.iload_n 2, 1) := by decide +kernel
theorem dX2_readFrom_144 : decode cX2_readFrom 144 = .ok (.ireturn, 1) := by decide +kernel
set_option maxHeartbeats 4000000 in
set_option maxRecDepth 100000 in
theorem cn_X2_readFrom {l : Launch} {cA : Nat → ClassId} {ad : Nat → Nat} {D : va_G} {E : Nat → Nat} {A : Nat → Prop}  {s0 sr : SS} {rr : Int32} (hf : f_X2_readFrom s0 = some (rr, sr)) : zCon Ox Nx cA ad D E l yX2_readFrom cX2_readFrom 7 (some .int) 6 A [.ref (ad 9), .ref (ad 8)] s0 (some (.int rr)) sr := by
  refine zstart (own := RX2) hOx (by decide) rfl (Nat.le_of_ble_eq_true rfl) ?_
  intro p e s m args below meth c X hP ls hl
  have hx := X.1
  have hb := X.2.1
  have hl : lv_has ls 7 [(0, .ref (ad 9)), (1, .ref (ad 8))] := hl
  have hS : va_S A s.heap s.heap [] := va_S.rf
  have hc_9 : ∀ (n9 : Nat) (x2 : Int32) (x3 : Int32) (s1 : SS) (H : Heap) (locs : List Loc) (ls : Array Slot), lv_has ls 7 [(0, .ref (ad 9)), (1, .ref (ad 8)), (2, .int x2), (3, .int x3)] → va_P D ZCL (zw Ox Nx cA ad s1) H → va_S A s.heap H locs → f_X2_readFrom_c9 n9 x2 x3 s1 = some (rr, sr) → W p l e (zrm 6) s m args below meth c H locs 0 0 (MQ below (zQc Ox Nx cA ad D A (some (.int rr)) sr) args s 0 0 A) (F0 m 9 ls []) := by
    intro n9
    induction n9 with
    | zero =>
      intro x2 x3 s1 H locs ls hl hP hS hf
      rw [f_X2_readFrom_c9] at hf
      cases hf
    | succ n9 ih9 =>
      intro x2 x3 s1 H locs ls hl hP hS hf
      rw [f_X2_readFrom_c9] at hf
      refine lv_iload_n hx hb dX2_readFrom_9 rfl (lv_at hl 3 rfl) ?_
      refine lv_bipush (v := 12) hx hb dX2_readFrom_10 (by decide) ?_
      refine zicmp_ge (tgt := 143) hx hb dX2_readFrom_12 (by decide) hf (fun hf => ?_) (fun hf => ?_)
      · refine lv_iload_n hx hb dX2_readFrom_143 rfl (lv_at hl 2 rfl) ?_
        exact zret_i X hP hS hf rfl dX2_readFrom_144
      · refine lv_aload_n hx hb dX2_readFrom_15 rfl (lv_at hl 1 rfl) ?_
        refine lv_iload_n hx hb dX2_readFrom_16 rfl (lv_at hl 2 rfl) ?_
        obtain ⟨r1, s2, h3, hf⟩ := zbd_some hf
        refine zcallV X hP hS hl.1 (k := 8) (As := [.int x2]) (rest := []) (cn_X9_wordLength h3) cw_X9_wordLength zp_9 rfl (by decide) rfl ml_X2_25 (by decide) rfl rfl (Nat.le_of_ble_eq_true rfl) dX2_readFrom_17 (fun H locs hP hS => ?_)
        refine lv_istore (lv' := [(4, .int r1), (0, .ref (ad 9)), (1, .ref (ad 8)), (2, .int x2), (3, .int x3)]) hx hb dX2_readFrom_20 hl (by decide) rfl (fun ls hl => ?_)
        refine lv_aload_n hx hb dX2_readFrom_22 rfl (lv_at hl 2 rfl) ?_
        refine lv_iload_n hx hb dX2_readFrom_23 rfl (lv_at hl 3 rfl) ?_
        refine lv_iload hx hb dX2_readFrom_24 (lv_at hl 0 rfl) ?_
        obtain ⟨r4, s5, h6, hf⟩ := zbd_some hf
        refine zcallS X hP hS hl.1 (As := [.ref (ad 8), .int x2, .int r1]) (rest := []) (cn_X2_wordOf h6) cw_X2_wordOf ml_X2_31 (by decide) rfl rfl (Nat.le_of_ble_eq_true rfl) dX2_readFrom_26 (fun H locs hP hS => ?_)
        refine lv_istore (lv' := [(5, .int r4), (4, .int r1), (0, .ref (ad 9)), (1, .ref (ad 8)), (2, .int x2), (3, .int x3)]) hx hb dX2_readFrom_29 hl (by decide) rfl (fun ls hl => ?_)
        refine lv_iload hx hb dX2_readFrom_31 (lv_at hl 0 rfl) ?_
        refine zif_ge (tgt := 38) hx hb dX2_readFrom_33 (by decide) hf (fun hf => ?_) (fun hf => ?_)
        · refine lv_iload_n hx hb dX2_readFrom_38 rfl (lv_at hl 4 rfl) ?_
          refine lv_iload hx hb dX2_readFrom_39 (lv_at hl 1 rfl) ?_
          refine lv_iadd hx hb dX2_readFrom_41 ?_
          refine lv_istore_n (lv' := [(2, .int (x2 + r1)), (5, .int r4), (4, .int r1), (0, .ref (ad 9)), (1, .ref (ad 8)), (3, .int x3)]) hx hb dX2_readFrom_42 rfl hl (by decide) rfl (fun ls hl => ?_)
          refine lv_aload_n hx hb dX2_readFrom_43 rfl (lv_at hl 4 rfl) ?_
          refine lv_iload_n hx hb dX2_readFrom_44 rfl (lv_at hl 0 rfl) ?_
          obtain ⟨r7, s8, h9, hf⟩ := zbd_some hf
          refine zcallS X hP hS hl.1 (As := [.ref (ad 8), .int (x2 + r1)]) (rest := []) (cn_X2_rightSigns h9) cw_X2_rightSigns ml_X2_35 (by decide) rfl rfl (Nat.le_of_ble_eq_true rfl) dX2_readFrom_45 (fun H locs hP hS => ?_)
          refine lv_istore (lv' := [(6, .int r7), (2, .int (x2 + r1)), (5, .int r4), (4, .int r1), (0, .ref (ad 9)), (1, .ref (ad 8)), (3, .int x3)]) hx hb dX2_readFrom_48 hl (by decide) rfl (fun ls hl => ?_)
          refine lv_iload hx hb dX2_readFrom_50 (lv_at hl 0 rfl) ?_
          refine lv_iconst (v := 4) hx hb dX2_readFrom_52 (by decide) ?_
          refine zicmp_ge (tgt := 61) hx hb dX2_readFrom_53 (by decide) hf (fun hf => ?_) (fun hf => ?_)
          · refine lv_aload_n hx hb dX2_readFrom_61 rfl (lv_at hl 4 rfl) ?_
            refine gf_X2_11 X hP (k := 9) (q := 74) rfl dX2_readFrom_62 rfl ?_
            refine lv_iload_n hx hb dX2_readFrom_65 rfl (lv_at hl 6 rfl) ?_
            refine lv_iload hx hb dX2_readFrom_66 (lv_at hl 2 rfl) ?_
            obtain ⟨g10, hf⟩ := zgd hf
            refine zast_i X hP hS (k := 74) (n := 12) (rs := []) rfl g10 dX2_readFrom_68 (fun H locs hP hS => ?_)
            refine lv_aload_n hx hb dX2_readFrom_69 rfl (lv_at hl 4 rfl) ?_
            refine gf_X2_15 X hP (k := 9) (q := 75) rfl dX2_readFrom_70 rfl ?_
            refine lv_iload_n hx hb dX2_readFrom_73 rfl (lv_at hl 6 rfl) ?_
            refine lv_aload_n hx hb dX2_readFrom_74 rfl (lv_at hl 5 rfl) ?_
            refine lv_iload_n hx hb dX2_readFrom_75 rfl (lv_at hl 1 rfl) ?_
            refine lv_iconst (v := 1) hx hb dX2_readFrom_76 (by decide) ?_
            refine lv_iadd hx hb dX2_readFrom_77 ?_
            obtain ⟨r11, s12, h13, hf⟩ := zbd_some hf
            refine zcallV X hP hS hl.1 (k := 8) (As := [.int ((x2 + r1) + (1 : Int32))]) (rest := [.int x3, .ref (ad 75)]) (cn_X9_signAt h13) cw_X9_signAt zp_9 rfl (by decide) rfl ml_X2_39 (by decide) rfl rfl (Nat.le_of_ble_eq_true rfl) dX2_readFrom_78 (fun H locs hP hS => ?_)
            refine lv_bipush (v := 48) hx hb dX2_readFrom_81 (by decide) ?_
            refine lv_isub hx hb dX2_readFrom_83 ?_
            obtain ⟨g14, hf⟩ := zgd hf
            refine zast_i X hP hS (k := 75) (n := 12) (rs := []) rfl g14 dX2_readFrom_84 (fun H locs hP hS => ?_)
            refine lv_aload_n hx hb dX2_readFrom_85 rfl (lv_at hl 4 rfl) ?_
            refine gf_X2_18 X hP (k := 9) (q := 76) rfl dX2_readFrom_86 rfl ?_
            refine lv_iload_n hx hb dX2_readFrom_89 rfl (lv_at hl 6 rfl) ?_
            refine lv_aload_n hx hb dX2_readFrom_90 rfl (lv_at hl 5 rfl) ?_
            refine lv_iload_n hx hb dX2_readFrom_91 rfl (lv_at hl 1 rfl) ?_
            refine lv_iconst (v := 3) hx hb dX2_readFrom_92 (by decide) ?_
            refine lv_iadd hx hb dX2_readFrom_93 ?_
            obtain ⟨r15, s16, h17, hf⟩ := zbd_some hf
            refine zcallV X hP hS hl.1 (k := 8) (As := [.int ((x2 + r1) + (3 : Int32))]) (rest := [.int x3, .ref (ad 76)]) (cn_X9_signAt h17) cw_X9_signAt zp_9 rfl (by decide) rfl ml_X2_39 (by decide) rfl rfl (Nat.le_of_ble_eq_true rfl) dX2_readFrom_94 (fun H locs hP hS => ?_)
            refine lv_bipush (v := 48) hx hb dX2_readFrom_97 (by decide) ?_
            refine lv_isub hx hb dX2_readFrom_99 ?_
            obtain ⟨g18, hf⟩ := zgd hf
            refine zast_i X hP hS (k := 76) (n := 12) (rs := []) rfl g18 dX2_readFrom_100 (fun H locs hP hS => ?_)
            refine lv_aload_n hx hb dX2_readFrom_101 rfl (lv_at hl 4 rfl) ?_
            refine lv_iload_n hx hb dX2_readFrom_102 rfl (lv_at hl 6 rfl) ?_
            refine lv_iconst (v := 1) hx hb dX2_readFrom_103 (by decide) ?_
            refine lv_iadd hx hb dX2_readFrom_104 ?_
            refine pf_X2_21 X hP hS (k := 9) rfl dX2_readFrom_105 (fun H locs hP hS => ?_)
            refine lv_iinc (v := ((x2 + r1) + 4)) (lv' := [(2, .int ((x2 + r1) + 4)), (6, .int r7), (5, .int r4), (4, .int r1), (0, .ref (ad 9)), (1, .ref (ad 8)), (3, .int x3)]) hx hb dX2_readFrom_108 hl (k := 1) rfl rfl (by decide) rfl (fun ls hl => ?_)
            refine lv_aload_n hx hb dX2_readFrom_111 rfl (lv_at hl 5 rfl) ?_
            refine lv_iload_n hx hb dX2_readFrom_112 rfl (lv_at hl 0 rfl) ?_
            obtain ⟨r19, s20, h21, hf⟩ := zbd_some hf
            refine zcallV X hP hS hl.1 (k := 8) (As := [.int ((x2 + r1) + 4)]) (rest := []) (cn_X9_signAt h21) cw_X9_signAt zp_9 rfl (by decide) rfl ml_X2_39 (by decide) rfl rfl (Nat.le_of_ble_eq_true rfl) dX2_readFrom_113 (fun H locs hP hS => ?_)
            refine lv_iconst (v := (-1)) hx hb dX2_readFrom_116 (by decide) ?_
            refine zicmp_ne (tgt := 122) hx hb dX2_readFrom_117 (by decide) hf (fun hf => ?_) (fun hf => ?_)
            · refine lv_aload_n hx hb dX2_readFrom_122 rfl (lv_at hl 5 rfl) ?_
              refine lv_iload_n hx hb dX2_readFrom_123 rfl (lv_at hl 0 rfl) ?_
              obtain ⟨r22, s23, h24, hf⟩ := zbd_some hf
              refine zcallV X hP hS hl.1 (k := 8) (As := [.int ((x2 + r1) + 4)]) (rest := []) (cn_X9_signAt h24) cw_X9_signAt zp_9 rfl (by decide) rfl ml_X2_39 (by decide) rfl rfl (Nat.le_of_ble_eq_true rfl) dX2_readFrom_124 (fun H locs hP hS => ?_)
              refine lv_bipush (v := 59) hx hb dX2_readFrom_127 (by decide) ?_
              refine zicmp_eq (tgt := 134) hx hb dX2_readFrom_129 (by decide) hf (fun hf => ?_) (fun hf => ?_)
              · refine lv_iinc (v := (((x2 + r1) + 4) + 1)) (lv' := [(2, .int (((x2 + r1) + 4) + 1)), (6, .int r7), (5, .int r4), (4, .int r1), (0, .ref (ad 9)), (1, .ref (ad 8)), (3, .int x3)]) hx hb dX2_readFrom_134 hl (k := 0) rfl rfl (by decide) rfl (fun ls hl => ?_)
                refine lv_iinc (v := (x3 + 1)) (lv' := [(3, .int (x3 + 1)), (2, .int (((x2 + r1) + 4) + 1)), (6, .int r7), (5, .int r4), (4, .int r1), (0, .ref (ad 9)), (1, .ref (ad 8))]) hx hb dX2_readFrom_137 hl (k := 6) rfl rfl (by decide) rfl (fun ls hl => ?_)
                refine lv_goto (tgt := 9) hx hb dX2_readFrom_140 (by decide) ?_
                exact ih9 (((x2 + r1) + 4) + 1) (x3 + 1) s23 _ _ _ (lv_sub hl [5, 6, 1, 0] rfl) hP hS hf
              · refine lv_iload_n hx hb dX2_readFrom_132 rfl (lv_at hl 0 rfl) ?_
                exact zret_i X hP hS hf rfl dX2_readFrom_133
            · refine lv_iconst (v := (-1)) hx hb dX2_readFrom_120 (by decide) ?_
              exact zret_i X hP hS hf rfl dX2_readFrom_121
          · refine lv_iload_n hx hb dX2_readFrom_56 rfl (lv_at hl 1 rfl) ?_
            refine lv_iload hx hb dX2_readFrom_57 (lv_at hl 0 rfl) ?_
            refine lv_iadd hx hb dX2_readFrom_59 ?_
            exact zret_i X hP hS hf rfl dX2_readFrom_60
        · refine lv_iload_n hx hb dX2_readFrom_36 rfl (lv_at hl 4 rfl) ?_
          exact zret_i X hP hS hf rfl dX2_readFrom_37
  rw [f_X2_readFrom] at hf
  refine lv_aload_n hx hb dX2_readFrom_0 rfl (lv_at hl 0 rfl) ?_
  refine lv_iconst (v := 0) hx hb dX2_readFrom_1 (by decide) ?_
  refine pf_X2_21 X hP hS (k := 9) rfl dX2_readFrom_2 (fun H locs hP hS => ?_)
  refine lv_iconst (v := 0) hx hb dX2_readFrom_5 (by decide) ?_
  refine lv_istore_n (lv' := [(2, .int 0), (0, .ref (ad 9)), (1, .ref (ad 8))]) hx hb dX2_readFrom_6 rfl hl (by decide) rfl (fun ls hl => ?_)
  refine lv_iconst (v := 0) hx hb dX2_readFrom_7 (by decide) ?_
  refine lv_istore_n (lv' := [(3, .int 0), (2, .int 0), (0, .ref (ad 9)), (1, .ref (ad 8))]) hx hb dX2_readFrom_8 rfl hl (by decide) rfl (fun ls hl => ?_)
  exact hc_9 ZF 0 0 (zS s0 9 3 0) _ _ _ (lv_sub hl [2, 3, 1, 0] rfl) hP hS hf
theorem dX3_classAt_0 : decode cX3_classAt 0 = .ok (.lload_n 1, 1) := by decide +kernel
theorem dX3_classAt_1 : decode cX3_classAt 1 = .ok (.lconst 0, 1) := by decide +kernel
theorem dX3_classAt_2 : decode cX3_classAt 2 = .ok (.lcmp, 1) := by decide +kernel
theorem dX3_classAt_3 : decode cX3_classAt 3 = .ok (.ifCond .lt 13, 3) := by decide +kernel
theorem dX3_classAt_6 : decode cX3_classAt 6 = .ok (.lload_n 1, 1) := by decide +kernel
theorem dX3_classAt_7 : decode cX3_classAt 7 = .ok (.aload_n 0, 1) := by decide +kernel
theorem dX3_classAt_8 : decode cX3_classAt 8 = .ok (.getfield 25, 3) := by decide +kernel
theorem dX3_classAt_11 : decode cX3_classAt 11 = .ok (.i2l, 1) := by decide +kernel
theorem dX3_classAt_12 : decode cX3_classAt 12 = .ok (.lcmp, 1) := by decide +kernel
theorem dX3_classAt_13 : decode cX3_classAt 13 = .ok (.ifCond .lt 7, 3) := by decide +kernel
theorem dX3_classAt_16 : decode cX3_classAt 16 = .ok (.aconst_null, 1) := by decide +kernel
theorem dX3_classAt_17 : decode cX3_classAt 17 = .ok (.goto 10, 3) := by decide +kernel
theorem dX3_classAt_20 : decode cX3_classAt 20 = .ok (.aload_n 0, 1) := by decide +kernel
theorem dX3_classAt_21 : decode cX3_classAt 21 = .ok (.getfield 20, 3) := by decide +kernel
theorem dX3_classAt_24 : decode cX3_classAt 24 = .ok (.lload_n 1, 1) := by decide +kernel
theorem dX3_classAt_25 : decode cX3_classAt 25 = .ok (.l2i, 1) := by decide +kernel
theorem dX3_classAt_26 : decode cX3_classAt 26 = .ok (.aaload, 1) := by decide +kernel
theorem dX3_classAt_27 : decode cX3_classAt 27 = .ok (.areturn, 1) := by decide +kernel
set_option maxHeartbeats 4000000 in
set_option maxRecDepth 100000 in
theorem cn_X3_classAt {l : Launch} {cA : Nat → ClassId} {ad : Nat → Nat} {D : va_G} {E : Nat → Nat} {A : Nat → Prop} {k0 : Nat} {x1 : Int64} {s0 sr : SS} {rr : Option Nat} (hf : f_X3_classAt k0 x1 s0 = some (rr, sr)) : zCon Ox Nx cA ad D E l yX3_classAt cX3_classAt 3 (some (.object "BlownSpaces$Klass")) 0 A [.ref (ad k0), .long x1] s0 (some (va_rf (rr.map ad))) sr := by
  refine zstart (own := RX3) hOx (by decide) rfl (Nat.le_of_ble_eq_true rfl) ?_
  intro p e s m args below meth c X hP ls hl
  have hx := X.1
  have hb := X.2.1
  have hl : lv_has ls 3 [(0, .ref (ad k0)), (1, .long x1)] := hl
  have hS : va_S A s.heap s.heap [] := va_S.rf
  rw [f_X3_classAt] at hf
  obtain ⟨gp0, hf⟩ := zgd hf
  refine lv_lload_n hx hb dX3_classAt_0 rfl (lv_at hl 1 rfl) ?_
  refine lv_lconst (v := 0) hx hb dX3_classAt_1 (by decide) ?_
  refine W.lcmp hx hb dX3_classAt_2 ?_
  refine zif_lt (tgt := 16) hx hb dX3_classAt_3 (by decide) hf (fun hf => ?_) (fun hf => ?_)
  · refine lv_null hx hb dX3_classAt_16 ?_
    refine lv_goto (tgt := 27) hx hb dX3_classAt_17 (by decide) ?_
    exact zret_n X hP hS hf dX3_classAt_27
  · refine lv_lload_n hx hb dX3_classAt_6 rfl (lv_at hl 1 rfl) ?_
    refine lv_aload_n hx hb dX3_classAt_7 rfl (lv_at hl 0 rfl) ?_
    refine gf_X3_25 X hP (k := k0) gp0 dX3_classAt_8 ?_
    refine lv_i2l hx hb dX3_classAt_11 rfl ?_
    refine W.lcmp hx hb dX3_classAt_12 ?_
    refine zif_lt (tgt := 20) hx hb dX3_classAt_13 (by decide) hf (fun hf => ?_) (fun hf => ?_)
    · refine lv_aload_n hx hb dX3_classAt_20 rfl (lv_at hl 0 rfl) ?_
      refine gf_X3_20 X hP (k := k0) gp0 dX3_classAt_21 rfl ?_
      refine lv_lload_n hx hb dX3_classAt_24 rfl (lv_at hl 1 rfl) ?_
      refine lv_l2i hx hb dX3_classAt_25 rfl ?_
      obtain ⟨g1, hf⟩ := zgd hf
      obtain ⟨g3, hf⟩ := zgd hf
      obtain ⟨n2, rn2, on2, in2⟩ := zok_of g1
      refine zald_q X hP zlr_x (k := (zrf Ox k0 1)) on2 in2 dX3_classAt_26 rfl ?_
      exact zret_r X hP hS hf dX3_classAt_27
    · refine lv_null hx hb dX3_classAt_16 ?_
      refine lv_goto (tgt := 27) hx hb dX3_classAt_17 (by decide) ?_
      exact zret_n X hP hS hf dX3_classAt_27
theorem dX4_clear_0 : decode cX4_clear 0 = .ok (.aload_n 0, 1) := by decide +kernel
theorem dX4_clear_1 : decode cX4_clear 1 = .ok (.iconst 0, 1) := by decide +kernel
theorem dX4_clear_2 : decode cX4_clear 2 = .ok (.putfield 17, 3) := by decide +kernel
theorem dX4_clear_5 : decode cX4_clear 5 = .ok (.aload_n 0, 1) := by decide +kernel
theorem dX4_clear_6 : decode cX4_clear 6 = .ok (.iconst 0, 1) := by decide +kernel
theorem dX4_clear_7 : decode cX4_clear 7 = .ok (.putfield 21, 3) := by decide +kernel
theorem dX4_clear_10 : decode cX4_clear 10 = .ok (.aload_n 0, 1) := by decide +kernel
theorem dX4_clear_11 : decode cX4_clear 11 = .ok (.getfield 11, 3) := by decide +kernel
theorem dX4_clear_14 : decode cX4_clear 14 = .ok (.lconst 0, 1) := by decide +kernel
theorem dX4_clear_15 : decode cX4_clear 15 = .ok (.invokestatic 24, 3) := by decide +kernel
theorem dX4_clear_18 : decode cX4_clear 18 = .ok (.return_, 1) := by decide +kernel
set_option maxHeartbeats 4000000 in
set_option maxRecDepth 100000 in
theorem cn_X4_clear {l : Launch} {cA : Nat → ClassId} {ad : Nat → Nat} {D : va_G} {E : Nat → Nat} {A : Nat → Prop} {k0 : Nat} {s0 sr : SS} {rr : Unit} (hf : f_X4_clear k0 s0 = some (rr, sr)) : zCon Ox Nx cA ad D E l yX4_clear cX4_clear 1 none 1 A [.ref (ad k0)] s0 none sr := by
  refine zstart (own := RX4) hOx (by decide) rfl (Nat.le_of_ble_eq_true rfl) ?_
  intro p e s m args below meth c X hP ls hl
  have hx := X.1
  have hb := X.2.1
  have hl : lv_has ls 1 [(0, .ref (ad k0))] := hl
  have hS : va_S A s.heap s.heap [] := va_S.rf
  rw [f_X4_clear] at hf
  obtain ⟨gp0, hf⟩ := zgd hf
  refine lv_aload_n hx hb dX4_clear_0 rfl (lv_at hl 0 rfl) ?_
  refine lv_iconst (v := 0) hx hb dX4_clear_1 (by decide) ?_
  refine pf_X4_17 X hP hS (k := k0) gp0 dX4_clear_2 (fun H locs hP hS => ?_)
  refine lv_aload_n hx hb dX4_clear_5 rfl (lv_at hl 0 rfl) ?_
  refine lv_iconst (v := 0) hx hb dX4_clear_6 (by decide) ?_
  refine pf_X4_21 X hP hS (k := k0) gp0 dX4_clear_7 (fun H locs hP hS => ?_)
  refine lv_aload_n hx hb dX4_clear_10 rfl (lv_at hl 0 rfl) ?_
  refine gf_X4_11 X hP (k := k0) gp0 dX4_clear_11 rfl ?_
  refine lv_lconst (v := 0) hx hb dX4_clear_14 (by decide) ?_
  obtain ⟨r1, s2, h3, hf⟩ := zbd_some hf
  refine zcallS X hP hS hl.1 (As := [.ref (ad (zrf Ox k0 2)), .long 0]) (rest := []) (cn_J7_fill_d0a16 hOx h3) cw_J7_fill_d0a16 ml_X4_24 (by decide) rfl rfl (Nat.le_of_ble_eq_true rfl) dX4_clear_15 (fun H locs hP hS => ?_)
  exact zret_v X hP hS hf dX4_clear_18
theorem dX3_bring_0 : decode cX3_bring 0 = .ok (.aload_n 0, 1) := by decide +kernel
theorem dX3_bring_1 : decode cX3_bring 1 = .ok (.getfield 25, 3) := by decide +kernel
theorem dX3_bring_4 : decode cX3_bring 4 = .ok (.bipush 8, 2) := by decide +kernel
theorem dX3_bring_6 : decode cX3_bring 6 = .ok (.if_icmp .lt 5, 3) := by decide +kernel
theorem dX3_bring_9 : decode cX3_bring 9 = .ok (.aconst_null, 1) := by decide +kernel
theorem dX3_bring_10 : decode cX3_bring 10 = .ok (.areturn, 1) := by decide +kernel
theorem dX3_bring_11 : decode cX3_bring 11 = .ok (.aload_n 0, 1) := by decide +kernel
theorem dX3_bring_12 : decode cX3_bring 12 = .ok (.getfield 20, 3) := by decide +kernel
theorem dX3_bring_15 : decode cX3_bring 15 = .ok (.aload_n 0, 1) := by decide +kernel
theorem dX3_bring_16 : decode cX3_bring 16 = .ok (.getfield 25, 3) := by decide +kernel
theorem dX3_bring_19 : decode cX3_bring 19 = .ok (.aaload, 1) := by decide +kernel
theorem dX3_bring_20 : decode cX3_bring 20 = .ok (.astore_n 1, 1) := by decide +kernel
theorem dX3_bring_21 : decode cX3_bring 21 = .ok (.aload_n 1, 1) := by decide +kernel
theorem dX3_bring_22 : decode cX3_bring 22 = .ok (.invokevirtual 29, 3) := by decide +kernel
theorem dX3_bring_25 : decode cX3_bring 25 = .ok (.aload_n 0, 1) := by decide +kernel
theorem dX3_bring_26 : decode cX3_bring 26 = .ok (.dup, 1) := by decide +kernel
theorem dX3_bring_27 : decode cX3_bring 27 = .ok (.getfield 25, 3) := by decide +kernel
theorem dX3_bring_30 : decode cX3_bring 30 = .ok (.iconst 1, 1) := by decide +kernel
theorem dX3_bring_31 : decode cX3_bring 31 = .ok (.iadd, 1) := by decide +kernel
theorem dX3_bring_32 : decode cX3_bring 32 = .ok (.putfield 25, 3) := by decide +kernel
theorem dX3_bring_35 : decode cX3_bring 35 = .ok (.aload_n 1, 1) := by decide +kernel
theorem dX3_bring_36 : decode cX3_bring 36 = .ok (.areturn, 1) := by decide +kernel
set_option maxHeartbeats 4000000 in
set_option maxRecDepth 100000 in
theorem cn_X3_bring {l : Launch} {cA : Nat → ClassId} {ad : Nat → Nat} {D : va_G} {E : Nat → Nat} {A : Nat → Prop} {k0 : Nat} {s0 sr : SS} {rr : Option Nat} (hf : f_X3_bring k0 s0 = some (rr, sr)) : zCon Ox Nx cA ad D E l yX3_bring cX3_bring 2 (some (.object "BlownSpaces$Klass")) 2 A [.ref (ad k0)] s0 (some (va_rf (rr.map ad))) sr := by
  refine zstart (own := RX3) hOx (by decide) rfl (Nat.le_of_ble_eq_true rfl) ?_
  intro p e s m args below meth c X hP ls hl
  have hx := X.1
  have hb := X.2.1
  have hl : lv_has ls 2 [(0, .ref (ad k0))] := hl
  have hS : va_S A s.heap s.heap [] := va_S.rf
  rw [f_X3_bring] at hf
  obtain ⟨gp0, hf⟩ := zgd hf
  refine lv_aload_n hx hb dX3_bring_0 rfl (lv_at hl 0 rfl) ?_
  refine gf_X3_25 X hP (k := k0) gp0 dX3_bring_1 ?_
  refine lv_bipush (v := 8) hx hb dX3_bring_4 (by decide) ?_
  refine zicmp_lt (tgt := 11) hx hb dX3_bring_6 (by decide) hf (fun hf => ?_) (fun hf => ?_)
  · refine lv_aload_n hx hb dX3_bring_11 rfl (lv_at hl 0 rfl) ?_
    refine gf_X3_20 X hP (k := k0) gp0 dX3_bring_12 rfl ?_
    refine lv_aload_n hx hb dX3_bring_15 rfl (lv_at hl 0 rfl) ?_
    refine gf_X3_25 X hP (k := k0) gp0 dX3_bring_16 ?_
    obtain ⟨g1, hf⟩ := zgd hf
    obtain ⟨g3, hf⟩ := zgd hf
    obtain ⟨n2, rn2, on2, in2⟩ := zok_of g1
    refine zald_q X hP zlr_x (k := (zrf Ox k0 1)) on2 in2 dX3_bring_19 rfl ?_
    refine lv_astore_n (lv' := [(1, .ref (ad (zrr Ox (zrf Ox k0 1) (s0.1 k0 2)))), (0, .ref (ad k0))]) hx hb dX3_bring_20 rfl hl (by decide) rfl (fun ls hl => ?_)
    refine lv_aload_n hx hb dX3_bring_21 rfl (lv_at hl 0 rfl) ?_
    obtain ⟨r4, s5, h6, hf⟩ := zbd_some hf
    refine zcallV X hP hS hl.1 (k := (zrr Ox (zrf Ox k0 1) (s0.1 k0 2))) (As := []) (rest := []) (cn_X4_clear h6) cw_X4_clear zp_4 g3 (by decide) rfl ml_X3_29 (by decide) rfl rfl (Nat.le_of_ble_eq_true rfl) dX3_bring_22 (fun H locs hP hS => ?_)
    refine lv_aload_n hx hb dX3_bring_25 rfl (lv_at hl 1 rfl) ?_
    refine lv_dup hx hb dX3_bring_26 rfl ?_
    refine gf_X3_25 X hP (k := k0) gp0 dX3_bring_27 ?_
    refine lv_iconst (v := 1) hx hb dX3_bring_30 (by decide) ?_
    refine lv_iadd hx hb dX3_bring_31 ?_
    refine pf_X3_25 X hP hS (k := k0) gp0 dX3_bring_32 (fun H locs hP hS => ?_)
    refine lv_aload_n hx hb dX3_bring_35 rfl (lv_at hl 0 rfl) ?_
    exact zret_r X hP hS hf dX3_bring_36
  · refine lv_null hx hb dX3_bring_9 ?_
    exact zret_n X hP hS hf dX3_bring_10
theorem dX7_takeOver_0 : decode cX7_takeOver 0 = .ok (.aload_n 0, 1) := by decide +kernel
theorem dX7_takeOver_1 : decode cX7_takeOver 1 = .ok (.aload_n 1, 1) := by decide +kernel
theorem dX7_takeOver_2 : decode cX7_takeOver 2 = .ok (.getfield 21, 3) := by decide +kernel
theorem dX7_takeOver_5 : decode cX7_takeOver 5 = .ok (.putfield 21, 3) := by decide +kernel
theorem dX7_takeOver_8 : decode cX7_takeOver 8 = .ok (.aload_n 0, 1) := by decide +kernel
theorem dX7_takeOver_9 : decode cX7_takeOver 9 = .ok (.aload_n 1, 1) := by decide +kernel
theorem dX7_takeOver_10 : decode cX7_takeOver 10 = .ok (.getfield 28, 3) := by decide +kernel
theorem dX7_takeOver_13 : decode cX7_takeOver 13 = .ok (.putfield 28, 3) := by decide +kernel
theorem dX7_takeOver_16 : decode cX7_takeOver 16 = .ok (.aload_n 0, 1) := by decide +kernel
theorem dX7_takeOver_17 : decode cX7_takeOver 17 = .ok (.aload_n 1, 1) := by decide +kernel
theorem dX7_takeOver_18 : decode cX7_takeOver 18 = .ok (.getfield 25, 3) := by decide +kernel
theorem dX7_takeOver_21 : decode cX7_takeOver 21 = .ok (.putfield 25, 3) := by decide +kernel
theorem dX7_takeOver_24 : decode cX7_takeOver 24 = .ok (.aload_n 1, 1) := by decide +kernel
theorem dX7_takeOver_25 : decode cX7_takeOver 25 = .ok (.getfield 9, 3) := by decide +kernel
theorem dX7_takeOver_28 : decode cX7_takeOver 28 = .ok (.iconst 0, 1) := by decide +kernel
theorem dX7_takeOver_29 : decode cX7_takeOver 29 = .ok (.aload_n 0, 1) := by decide +kernel
theorem dX7_takeOver_30 : decode cX7_takeOver 30 = .ok (.getfield 9, 3) := by decide +kernel
theorem dX7_takeOver_33 : decode cX7_takeOver 33 = .ok (.iconst 0, 1) := by decide +kernel
theorem dX7_takeOver_34 : decode cX7_takeOver 34 = .ok (.iconst 3, 1) := by decide +kernel
theorem dX7_takeOver_35 : decode cX7_takeOver 35 = .ok (.invokestatic 78, 3) := by decide +kernel
theorem dX7_takeOver_38 : decode cX7_takeOver 38 = .ok (.aload_n 1, 1) := by decide +kernel
theorem dX7_takeOver_39 : decode cX7_takeOver 39 = .ok (.getfield 15, 3) := by decide +kernel
theorem dX7_takeOver_42 : decode cX7_takeOver 42 = .ok (.iconst 0, 1) := by decide +kernel
theorem dX7_takeOver_43 : decode cX7_takeOver 43 = .ok (.aload_n 0, 1) := by decide +kernel
theorem dX7_takeOver_44 : decode cX7_takeOver 44 = .ok (.getfield 15, 3) := by decide +kernel
theorem dX7_takeOver_47 : decode cX7_takeOver 47 = .ok (.iconst 0, 1) := by decide +kernel
theorem dX7_takeOver_48 : decode cX7_takeOver 48 = .ok (.iconst 3, 1) := by decide +kernel
theorem dX7_takeOver_49 : decode cX7_takeOver 49 = .ok (.invokestatic 78, 3) := by decide +kernel
theorem dX7_takeOver_52 : decode cX7_takeOver 52 = .ok (.aload_n 1, 1) := by decide +kernel
theorem dX7_takeOver_53 : decode cX7_takeOver 53 = .ok (.getfield 18, 3) := by decide +kernel
theorem dX7_takeOver_56 : decode cX7_takeOver 56 = .ok (.iconst 0, 1) := by decide +kernel
theorem dX7_takeOver_57 : decode cX7_takeOver 57 = .ok (.aload_n 0, 1) := by decide +kernel
theorem dX7_takeOver_58 : decode cX7_takeOver 58 = .ok (.getfield 18, 3) := by decide +kernel
theorem dX7_takeOver_61 : decode cX7_takeOver 61 = .ok (.iconst 0, 1) := by decide +kernel
theorem dX7_takeOver_62 : decode cX7_takeOver 62 = .ok (.iconst 3, 1) := by decide +kernel
theorem dX7_takeOver_63 : decode cX7_takeOver 63 = .ok (.invokestatic 78, 3) := by decide +kernel
theorem dX7_takeOver_66 : decode cX7_takeOver 66 = .ok (.return_, 1) := by decide +kernel
set_option maxHeartbeats 4000000 in
set_option maxRecDepth 100000 in
theorem cn_X7_takeOver {l : Launch} {cA : Nat → ClassId} {ad : Nat → Nat} {D : va_G} {E : Nat → Nat} {A : Nat → Prop} {k0 : Nat} {k1 : Nat} {s0 sr : SS} {rr : Unit} (hf : f_X7_takeOver k0 k1 s0 = some (rr, sr)) : zCon Ox Nx cA ad D E l yX7_takeOver cX7_takeOver 2 none 1 A [.ref (ad k0), .ref (ad k1)] s0 none sr := by
  refine zstart (own := RX7) hOx (by decide) rfl (Nat.le_of_ble_eq_true rfl) ?_
  intro p e s m args below meth c X hP ls hl
  have hx := X.1
  have hb := X.2.1
  have hl : lv_has ls 2 [(0, .ref (ad k0)), (1, .ref (ad k1))] := hl
  have hS : va_S A s.heap s.heap [] := va_S.rf
  rw [f_X7_takeOver] at hf
  obtain ⟨gp0, hf⟩ := zgd hf
  obtain ⟨gp1, hf⟩ := zgd hf
  refine lv_aload_n hx hb dX7_takeOver_0 rfl (lv_at hl 0 rfl) ?_
  refine lv_aload_n hx hb dX7_takeOver_1 rfl (lv_at hl 1 rfl) ?_
  refine gf_X7_21 X hP (k := k1) gp1 dX7_takeOver_2 ?_
  refine pf_X7_21 X hP hS (k := k0) gp0 dX7_takeOver_5 (fun H locs hP hS => ?_)
  refine lv_aload_n hx hb dX7_takeOver_8 rfl (lv_at hl 0 rfl) ?_
  refine lv_aload_n hx hb dX7_takeOver_9 rfl (lv_at hl 1 rfl) ?_
  refine gf_X7_28 X hP (k := k1) gp1 dX7_takeOver_10 ?_
  refine pf_X7_28 X hP hS (k := k0) gp0 dX7_takeOver_13 (fun H locs hP hS => ?_)
  refine lv_aload_n hx hb dX7_takeOver_16 rfl (lv_at hl 0 rfl) ?_
  refine lv_aload_n hx hb dX7_takeOver_17 rfl (lv_at hl 1 rfl) ?_
  refine gf_X7_25 X hP (k := k1) gp1 dX7_takeOver_18 ?_
  refine pf_X7_25 X hP hS (k := k0) gp0 dX7_takeOver_21 (fun H locs hP hS => ?_)
  refine lv_aload_n hx hb dX7_takeOver_24 rfl (lv_at hl 1 rfl) ?_
  refine gf_X7_9 X hP (k := k1) gp1 dX7_takeOver_25 rfl ?_
  refine lv_iconst (v := 0) hx hb dX7_takeOver_28 (by decide) ?_
  refine lv_aload_n hx hb dX7_takeOver_29 rfl (lv_at hl 0 rfl) ?_
  refine gf_X7_9 X hP (k := k0) gp0 dX7_takeOver_30 rfl ?_
  refine lv_iconst (v := 0) hx hb dX7_takeOver_33 (by decide) ?_
  refine lv_iconst (v := 3) hx hb dX7_takeOver_34 (by decide) ?_
  obtain ⟨g1, hf⟩ := zgd hf
  refine zcp_i X hP hS hl.1 (k0 := (zrf Ox k1 3)) (k1 := (zrf Ox k0 3)) ml_X7_78 nt_copy.1 nt_copy.2.1 nt_copy.2.2 g1 ⟨Nat.le_of_ble_eq_true rfl, Nat.le_of_ble_eq_true rfl⟩ dX7_takeOver_35 (fun H locs hP hS => ?_)
  refine lv_aload_n hx hb dX7_takeOver_38 rfl (lv_at hl 1 rfl) ?_
  refine gf_X7_15 X hP (k := k1) gp1 dX7_takeOver_39 rfl ?_
  refine lv_iconst (v := 0) hx hb dX7_takeOver_42 (by decide) ?_
  refine lv_aload_n hx hb dX7_takeOver_43 rfl (lv_at hl 0 rfl) ?_
  refine gf_X7_15 X hP (k := k0) gp0 dX7_takeOver_44 rfl ?_
  refine lv_iconst (v := 0) hx hb dX7_takeOver_47 (by decide) ?_
  refine lv_iconst (v := 3) hx hb dX7_takeOver_48 (by decide) ?_
  obtain ⟨g2, hf⟩ := zgd hf
  refine zcp_i X hP hS hl.1 (k0 := (zrf Ox k1 4)) (k1 := (zrf Ox k0 4)) ml_X7_78 nt_copy.1 nt_copy.2.1 nt_copy.2.2 g2 ⟨Nat.le_of_ble_eq_true rfl, Nat.le_of_ble_eq_true rfl⟩ dX7_takeOver_49 (fun H locs hP hS => ?_)
  refine lv_aload_n hx hb dX7_takeOver_52 rfl (lv_at hl 1 rfl) ?_
  refine gf_X7_18 X hP (k := k1) gp1 dX7_takeOver_53 rfl ?_
  refine lv_iconst (v := 0) hx hb dX7_takeOver_56 (by decide) ?_
  refine lv_aload_n hx hb dX7_takeOver_57 rfl (lv_at hl 0 rfl) ?_
  refine gf_X7_18 X hP (k := k0) gp0 dX7_takeOver_58 rfl ?_
  refine lv_iconst (v := 0) hx hb dX7_takeOver_61 (by decide) ?_
  refine lv_iconst (v := 3) hx hb dX7_takeOver_62 (by decide) ?_
  obtain ⟨g3, hf⟩ := zgd hf
  refine zcp_i X hP hS hl.1 (k0 := (zrf Ox k1 5)) (k1 := (zrf Ox k0 5)) ml_X7_78 nt_copy.1 nt_copy.2.1 nt_copy.2.2 g3 ⟨Nat.le_of_ble_eq_true rfl, Nat.le_of_ble_eq_true rfl⟩ dX7_takeOver_63 (fun H locs hP hS => ?_)
  exact zret_v X hP hS hf dX7_takeOver_66
theorem dX3_takeOver_0 : decode cX3_takeOver 0 = .ok (.aload_n 0, 1) := by decide +kernel
theorem dX3_takeOver_1 : decode cX3_takeOver 1 = .ok (.getfield 12, 3) := by decide +kernel
theorem dX3_takeOver_4 : decode cX3_takeOver 4 = .ok (.aload_n 1, 1) := by decide +kernel
theorem dX3_takeOver_5 : decode cX3_takeOver 5 = .ok (.getfield 12, 3) := by decide +kernel
theorem dX3_takeOver_8 : decode cX3_takeOver 8 = .ok (.invokevirtual 32, 3) := by decide +kernel
theorem dX3_takeOver_11 : decode cX3_takeOver 11 = .ok (.aload_n 0, 1) := by decide +kernel
theorem dX3_takeOver_12 : decode cX3_takeOver 12 = .ok (.aload_n 1, 1) := by decide +kernel
theorem dX3_takeOver_13 : decode cX3_takeOver 13 = .ok (.getfield 25, 3) := by decide +kernel
theorem dX3_takeOver_16 : decode cX3_takeOver 16 = .ok (.putfield 25, 3) := by decide +kernel
theorem dX3_takeOver_19 : decode cX3_takeOver 19 = .ok (.iconst 0, 1) := by decide +kernel
theorem dX3_takeOver_20 : decode cX3_takeOver 20 = .ok (.istore_n 2, 1) := by decide +kernel
theorem dX3_takeOver_21 : decode cX3_takeOver 21 = .ok (.iload_n 2, 1) := by decide +kernel
theorem dX3_takeOver_22 : decode cX3_takeOver 22 = .ok (.aload_n 0, 1) := by decide +kernel
theorem dX3_takeOver_23 : decode cX3_takeOver 23 = .ok (.getfield 25, 3) := by decide +kernel
theorem dX3_takeOver_26 : decode cX3_takeOver 26 = .ok (.if_icmp .ge 71, 3) := by decide +kernel
theorem dX3_takeOver_29 : decode cX3_takeOver 29 = .ok (.aload_n 0, 1) := by decide +kernel
theorem dX3_takeOver_30 : decode cX3_takeOver 30 = .ok (.getfield 20, 3) := by decide +kernel
theorem dX3_takeOver_33 : decode cX3_takeOver 33 = .ok (.iload_n 2, 1) := by decide +kernel
theorem dX3_takeOver_34 : decode cX3_takeOver 34 = .ok (.aaload, 1) := by decide +kernel
theorem dX3_takeOver_35 : decode cX3_takeOver 35 = .ok (.aload_n 1, 1) := by decide +kernel
theorem dX3_takeOver_36 : decode cX3_takeOver 36 = .ok (.getfield 20, 3) := by decide +kernel
theorem dX3_takeOver_39 : decode cX3_takeOver 39 = .ok (.iload_n 2, 1) := by decide +kernel
theorem dX3_takeOver_40 : decode cX3_takeOver 40 = .ok (.aaload, 1) := by decide +kernel
theorem dX3_takeOver_41 : decode cX3_takeOver 41 = .ok (.getfield 36, 3) := by decide +kernel
theorem dX3_takeOver_44 : decode cX3_takeOver 44 = .ok (.putfield 36, 3) := by decide +kernel
theorem dX3_takeOver_47 : decode cX3_takeOver 47 = .ok (.aload_n 0, 1) := by decide +kernel
theorem dX3_takeOver_48 : decode cX3_takeOver 48 = .ok (.getfield 20, 3) := by decide +kernel
theorem dX3_takeOver_51 : decode cX3_takeOver 51 = .ok (.iload_n 2, 1) := by decide +kernel
theorem dX3_takeOver_52 : decode cX3_takeOver 52 = .ok (.aaload, 1) := by decide +kernel
theorem dX3_takeOver_53 : decode cX3_takeOver 53 = .ok (.aload_n 1, 1) := by decide +kernel
theorem dX3_takeOver_54 : decode cX3_takeOver 54 = .ok (.getfield 20, 3) := by decide +kernel
theorem dX3_takeOver_57 : decode cX3_takeOver 57 = .ok (.iload_n 2, 1) := by decide +kernel
theorem dX3_takeOver_58 : decode cX3_takeOver 58 = .ok (.aaload, 1) := by decide +kernel
theorem dX3_takeOver_59 : decode cX3_takeOver 59 = .ok (.getfield 39, 3) := by decide +kernel
theorem dX3_takeOver_62 : decode cX3_takeOver 62 = .ok (.putfield 39, 3) := by decide +kernel
theorem dX3_takeOver_65 : decode cX3_takeOver 65 = .ok (.aload_n 1, 1) := by decide +kernel
theorem dX3_takeOver_66 : decode cX3_takeOver 66 = .ok (.getfield 20, 3) := by decide +kernel
theorem dX3_takeOver_69 : decode cX3_takeOver 69 = .ok (.iload_n 2, 1) := by decide +kernel
theorem dX3_takeOver_70 : decode cX3_takeOver 70 = .ok (.aaload, 1) := by decide +kernel
theorem dX3_takeOver_71 : decode cX3_takeOver 71 = .ok (.getfield 42, 3) := by decide +kernel
theorem dX3_takeOver_74 : decode cX3_takeOver 74 = .ok (.iconst 0, 1) := by decide +kernel
theorem dX3_takeOver_75 : decode cX3_takeOver 75 = .ok (.aload_n 0, 1) := by decide +kernel
theorem dX3_takeOver_76 : decode cX3_takeOver 76 = .ok (.getfield 20, 3) := by decide +kernel
theorem dX3_takeOver_79 : decode cX3_takeOver 79 = .ok (.iload_n 2, 1) := by decide +kernel
theorem dX3_takeOver_80 : decode cX3_takeOver 80 = .ok (.aaload, 1) := by decide +kernel
theorem dX3_takeOver_81 : decode cX3_takeOver 81 = .ok (.getfield 42, 3) := by decide +kernel
theorem dX3_takeOver_84 : decode cX3_takeOver 84 = .ok (.iconst 0, 1) := by decide +kernel
theorem dX3_takeOver_85 : decode cX3_takeOver 85 = .ok (.sipush 462, 3) := by decide +kernel
theorem dX3_takeOver_88 : decode cX3_takeOver 88 = .ok (.invokestatic 48, 3) := by decide +kernel
theorem dX3_takeOver_91 : decode cX3_takeOver 91 = .ok (.iinc 2 1, 3) := by decide +kernel
theorem dX3_takeOver_94 : decode cX3_takeOver 94 = .ok (.goto (-73), 3) := by decide +kernel
theorem dX3_takeOver_97 : decode cX3_takeOver 97 = .ok (.return_, 1) := by decide +kernel
set_option maxHeartbeats 4000000 in
set_option maxRecDepth 100000 in
theorem cn_X3_takeOver {l : Launch} {cA : Nat → ClassId} {ad : Nat → Nat} {D : va_G} {E : Nat → Nat} {A : Nat → Prop} {k0 : Nat} {k1 : Nat} {s0 sr : SS} {rr : Unit} (hf : f_X3_takeOver k0 k1 s0 = some (rr, sr)) : zCon Ox Nx cA ad D E l yX3_takeOver cX3_takeOver 3 none 2 A [.ref (ad k0), .ref (ad k1)] s0 none sr := by
  refine zstart (own := RX3) hOx (by decide) rfl (Nat.le_of_ble_eq_true rfl) ?_
  intro p e s m args below meth c X hP ls hl
  have hx := X.1
  have hb := X.2.1
  have hl : lv_has ls 3 [(0, .ref (ad k0)), (1, .ref (ad k1))] := hl
  have hS : va_S A s.heap s.heap [] := va_S.rf
  have hc_21 : ∀ (n21 : Nat) (k0 : Nat) (k1 : Nat) (x2 : Int32) (s1 : SS) (H : Heap) (locs : List Loc) (ls : Array Slot), lv_has ls 3 [(0, .ref (ad k0)), (1, .ref (ad k1)), (2, .int x2)] → va_P D ZCL (zw Ox Nx cA ad s1) H → va_S A s.heap H locs → f_X3_takeOver_c21 n21 k0 k1 x2 s1 = some (rr, sr) → W p l e (zrm 2) s m args below meth c H locs 0 0 (MQ below (zQc Ox Nx cA ad D A none sr) args s 0 0 A) (F0 m 21 ls []) := by
    intro n21
    induction n21 with
    | zero =>
      intro k0 k1 x2 s1 H locs ls hl hP hS hf
      rw [f_X3_takeOver_c21] at hf
      cases hf
    | succ n21 ih21 =>
      intro k0 k1 x2 s1 H locs ls hl hP hS hf
      rw [f_X3_takeOver_c21] at hf
      obtain ⟨gp0, hf⟩ := zgd hf
      obtain ⟨gp1, hf⟩ := zgd hf
      refine lv_iload_n hx hb dX3_takeOver_21 rfl (lv_at hl 2 rfl) ?_
      refine lv_aload_n hx hb dX3_takeOver_22 rfl (lv_at hl 0 rfl) ?_
      refine gf_X3_25 X hP (k := k0) gp0 dX3_takeOver_23 ?_
      refine zicmp_ge (tgt := 97) hx hb dX3_takeOver_26 (by decide) hf (fun hf => ?_) (fun hf => ?_)
      · exact zret_v X hP hS hf dX3_takeOver_97
      · refine lv_aload_n hx hb dX3_takeOver_29 rfl (lv_at hl 0 rfl) ?_
        refine gf_X3_20 X hP (k := k0) gp0 dX3_takeOver_30 rfl ?_
        refine lv_iload_n hx hb dX3_takeOver_33 rfl (lv_at hl 2 rfl) ?_
        obtain ⟨g6, hf⟩ := zgd hf
        obtain ⟨g8, hf⟩ := zgd hf
        obtain ⟨n7, rn7, on7, in7⟩ := zok_of g6
        refine zald_q X hP zlr_x (k := (zrf Ox k0 1)) on7 in7 dX3_takeOver_34 rfl ?_
        refine lv_aload_n hx hb dX3_takeOver_35 rfl (lv_at hl 1 rfl) ?_
        refine gf_X3_20 X hP (k := k1) gp1 dX3_takeOver_36 rfl ?_
        refine lv_iload_n hx hb dX3_takeOver_39 rfl (lv_at hl 2 rfl) ?_
        obtain ⟨g9, hf⟩ := zgd hf
        obtain ⟨g11, hf⟩ := zgd hf
        obtain ⟨n10, rn10, on10, in10⟩ := zok_of g9
        refine zald_q X hP zlr_x (k := (zrf Ox k1 1)) on10 in10 dX3_takeOver_40 rfl ?_
        refine gf_X3_36 X hP (k := (zrr Ox (zrf Ox k1 1) x2)) g11 dX3_takeOver_41 ?_
        refine pf_X3_36 X hP hS (k := (zrr Ox (zrf Ox k0 1) x2)) g8 dX3_takeOver_44 (fun H locs hP hS => ?_)
        refine lv_aload_n hx hb dX3_takeOver_47 rfl (lv_at hl 0 rfl) ?_
        refine gf_X3_20 X hP (k := k0) gp0 dX3_takeOver_48 rfl ?_
        refine lv_iload_n hx hb dX3_takeOver_51 rfl (lv_at hl 2 rfl) ?_
        obtain ⟨g12, hf⟩ := zgd hf
        obtain ⟨g14, hf⟩ := zgd hf
        obtain ⟨n13, rn13, on13, in13⟩ := zok_of g12
        refine zald_q X hP zlr_x (k := (zrf Ox k0 1)) on13 in13 dX3_takeOver_52 rfl ?_
        refine lv_aload_n hx hb dX3_takeOver_53 rfl (lv_at hl 1 rfl) ?_
        refine gf_X3_20 X hP (k := k1) gp1 dX3_takeOver_54 rfl ?_
        refine lv_iload_n hx hb dX3_takeOver_57 rfl (lv_at hl 2 rfl) ?_
        obtain ⟨g15, hf⟩ := zgd hf
        obtain ⟨g17, hf⟩ := zgd hf
        obtain ⟨n16, rn16, on16, in16⟩ := zok_of g15
        refine zald_q X hP zlr_x (k := (zrf Ox k1 1)) on16 in16 dX3_takeOver_58 rfl ?_
        refine gf_X3_39 X hP (k := (zrr Ox (zrf Ox k1 1) x2)) g17 dX3_takeOver_59 ?_
        refine pf_X3_39 X hP hS (k := (zrr Ox (zrf Ox k0 1) x2)) g14 dX3_takeOver_62 (fun H locs hP hS => ?_)
        refine lv_aload_n hx hb dX3_takeOver_65 rfl (lv_at hl 1 rfl) ?_
        refine gf_X3_20 X hP (k := k1) gp1 dX3_takeOver_66 rfl ?_
        refine lv_iload_n hx hb dX3_takeOver_69 rfl (lv_at hl 2 rfl) ?_
        obtain ⟨g18, hf⟩ := zgd hf
        obtain ⟨g20, hf⟩ := zgd hf
        obtain ⟨n19, rn19, on19, in19⟩ := zok_of g18
        refine zald_q X hP zlr_x (k := (zrf Ox k1 1)) on19 in19 dX3_takeOver_70 rfl ?_
        refine gf_X3_42 X hP (k := (zrr Ox (zrf Ox k1 1) x2)) g20 dX3_takeOver_71 rfl ?_
        refine lv_iconst (v := 0) hx hb dX3_takeOver_74 (by decide) ?_
        refine lv_aload_n hx hb dX3_takeOver_75 rfl (lv_at hl 0 rfl) ?_
        refine gf_X3_20 X hP (k := k0) gp0 dX3_takeOver_76 rfl ?_
        refine lv_iload_n hx hb dX3_takeOver_79 rfl (lv_at hl 2 rfl) ?_
        obtain ⟨g21, hf⟩ := zgd hf
        obtain ⟨g23, hf⟩ := zgd hf
        obtain ⟨n22, rn22, on22, in22⟩ := zok_of g21
        refine zald_q X hP zlr_x (k := (zrf Ox k0 1)) on22 in22 dX3_takeOver_80 rfl ?_
        refine gf_X3_42 X hP (k := (zrr Ox (zrf Ox k0 1) x2)) g23 dX3_takeOver_81 rfl ?_
        refine lv_iconst (v := 0) hx hb dX3_takeOver_84 (by decide) ?_
        refine lv_sipush (v := 462) hx hb dX3_takeOver_85 (by decide) ?_
        obtain ⟨g24, hf⟩ := zgd hf
        refine zcp_l X hP hS hl.1 (k0 := (zrf Ox (zrr Ox (zrf Ox k1 1) x2) 2)) (k1 := (zrf Ox (zrr Ox (zrf Ox k0 1) x2) 2)) ml_X3_48 nt_copy.1 nt_copy.2.1 nt_copy.2.2 g24 ⟨Nat.le_of_ble_eq_true rfl, Nat.le_of_ble_eq_true rfl⟩ dX3_takeOver_88 (fun H locs hP hS => ?_)
        refine lv_iinc (v := (x2 + 1)) (lv' := [(2, .int (x2 + 1)), (0, .ref (ad k0)), (1, .ref (ad k1))]) hx hb dX3_takeOver_91 hl (k := 2) rfl rfl (by decide) rfl (fun ls hl => ?_)
        refine lv_goto (tgt := 21) hx hb dX3_takeOver_94 (by decide) ?_
        exact ih21 k0 k1 (x2 + 1) (zL (zS (zS s1 (zrr Ox (zrf Ox k0 1) x2) 0 (s1.1 (zrr Ox (zrf Ox k1 1) x2) 0)) (zrr Ox (zrf Ox k0 1) x2) 1 ((zS s1 (zrr Ox (zrf Ox k0 1) x2) 0 (s1.1 (zrr Ox (zrf Ox k1 1) x2) 0)).1 (zrr Ox (zrf Ox k1 1) x2) 1)) (zrf Ox (zrr Ox (zrf Ox k0 1) x2) 2) (va_cpy ((zS (zS s1 (zrr Ox (zrf Ox k0 1) x2) 0 (s1.1 (zrr Ox (zrf Ox k1 1) x2) 0)) (zrr Ox (zrf Ox k0 1) x2) 1 ((zS s1 (zrr Ox (zrf Ox k0 1) x2) 0 (s1.1 (zrr Ox (zrf Ox k1 1) x2) 0)).1 (zrr Ox (zrf Ox k1 1) x2) 1)).2 (zrf Ox (zrr Ox (zrf Ox k1 1) x2) 2)) ((zS (zS s1 (zrr Ox (zrf Ox k0 1) x2) 0 (s1.1 (zrr Ox (zrf Ox k1 1) x2) 0)) (zrr Ox (zrf Ox k0 1) x2) 1 ((zS s1 (zrr Ox (zrf Ox k0 1) x2) 0 (s1.1 (zrr Ox (zrf Ox k1 1) x2) 0)).1 (zrr Ox (zrf Ox k1 1) x2) 1)).2 (zrf Ox (zrr Ox (zrf Ox k0 1) x2) 2)) ((0 : Int32)).toNatClampNeg ((0 : Int32)).toNatClampNeg ((462 : Int32)).toNatClampNeg)) _ _ _ (lv_sub hl [1, 2, 0] rfl) hP hS hf
  rw [f_X3_takeOver] at hf
  obtain ⟨gp0, hf⟩ := zgd hf
  obtain ⟨gp1, hf⟩ := zgd hf
  refine lv_aload_n hx hb dX3_takeOver_0 rfl (lv_at hl 0 rfl) ?_
  obtain ⟨g1, hf⟩ := zgd hf
  refine gf_X3_12 X hP (k := k0) gp0 dX3_takeOver_1 rfl ?_
  refine lv_aload_n hx hb dX3_takeOver_4 rfl (lv_at hl 1 rfl) ?_
  obtain ⟨g2, hf⟩ := zgd hf
  refine gf_X3_12 X hP (k := k1) gp1 dX3_takeOver_5 rfl ?_
  obtain ⟨r3, s4, h5, hf⟩ := zbd_some hf
  refine zcallV X hP hS hl.1 (k := (zrf Ox k0 0)) (As := [.ref (ad (zrf Ox k1 0))]) (rest := []) (cn_X7_takeOver h5) cw_X7_takeOver zp_7 g1 (by decide) rfl ml_X3_32 (by decide) rfl rfl (Nat.le_of_ble_eq_true rfl) dX3_takeOver_8 (fun H locs hP hS => ?_)
  refine lv_aload_n hx hb dX3_takeOver_11 rfl (lv_at hl 0 rfl) ?_
  refine lv_aload_n hx hb dX3_takeOver_12 rfl (lv_at hl 1 rfl) ?_
  refine gf_X3_25 X hP (k := k1) gp1 dX3_takeOver_13 ?_
  refine pf_X3_25 X hP hS (k := k0) gp0 dX3_takeOver_16 (fun H locs hP hS => ?_)
  refine lv_iconst (v := 0) hx hb dX3_takeOver_19 (by decide) ?_
  refine lv_istore_n (lv' := [(2, .int 0), (0, .ref (ad k0)), (1, .ref (ad k1))]) hx hb dX3_takeOver_20 rfl hl (by decide) rfl (fun ls hl => ?_)
  exact hc_21 ZF k0 k1 0 (zS s4 k0 2 (s4.1 k1 2)) _ _ _ (lv_sub hl [1, 2, 0] rfl) hP hS hf
theorem dX7_isAs_0 : decode cX7_isAs 0 = .ok (.aload_n 0, 1) := by decide +kernel
theorem dX7_isAs_1 : decode cX7_isAs 1 = .ok (.getfield 21, 3) := by decide +kernel
theorem dX7_isAs_4 : decode cX7_isAs 4 = .ok (.aload_n 1, 1) := by decide +kernel
theorem dX7_isAs_5 : decode cX7_isAs 5 = .ok (.getfield 21, 3) := by decide +kernel
theorem dX7_isAs_8 : decode cX7_isAs 8 = .ok (.if_icmp .ne 29, 3) := by decide +kernel
theorem dX7_isAs_11 : decode cX7_isAs 11 = .ok (.aload_n 0, 1) := by decide +kernel
theorem dX7_isAs_12 : decode cX7_isAs 12 = .ok (.getfield 28, 3) := by decide +kernel
theorem dX7_isAs_15 : decode cX7_isAs 15 = .ok (.aload_n 1, 1) := by decide +kernel
theorem dX7_isAs_16 : decode cX7_isAs 16 = .ok (.getfield 28, 3) := by decide +kernel
theorem dX7_isAs_19 : decode cX7_isAs 19 = .ok (.if_icmp .ne 18, 3) := by decide +kernel
theorem dX7_isAs_22 : decode cX7_isAs 22 = .ok (.aload_n 0, 1) := by decide +kernel
theorem dX7_isAs_23 : decode cX7_isAs 23 = .ok (.getfield 25, 3) := by decide +kernel
theorem dX7_isAs_26 : decode cX7_isAs 26 = .ok (.aload_n 1, 1) := by decide +kernel
theorem dX7_isAs_27 : decode cX7_isAs 27 = .ok (.getfield 25, 3) := by decide +kernel
theorem dX7_isAs_30 : decode cX7_isAs 30 = .ok (.if_icmp .ne 7, 3) := by decide +kernel
theorem dX7_isAs_33 : decode cX7_isAs 33 = .ok (.iconst 1, 1) := by decide +kernel
theorem dX7_isAs_34 : decode cX7_isAs 34 = .ok (.goto 4, 3) := by decide +kernel
theorem dX7_isAs_37 : decode cX7_isAs 37 = .ok (.iconst 0, 1) := by decide +kernel
theorem dX7_isAs_38 : decode cX7_isAs 38 = .ok (.istore_n 2, 1) := by decide +kernel
theorem dX7_isAs_39 : decode cX7_isAs 39 = .ok (.iconst 0, 1) := by decide +kernel
theorem dX7_isAs_40 : decode cX7_isAs 40 = .ok (.istore_n 3, 1) := by decide +kernel
theorem dX7_isAs_41 : decode cX7_isAs 41 = .ok (.iload_n 3, 1) := by decide +kernel
theorem dX7_isAs_42 : decode cX7_isAs 42 = .ok (.iconst 3, 1) := by decide +kernel
theorem dX7_isAs_43 : decode cX7_isAs 43 = .ok (.if_icmp .ge 64, 3) := by decide +kernel
theorem dX7_isAs_46 : decode cX7_isAs 46 = .ok (.iload_n 2, 1) := by decide +kernel
theorem dX7_isAs_47 : decode cX7_isAs 47 = .ok (.ifCond .eq 52, 3) := by decide +kernel
theorem dX7_isAs_50 : decode cX7_isAs 50 = .ok (.aload_n 0, 1) := by decide +kernel
theorem dX7_isAs_51 : decode cX7_isAs 51 = .ok (.getfield 9, 3) := by decide +kernel
theorem dX7_isAs_54 : decode cX7_isAs 54 = .ok (.iload_n 3, 1) := by decide +kernel
theorem dX7_isAs_55 : decode cX7_isAs 55 = .ok (.iaload, 1) := by decide +kernel
theorem dX7_isAs_56 : decode cX7_isAs 56 = .ok (.aload_n 1, 1) := by decide +kernel
theorem dX7_isAs_57 : decode cX7_isAs 57 = .ok (.getfield 9, 3) := by decide +kernel
theorem dX7_isAs_60 : decode cX7_isAs 60 = .ok (.iload_n 3, 1) := by decide +kernel
theorem dX7_isAs_61 : decode cX7_isAs 61 = .ok (.iaload, 1) := by decide +kernel
theorem dX7_isAs_62 : decode cX7_isAs 62 = .ok (.if_icmp .ne 37, 3) := by decide +kernel
theorem dX7_isAs_65 : decode cX7_isAs 65 = .ok (.aload_n 0, 1) := by decide +kernel
theorem dX7_isAs_66 : decode cX7_isAs 66 = .ok (.getfield 15, 3) := by decide +kernel
theorem dX7_isAs_69 : decode cX7_isAs 69 = .ok (.iload_n 3, 1) := by decide +kernel
theorem dX7_isAs_70 : decode cX7_isAs 70 = .ok (.iaload, 1) := by decide +kernel
theorem dX7_isAs_71 : decode cX7_isAs 71 = .ok (.aload_n 1, 1) := by decide +kernel
theorem dX7_isAs_72 : decode cX7_isAs 72 = .ok (.getfield 15, 3) := by decide +kernel
theorem dX7_isAs_75 : decode cX7_isAs 75 = .ok (.iload_n 3, 1) := by decide +kernel
theorem dX7_isAs_76 : decode cX7_isAs 76 = .ok (.iaload, 1) := by decide +kernel
theorem dX7_isAs_77 : decode cX7_isAs 77 = .ok (.if_icmp .ne 22, 3) := by decide +kernel
theorem dX7_isAs_80 : decode cX7_isAs 80 = .ok (.aload_n 0, 1) := by decide +kernel
theorem dX7_isAs_81 : decode cX7_isAs 81 = .ok (.getfield 18, 3) := by decide +kernel
theorem dX7_isAs_84 : decode cX7_isAs 84 = .ok (.iload_n 3, 1) := by decide +kernel
theorem dX7_isAs_85 : decode cX7_isAs 85 = .ok (.iaload, 1) := by decide +kernel
theorem dX7_isAs_86 : decode cX7_isAs 86 = .ok (.aload_n 1, 1) := by decide +kernel
theorem dX7_isAs_87 : decode cX7_isAs 87 = .ok (.getfield 18, 3) := by decide +kernel
theorem dX7_isAs_90 : decode cX7_isAs 90 = .ok (.iload_n 3, 1) := by decide +kernel
theorem dX7_isAs_91 : decode cX7_isAs 91 = .ok (.iaload, 1) := by decide +kernel
theorem dX7_isAs_92 : decode cX7_isAs 92 = .ok (.if_icmp .ne 7, 3) := by decide +kernel
theorem dX7_isAs_95 : decode cX7_isAs 95 = .ok (.iconst 1, 1) := by decide +kernel
theorem dX7_isAs_96 : decode cX7_isAs 96 = .ok (.goto 4, 3) := by decide +kernel
theorem dX7_isAs_99 : decode cX7_isAs 99 = .ok (.iconst 0, 1) := by decide +kernel
theorem dX7_isAs_100 : decode cX7_isAs 100 = .ok (.istore_n 2, 1) := by decide +kernel
theorem dX7_isAs_101 : decode cX7_isAs 101 = .ok (.iinc 3 1, 3) := by decide +kernel
theorem dX7_isAs_104 : decode cX7_isAs 104 = .ok (.goto (-63), 3) := by decide +kernel
theorem dX7_isAs_107 : decode cX7_isAs 107 = .ok (.iload_n 2, 1) := by decide +kernel
theorem dX7_isAs_108 : decode cX7_isAs 108 = .ok (.ireturn, 1) := by decide +kernel
set_option maxHeartbeats 4000000 in
set_option maxRecDepth 100000 in
theorem cn_X7_isAs {l : Launch} {cA : Nat → ClassId} {ad : Nat → Nat} {D : va_G} {E : Nat → Nat} {A : Nat → Prop} {k0 : Nat} {k1 : Nat} {s0 sr : SS} {rr : Int32} (hf : f_X7_isAs k0 k1 s0 = some (rr, sr)) : zCon Ox Nx cA ad D E l yX7_isAs cX7_isAs 4 (some .boolean) 0 A [.ref (ad k0), .ref (ad k1)] s0 (some (.int rr)) sr := by
  refine zstart (own := RX7) hOx (by decide) rfl (Nat.le_of_ble_eq_true rfl) ?_
  intro p e s m args below meth c X hP ls hl
  have hx := X.1
  have hb := X.2.1
  have hl : lv_has ls 4 [(0, .ref (ad k0)), (1, .ref (ad k1))] := hl
  have hS : va_S A s.heap s.heap [] := va_S.rf
  have hc_41 : ∀ (n41 : Nat) (k0 : Nat) (k1 : Nat) (x2 : Int32) (x3 : Int32) (s1 : SS) (H : Heap) (locs : List Loc) (ls : Array Slot), lv_has ls 4 [(0, .ref (ad k0)), (1, .ref (ad k1)), (2, .int x2), (3, .int x3)] → va_P D ZCL (zw Ox Nx cA ad s1) H → va_S A s.heap H locs → f_X7_isAs_c41 n41 k0 k1 x2 x3 s1 = some (rr, sr) → W p l e (zrm 0) s m args below meth c H locs 0 0 (MQ below (zQc Ox Nx cA ad D A (some (.int rr)) sr) args s 0 0 A) (F0 m 41 ls []) := by
    intro n41
    induction n41 with
    | zero =>
      intro k0 k1 x2 x3 s1 H locs ls hl hP hS hf
      rw [f_X7_isAs_c41] at hf
      cases hf
    | succ n41 ih41 =>
      have hc_100 : ∀ (k0 : Nat) (k1 : Nat) (x3 : Int32) (t0 : Int32) (s1 : SS) (H : Heap) (locs : List Loc) (ls : Array Slot), lv_has ls 4 [(0, .ref (ad k0)), (1, .ref (ad k1)), (3, .int x3)] → va_P D ZCL (zw Ox Nx cA ad s1) H → va_S A s.heap H locs → f_X7_isAs_c100 (f_X7_isAs_c41 n41) k0 k1 x3 t0 s1 = some (rr, sr) → W p l e (zrm 0) s m args below meth c H locs 0 0 (MQ below (zQc Ox Nx cA ad D A (some (.int rr)) sr) args s 0 0 A) (F0 m 100 ls [.int t0]) := by
        intro k0 k1 x3 t0 s1 H locs ls hl hP hS hf
        rw [f_X7_isAs_c100] at hf
        obtain ⟨gp0, hf⟩ := zgd hf
        obtain ⟨gp1, hf⟩ := zgd hf
        refine lv_istore_n (lv' := [(2, .int t0), (0, .ref (ad k0)), (1, .ref (ad k1)), (3, .int x3)]) hx hb dX7_isAs_100 rfl hl (by decide) rfl (fun ls hl => ?_)
        refine lv_iinc (v := (x3 + 1)) (lv' := [(3, .int (x3 + 1)), (2, .int t0), (0, .ref (ad k0)), (1, .ref (ad k1))]) hx hb dX7_isAs_101 hl (k := 3) rfl rfl (by decide) rfl (fun ls hl => ?_)
        refine lv_goto (tgt := 41) hx hb dX7_isAs_104 (by decide) ?_
        exact ih41 k0 k1 t0 (x3 + 1) s1 _ _ _ (lv_sub hl [2, 3, 1, 0] rfl) hP hS hf
      have hc_99 : ∀ (k0 : Nat) (k1 : Nat) (x3 : Int32) (s1 : SS) (H : Heap) (locs : List Loc) (ls : Array Slot), lv_has ls 4 [(0, .ref (ad k0)), (1, .ref (ad k1)), (3, .int x3)] → va_P D ZCL (zw Ox Nx cA ad s1) H → va_S A s.heap H locs → f_X7_isAs_c99 (f_X7_isAs_c41 n41) k0 k1 x3 s1 = some (rr, sr) → W p l e (zrm 0) s m args below meth c H locs 0 0 (MQ below (zQc Ox Nx cA ad D A (some (.int rr)) sr) args s 0 0 A) (F0 m 99 ls []) := by
        intro k0 k1 x3 s1 H locs ls hl hP hS hf
        rw [f_X7_isAs_c99] at hf
        obtain ⟨gp0, hf⟩ := zgd hf
        obtain ⟨gp1, hf⟩ := zgd hf
        refine lv_iconst (v := 0) hx hb dX7_isAs_99 (by decide) ?_
        exact hc_100 k0 k1 x3 0 s1 _ _ _ (lv_sub hl [0, 1, 2] rfl) hP hS hf
      intro k0 k1 x2 x3 s1 H locs ls hl hP hS hf
      rw [f_X7_isAs_c41] at hf
      obtain ⟨gp0, hf⟩ := zgd hf
      obtain ⟨gp1, hf⟩ := zgd hf
      refine lv_iload_n hx hb dX7_isAs_41 rfl (lv_at hl 3 rfl) ?_
      refine lv_iconst (v := 3) hx hb dX7_isAs_42 (by decide) ?_
      refine zicmp_ge (tgt := 107) hx hb dX7_isAs_43 (by decide) hf (fun hf => ?_) (fun hf => ?_)
      · refine lv_iload_n hx hb dX7_isAs_107 rfl (lv_at hl 2 rfl) ?_
        obtain ⟨b1, hf⟩ := zgd hf
        exact zret_i X hP hS hf (znar_of (by decide) b1) dX7_isAs_108
      · refine lv_iload_n hx hb dX7_isAs_46 rfl (lv_at hl 2 rfl) ?_
        refine zif_eq (tgt := 99) hx hb dX7_isAs_47 (by decide) hf (fun hf => ?_) (fun hf => ?_)
        · exact hc_99 k0 k1 x3 s1 _ _ _ (lv_sub hl [0, 1, 3] rfl) hP hS hf
        · refine lv_aload_n hx hb dX7_isAs_50 rfl (lv_at hl 0 rfl) ?_
          refine gf_X7_9 X hP (k := k0) gp0 dX7_isAs_51 rfl ?_
          refine lv_iload_n hx hb dX7_isAs_54 rfl (lv_at hl 3 rfl) ?_
          obtain ⟨g2, hf⟩ := zgd hf
          obtain ⟨n13, rn13, on13, in13⟩ := zok_of g2
          refine zald_i X hP (k := (zrf Ox k0 3)) on13 in13 dX7_isAs_55 ?_
          refine lv_aload_n hx hb dX7_isAs_56 rfl (lv_at hl 1 rfl) ?_
          refine gf_X7_9 X hP (k := k1) gp1 dX7_isAs_57 rfl ?_
          refine lv_iload_n hx hb dX7_isAs_60 rfl (lv_at hl 3 rfl) ?_
          obtain ⟨g3, hf⟩ := zgd hf
          obtain ⟨n12, rn12, on12, in12⟩ := zok_of g3
          refine zald_i X hP (k := (zrf Ox k1 3)) on12 in12 dX7_isAs_61 ?_
          refine zicmp_ne (tgt := 99) hx hb dX7_isAs_62 (by decide) hf (fun hf => ?_) (fun hf => ?_)
          · exact hc_99 k0 k1 x3 s1 _ _ _ (lv_sub hl [0, 1, 3] rfl) hP hS hf
          · refine lv_aload_n hx hb dX7_isAs_65 rfl (lv_at hl 0 rfl) ?_
            refine gf_X7_15 X hP (k := k0) gp0 dX7_isAs_66 rfl ?_
            refine lv_iload_n hx hb dX7_isAs_69 rfl (lv_at hl 3 rfl) ?_
            obtain ⟨g4, hf⟩ := zgd hf
            obtain ⟨n11, rn11, on11, in11⟩ := zok_of g4
            refine zald_i X hP (k := (zrf Ox k0 4)) on11 in11 dX7_isAs_70 ?_
            refine lv_aload_n hx hb dX7_isAs_71 rfl (lv_at hl 1 rfl) ?_
            refine gf_X7_15 X hP (k := k1) gp1 dX7_isAs_72 rfl ?_
            refine lv_iload_n hx hb dX7_isAs_75 rfl (lv_at hl 3 rfl) ?_
            obtain ⟨g5, hf⟩ := zgd hf
            obtain ⟨n10, rn10, on10, in10⟩ := zok_of g5
            refine zald_i X hP (k := (zrf Ox k1 4)) on10 in10 dX7_isAs_76 ?_
            refine zicmp_ne (tgt := 99) hx hb dX7_isAs_77 (by decide) hf (fun hf => ?_) (fun hf => ?_)
            · exact hc_99 k0 k1 x3 s1 _ _ _ (lv_sub hl [0, 1, 3] rfl) hP hS hf
            · refine lv_aload_n hx hb dX7_isAs_80 rfl (lv_at hl 0 rfl) ?_
              refine gf_X7_18 X hP (k := k0) gp0 dX7_isAs_81 rfl ?_
              refine lv_iload_n hx hb dX7_isAs_84 rfl (lv_at hl 3 rfl) ?_
              obtain ⟨g6, hf⟩ := zgd hf
              obtain ⟨n9, rn9, on9, in9⟩ := zok_of g6
              refine zald_i X hP (k := (zrf Ox k0 5)) on9 in9 dX7_isAs_85 ?_
              refine lv_aload_n hx hb dX7_isAs_86 rfl (lv_at hl 1 rfl) ?_
              refine gf_X7_18 X hP (k := k1) gp1 dX7_isAs_87 rfl ?_
              refine lv_iload_n hx hb dX7_isAs_90 rfl (lv_at hl 3 rfl) ?_
              obtain ⟨g7, hf⟩ := zgd hf
              obtain ⟨n8, rn8, on8, in8⟩ := zok_of g7
              refine zald_i X hP (k := (zrf Ox k1 5)) on8 in8 dX7_isAs_91 ?_
              refine zicmp_ne (tgt := 99) hx hb dX7_isAs_92 (by decide) hf (fun hf => ?_) (fun hf => ?_)
              · exact hc_99 k0 k1 x3 s1 _ _ _ (lv_sub hl [0, 1, 3] rfl) hP hS hf
              · refine lv_iconst (v := 1) hx hb dX7_isAs_95 (by decide) ?_
                refine lv_goto (tgt := 100) hx hb dX7_isAs_96 (by decide) ?_
                exact hc_100 k0 k1 x3 1 s1 _ _ _ (lv_sub hl [0, 1, 3] rfl) hP hS hf
  have hc_38 : ∀ (k0 : Nat) (k1 : Nat) (t0 : Int32) (s1 : SS) (H : Heap) (locs : List Loc) (ls : Array Slot), lv_has ls 4 [(0, .ref (ad k0)), (1, .ref (ad k1))] → va_P D ZCL (zw Ox Nx cA ad s1) H → va_S A s.heap H locs → f_X7_isAs_c38 k0 k1 t0 s1 = some (rr, sr) → W p l e (zrm 0) s m args below meth c H locs 0 0 (MQ below (zQc Ox Nx cA ad D A (some (.int rr)) sr) args s 0 0 A) (F0 m 38 ls [.int t0]) := by
    intro k0 k1 t0 s1 H locs ls hl hP hS hf
    rw [f_X7_isAs_c38] at hf
    obtain ⟨gp0, hf⟩ := zgd hf
    obtain ⟨gp1, hf⟩ := zgd hf
    refine lv_istore_n (lv' := [(2, .int t0), (0, .ref (ad k0)), (1, .ref (ad k1))]) hx hb dX7_isAs_38 rfl hl (by decide) rfl (fun ls hl => ?_)
    refine lv_iconst (v := 0) hx hb dX7_isAs_39 (by decide) ?_
    refine lv_istore_n (lv' := [(3, .int 0), (2, .int t0), (0, .ref (ad k0)), (1, .ref (ad k1))]) hx hb dX7_isAs_40 rfl hl (by decide) rfl (fun ls hl => ?_)
    exact hc_41 ZF k0 k1 t0 0 s1 _ _ _ (lv_sub hl [2, 3, 1, 0] rfl) hP hS hf
  have hc_37 : ∀ (k0 : Nat) (k1 : Nat) (s1 : SS) (H : Heap) (locs : List Loc) (ls : Array Slot), lv_has ls 4 [(0, .ref (ad k0)), (1, .ref (ad k1))] → va_P D ZCL (zw Ox Nx cA ad s1) H → va_S A s.heap H locs → f_X7_isAs_c37 k0 k1 s1 = some (rr, sr) → W p l e (zrm 0) s m args below meth c H locs 0 0 (MQ below (zQc Ox Nx cA ad D A (some (.int rr)) sr) args s 0 0 A) (F0 m 37 ls []) := by
    intro k0 k1 s1 H locs ls hl hP hS hf
    rw [f_X7_isAs_c37] at hf
    obtain ⟨gp0, hf⟩ := zgd hf
    obtain ⟨gp1, hf⟩ := zgd hf
    refine lv_iconst (v := 0) hx hb dX7_isAs_37 (by decide) ?_
    exact hc_38 k0 k1 0 s1 _ _ _ (lv_sub hl [0, 1] rfl) hP hS hf
  rw [f_X7_isAs] at hf
  obtain ⟨gp0, hf⟩ := zgd hf
  obtain ⟨gp1, hf⟩ := zgd hf
  refine lv_aload_n hx hb dX7_isAs_0 rfl (lv_at hl 0 rfl) ?_
  refine gf_X7_21 X hP (k := k0) gp0 dX7_isAs_1 ?_
  refine lv_aload_n hx hb dX7_isAs_4 rfl (lv_at hl 1 rfl) ?_
  refine gf_X7_21 X hP (k := k1) gp1 dX7_isAs_5 ?_
  refine zicmp_ne (tgt := 37) hx hb dX7_isAs_8 (by decide) hf (fun hf => ?_) (fun hf => ?_)
  · exact hc_37 k0 k1 s0 _ _ _ (lv_sub hl [0, 1] rfl) hP hS hf
  · refine lv_aload_n hx hb dX7_isAs_11 rfl (lv_at hl 0 rfl) ?_
    refine gf_X7_28 X hP (k := k0) gp0 dX7_isAs_12 ?_
    refine lv_aload_n hx hb dX7_isAs_15 rfl (lv_at hl 1 rfl) ?_
    refine gf_X7_28 X hP (k := k1) gp1 dX7_isAs_16 ?_
    refine zicmp_ne (tgt := 37) hx hb dX7_isAs_19 (by decide) hf (fun hf => ?_) (fun hf => ?_)
    · exact hc_37 k0 k1 s0 _ _ _ (lv_sub hl [0, 1] rfl) hP hS hf
    · refine lv_aload_n hx hb dX7_isAs_22 rfl (lv_at hl 0 rfl) ?_
      refine gf_X7_25 X hP (k := k0) gp0 dX7_isAs_23 ?_
      refine lv_aload_n hx hb dX7_isAs_26 rfl (lv_at hl 1 rfl) ?_
      refine gf_X7_25 X hP (k := k1) gp1 dX7_isAs_27 ?_
      refine zicmp_ne (tgt := 37) hx hb dX7_isAs_30 (by decide) hf (fun hf => ?_) (fun hf => ?_)
      · exact hc_37 k0 k1 s0 _ _ _ (lv_sub hl [0, 1] rfl) hP hS hf
      · refine lv_iconst (v := 1) hx hb dX7_isAs_33 (by decide) ?_
        refine lv_goto (tgt := 38) hx hb dX7_isAs_34 (by decide) ?_
        exact hc_38 k0 k1 1 s0 _ _ _ (lv_sub hl [0, 1] rfl) hP hS hf
theorem dX3_isAs_0 : decode cX3_isAs 0 = .ok (.aload_n 0, 1) := by decide +kernel
theorem dX3_isAs_1 : decode cX3_isAs 1 = .ok (.getfield 25, 3) := by decide +kernel
theorem dX3_isAs_4 : decode cX3_isAs 4 = .ok (.aload_n 1, 1) := by decide +kernel
theorem dX3_isAs_5 : decode cX3_isAs 5 = .ok (.getfield 25, 3) := by decide +kernel
theorem dX3_isAs_8 : decode cX3_isAs 8 = .ok (.if_icmp .ne 17, 3) := by decide +kernel
theorem dX3_isAs_11 : decode cX3_isAs 11 = .ok (.aload_n 0, 1) := by decide +kernel
theorem dX3_isAs_12 : decode cX3_isAs 12 = .ok (.getfield 12, 3) := by decide +kernel
theorem dX3_isAs_15 : decode cX3_isAs 15 = .ok (.aload_n 1, 1) := by decide +kernel
theorem dX3_isAs_16 : decode cX3_isAs 16 = .ok (.getfield 12, 3) := by decide +kernel
theorem dX3_isAs_19 : decode cX3_isAs 19 = .ok (.invokevirtual 54, 3) := by decide +kernel
theorem dX3_isAs_22 : decode cX3_isAs 22 = .ok (.ifCond .ne 5, 3) := by decide +kernel
theorem dX3_isAs_25 : decode cX3_isAs 25 = .ok (.iconst 0, 1) := by decide +kernel
theorem dX3_isAs_26 : decode cX3_isAs 26 = .ok (.ireturn, 1) := by decide +kernel
theorem dX3_isAs_27 : decode cX3_isAs 27 = .ok (.iconst 0, 1) := by decide +kernel
theorem dX3_isAs_28 : decode cX3_isAs 28 = .ok (.istore_n 3, 1) := by decide +kernel
theorem dX3_isAs_29 : decode cX3_isAs 29 = .ok (.iload_n 3, 1) := by decide +kernel
theorem dX3_isAs_30 : decode cX3_isAs 30 = .ok (.aload_n 0, 1) := by decide +kernel
theorem dX3_isAs_31 : decode cX3_isAs 31 = .ok (.getfield 25, 3) := by decide +kernel
theorem dX3_isAs_34 : decode cX3_isAs 34 = .ok (.if_icmp .ge 90, 3) := by decide +kernel
theorem dX3_isAs_37 : decode cX3_isAs 37 = .ok (.aload_n 0, 1) := by decide +kernel
theorem dX3_isAs_38 : decode cX3_isAs 38 = .ok (.getfield 20, 3) := by decide +kernel
theorem dX3_isAs_41 : decode cX3_isAs 41 = .ok (.iload_n 3, 1) := by decide +kernel
theorem dX3_isAs_42 : decode cX3_isAs 42 = .ok (.aaload, 1) := by decide +kernel
theorem dX3_isAs_43 : decode cX3_isAs 43 = .ok (.astore 4, 2) := by decide +kernel
theorem dX3_isAs_45 : decode cX3_isAs 45 = .ok (.aload_n 1, 1) := by decide +kernel
theorem dX3_isAs_46 : decode cX3_isAs 46 = .ok (.getfield 20, 3) := by decide +kernel
theorem dX3_isAs_49 : decode cX3_isAs 49 = .ok (.iload_n 3, 1) := by decide +kernel
theorem dX3_isAs_50 : decode cX3_isAs 50 = .ok (.aaload, 1) := by decide +kernel
theorem dX3_isAs_51 : decode cX3_isAs 51 = .ok (.astore 5, 2) := by decide +kernel
theorem dX3_isAs_53 : decode cX3_isAs 53 = .ok (.aload 4, 2) := by decide +kernel
theorem dX3_isAs_55 : decode cX3_isAs 55 = .ok (.getfield 36, 3) := by decide +kernel
theorem dX3_isAs_58 : decode cX3_isAs 58 = .ok (.aload 5, 2) := by decide +kernel
theorem dX3_isAs_60 : decode cX3_isAs 60 = .ok (.getfield 36, 3) := by decide +kernel
theorem dX3_isAs_63 : decode cX3_isAs 63 = .ok (.if_icmp .ne 16, 3) := by decide +kernel
theorem dX3_isAs_66 : decode cX3_isAs 66 = .ok (.aload 4, 2) := by decide +kernel
theorem dX3_isAs_68 : decode cX3_isAs 68 = .ok (.getfield 39, 3) := by decide +kernel
theorem dX3_isAs_71 : decode cX3_isAs 71 = .ok (.aload 5, 2) := by decide +kernel
theorem dX3_isAs_73 : decode cX3_isAs 73 = .ok (.getfield 39, 3) := by decide +kernel
theorem dX3_isAs_76 : decode cX3_isAs 76 = .ok (.if_icmp .eq 5, 3) := by decide +kernel
theorem dX3_isAs_79 : decode cX3_isAs 79 = .ok (.iconst 0, 1) := by decide +kernel
theorem dX3_isAs_80 : decode cX3_isAs 80 = .ok (.ireturn, 1) := by decide +kernel
theorem dX3_isAs_81 : decode cX3_isAs 81 = .ok (.iconst 0, 1) := by decide +kernel
theorem dX3_isAs_82 : decode cX3_isAs 82 = .ok (.istore 6, 2) := by decide +kernel
theorem dX3_isAs_84 : decode cX3_isAs 84 = .ok (.iload 6, 2) := by decide +kernel
theorem dX3_isAs_86 : decode cX3_isAs 86 = .ok (.iload_n 2, 1) := by decide +kernel
theorem dX3_isAs_87 : decode cX3_isAs 87 = .ok (.if_icmp .ge 31, 3) := by decide +kernel
theorem dX3_isAs_90 : decode cX3_isAs 90 = .ok (.aload 4, 2) := by decide +kernel
theorem dX3_isAs_92 : decode cX3_isAs 92 = .ok (.getfield 42, 3) := by decide +kernel
theorem dX3_isAs_95 : decode cX3_isAs 95 = .ok (.iload 6, 2) := by decide +kernel
theorem dX3_isAs_97 : decode cX3_isAs 97 = .ok (.laload, 1) := by decide +kernel
theorem dX3_isAs_98 : decode cX3_isAs 98 = .ok (.aload 5, 2) := by decide +kernel
theorem dX3_isAs_100 : decode cX3_isAs 100 = .ok (.getfield 42, 3) := by decide +kernel
theorem dX3_isAs_103 : decode cX3_isAs 103 = .ok (.iload 6, 2) := by decide +kernel
theorem dX3_isAs_105 : decode cX3_isAs 105 = .ok (.laload, 1) := by decide +kernel
theorem dX3_isAs_106 : decode cX3_isAs 106 = .ok (.lcmp, 1) := by decide +kernel
theorem dX3_isAs_107 : decode cX3_isAs 107 = .ok (.ifCond .eq 5, 3) := by decide +kernel
theorem dX3_isAs_110 : decode cX3_isAs 110 = .ok (.iconst 0, 1) := by decide +kernel
theorem dX3_isAs_111 : decode cX3_isAs 111 = .ok (.ireturn, 1) := by decide +kernel
theorem dX3_isAs_112 : decode cX3_isAs 112 = .ok (.iinc 6 1, 3) := by decide +kernel
theorem dX3_isAs_115 : decode cX3_isAs 115 = .ok (.goto (-31), 3) := by decide +kernel
theorem dX3_isAs_118 : decode cX3_isAs 118 = .ok (.iinc 3 1, 3) := by decide +kernel
theorem dX3_isAs_121 : decode cX3_isAs 121 = .ok (.goto (-92), 3) := by decide +kernel
theorem dX3_isAs_124 : decode cX3_isAs 124 = .ok (.iconst 1, 1) := by decide +kernel
theorem dX3_isAs_125 : decode cX3_isAs 125 = .ok (.ireturn, 1) := by decide +kernel
set_option maxHeartbeats 4000000 in
set_option maxRecDepth 100000 in
theorem cn_X3_isAs {l : Launch} {cA : Nat → ClassId} {ad : Nat → Nat} {D : va_G} {E : Nat → Nat} {A : Nat → Prop} {k0 : Nat} {k1 : Nat} {x2 : Int32} {s0 sr : SS} {rr : Int32} (hf : f_X3_isAs k0 k1 x2 s0 = some (rr, sr)) : zCon Ox Nx cA ad D E l yX3_isAs cX3_isAs 7 (some .boolean) 1 A [.ref (ad k0), .ref (ad k1), .int x2] s0 (some (.int rr)) sr := by
  refine zstart (own := RX3) hOx (by decide) rfl (Nat.le_of_ble_eq_true rfl) ?_
  intro p e s m args below meth c X hP ls hl
  have hx := X.1
  have hb := X.2.1
  have hl : lv_has ls 7 [(0, .ref (ad k0)), (1, .ref (ad k1)), (2, .int x2)] := hl
  have hS : va_S A s.heap s.heap [] := va_S.rf
  have hc_29 : ∀ (n29 : Nat) (k0 : Nat) (k1 : Nat) (x2 : Int32) (x3 : Int32) (s1 : SS) (H : Heap) (locs : List Loc) (ls : Array Slot), lv_has ls 7 [(0, .ref (ad k0)), (1, .ref (ad k1)), (2, .int x2), (3, .int x3)] → va_P D ZCL (zw Ox Nx cA ad s1) H → va_S A s.heap H locs → f_X3_isAs_c29 n29 k0 k1 x2 x3 s1 = some (rr, sr) → W p l e (zrm 1) s m args below meth c H locs 0 0 (MQ below (zQc Ox Nx cA ad D A (some (.int rr)) sr) args s 0 0 A) (F0 m 29 ls []) := by
    intro n29
    induction n29 with
    | zero =>
      intro k0 k1 x2 x3 s1 H locs ls hl hP hS hf
      rw [f_X3_isAs_c29] at hf
      cases hf
    | succ n29 ih29 =>
      have hc_84 : ∀ (n84 : Nat) (k0 : Nat) (k1 : Nat) (x2 : Int32) (x3 : Int32) (k4 : Nat) (k5 : Nat) (x6 : Int32) (s1 : SS) (H : Heap) (locs : List Loc) (ls : Array Slot), lv_has ls 7 [(0, .ref (ad k0)), (1, .ref (ad k1)), (2, .int x2), (3, .int x3), (4, .ref (ad k4)), (5, .ref (ad k5)), (6, .int x6)] → va_P D ZCL (zw Ox Nx cA ad s1) H → va_S A s.heap H locs → f_X3_isAs_c84 (f_X3_isAs_c29 n29) n84 k0 k1 x2 x3 k4 k5 x6 s1 = some (rr, sr) → W p l e (zrm 1) s m args below meth c H locs 0 0 (MQ below (zQc Ox Nx cA ad D A (some (.int rr)) sr) args s 0 0 A) (F0 m 84 ls []) := by
        intro n84
        induction n84 with
        | zero =>
          intro k0 k1 x2 x3 k4 k5 x6 s1 H locs ls hl hP hS hf
          rw [f_X3_isAs_c84] at hf
          cases hf
        | succ n84 ih84 =>
          intro k0 k1 x2 x3 k4 k5 x6 s1 H locs ls hl hP hS hf
          rw [f_X3_isAs_c84] at hf
          obtain ⟨gp0, hf⟩ := zgd hf
          obtain ⟨gp1, hf⟩ := zgd hf
          obtain ⟨gp4, hf⟩ := zgd hf
          obtain ⟨gp5, hf⟩ := zgd hf
          refine lv_iload hx hb dX3_isAs_84 (lv_at hl 6 rfl) ?_
          refine lv_iload_n hx hb dX3_isAs_86 rfl (lv_at hl 2 rfl) ?_
          refine zicmp_ge (tgt := 118) hx hb dX3_isAs_87 (by decide) hf (fun hf => ?_) (fun hf => ?_)
          · refine lv_iinc (v := (x3 + 1)) (lv' := [(3, .int (x3 + 1)), (0, .ref (ad k0)), (1, .ref (ad k1)), (2, .int x2), (4, .ref (ad k4)), (5, .ref (ad k5)), (6, .int x6)]) hx hb dX3_isAs_118 hl (k := 3) rfl rfl (by decide) rfl (fun ls hl => ?_)
            refine lv_goto (tgt := 29) hx hb dX3_isAs_121 (by decide) ?_
            exact ih29 k0 k1 x2 (x3 + 1) s1 _ _ _ (lv_sub hl [1, 2, 3, 0] rfl) hP hS hf
          · refine lv_aload hx hb dX3_isAs_90 (lv_at hl 4 rfl) ?_
            refine gf_X3_42 X hP (k := k4) gp4 dX3_isAs_92 rfl ?_
            refine lv_iload hx hb dX3_isAs_95 (lv_at hl 6 rfl) ?_
            obtain ⟨g12, hf⟩ := zgd hf
            obtain ⟨n15, rn15, on15, in15⟩ := zok_of g12
            refine zald_l X hP (k := (zrf Ox k4 2)) on15 in15 dX3_isAs_97 ?_
            refine lv_aload hx hb dX3_isAs_98 (lv_at hl 5 rfl) ?_
            refine gf_X3_42 X hP (k := k5) gp5 dX3_isAs_100 rfl ?_
            refine lv_iload hx hb dX3_isAs_103 (lv_at hl 6 rfl) ?_
            obtain ⟨g13, hf⟩ := zgd hf
            obtain ⟨n14, rn14, on14, in14⟩ := zok_of g13
            refine zald_l X hP (k := (zrf Ox k5 2)) on14 in14 dX3_isAs_105 ?_
            refine W.lcmp hx hb dX3_isAs_106 ?_
            refine zif_eq (tgt := 112) hx hb dX3_isAs_107 (by decide) hf (fun hf => ?_) (fun hf => ?_)
            · refine lv_iinc (v := (x6 + 1)) (lv' := [(6, .int (x6 + 1)), (0, .ref (ad k0)), (1, .ref (ad k1)), (2, .int x2), (3, .int x3), (4, .ref (ad k4)), (5, .ref (ad k5))]) hx hb dX3_isAs_112 hl (k := 6) rfl rfl (by decide) rfl (fun ls hl => ?_)
              refine lv_goto (tgt := 84) hx hb dX3_isAs_115 (by decide) ?_
              exact ih84 k0 k1 x2 x3 k4 k5 (x6 + 1) s1 _ _ _ (lv_sub hl [1, 2, 3, 4, 5, 6, 0] rfl) hP hS hf
            · refine lv_iconst (v := 0) hx hb dX3_isAs_110 (by decide) ?_
              exact zret_i X hP hS hf rfl dX3_isAs_111
      intro k0 k1 x2 x3 s1 H locs ls hl hP hS hf
      rw [f_X3_isAs_c29] at hf
      obtain ⟨gp0, hf⟩ := zgd hf
      obtain ⟨gp1, hf⟩ := zgd hf
      refine lv_iload_n hx hb dX3_isAs_29 rfl (lv_at hl 3 rfl) ?_
      refine lv_aload_n hx hb dX3_isAs_30 rfl (lv_at hl 0 rfl) ?_
      refine gf_X3_25 X hP (k := k0) gp0 dX3_isAs_31 ?_
      refine zicmp_ge (tgt := 124) hx hb dX3_isAs_34 (by decide) hf (fun hf => ?_) (fun hf => ?_)
      · refine lv_iconst (v := 1) hx hb dX3_isAs_124 (by decide) ?_
        exact zret_i X hP hS hf rfl dX3_isAs_125
      · refine lv_aload_n hx hb dX3_isAs_37 rfl (lv_at hl 0 rfl) ?_
        refine gf_X3_20 X hP (k := k0) gp0 dX3_isAs_38 rfl ?_
        refine lv_iload_n hx hb dX3_isAs_41 rfl (lv_at hl 3 rfl) ?_
        obtain ⟨g6, hf⟩ := zgd hf
        obtain ⟨g8, hf⟩ := zgd hf
        obtain ⟨n7, rn7, on7, in7⟩ := zok_of g6
        refine zald_q X hP zlr_x (k := (zrf Ox k0 1)) on7 in7 dX3_isAs_42 rfl ?_
        refine lv_astore (lv' := [(4, .ref (ad (zrr Ox (zrf Ox k0 1) x3))), (0, .ref (ad k0)), (1, .ref (ad k1)), (2, .int x2), (3, .int x3)]) hx hb dX3_isAs_43 hl (by decide) rfl (fun ls hl => ?_)
        refine lv_aload_n hx hb dX3_isAs_45 rfl (lv_at hl 2 rfl) ?_
        refine gf_X3_20 X hP (k := k1) gp1 dX3_isAs_46 rfl ?_
        refine lv_iload_n hx hb dX3_isAs_49 rfl (lv_at hl 4 rfl) ?_
        obtain ⟨g9, hf⟩ := zgd hf
        obtain ⟨g11, hf⟩ := zgd hf
        obtain ⟨n10, rn10, on10, in10⟩ := zok_of g9
        refine zald_q X hP zlr_x (k := (zrf Ox k1 1)) on10 in10 dX3_isAs_50 rfl ?_
        refine lv_astore (lv' := [(5, .ref (ad (zrr Ox (zrf Ox k1 1) x3))), (4, .ref (ad (zrr Ox (zrf Ox k0 1) x3))), (0, .ref (ad k0)), (1, .ref (ad k1)), (2, .int x2), (3, .int x3)]) hx hb dX3_isAs_51 hl (by decide) rfl (fun ls hl => ?_)
        refine lv_aload hx hb dX3_isAs_53 (lv_at hl 1 rfl) ?_
        refine gf_X3_36 X hP (k := (zrr Ox (zrf Ox k0 1) x3)) g8 dX3_isAs_55 ?_
        refine lv_aload hx hb dX3_isAs_58 (lv_at hl 0 rfl) ?_
        refine gf_X3_36 X hP (k := (zrr Ox (zrf Ox k1 1) x3)) g11 dX3_isAs_60 ?_
        refine zicmp_ne (tgt := 79) hx hb dX3_isAs_63 (by decide) hf (fun hf => ?_) (fun hf => ?_)
        · refine lv_iconst (v := 0) hx hb dX3_isAs_79 (by decide) ?_
          exact zret_i X hP hS hf rfl dX3_isAs_80
        · refine lv_aload hx hb dX3_isAs_66 (lv_at hl 1 rfl) ?_
          refine gf_X3_39 X hP (k := (zrr Ox (zrf Ox k0 1) x3)) g8 dX3_isAs_68 ?_
          refine lv_aload hx hb dX3_isAs_71 (lv_at hl 0 rfl) ?_
          refine gf_X3_39 X hP (k := (zrr Ox (zrf Ox k1 1) x3)) g11 dX3_isAs_73 ?_
          refine zicmp_eq (tgt := 81) hx hb dX3_isAs_76 (by decide) hf (fun hf => ?_) (fun hf => ?_)
          · refine lv_iconst (v := 0) hx hb dX3_isAs_81 (by decide) ?_
            refine lv_istore (lv' := [(6, .int 0), (5, .ref (ad (zrr Ox (zrf Ox k1 1) x3))), (4, .ref (ad (zrr Ox (zrf Ox k0 1) x3))), (0, .ref (ad k0)), (1, .ref (ad k1)), (2, .int x2), (3, .int x3)]) hx hb dX3_isAs_82 hl (by decide) rfl (fun ls hl => ?_)
            exact hc_84 ZF k0 k1 x2 x3 (zrr Ox (zrf Ox k0 1) x3) (zrr Ox (zrf Ox k1 1) x3) 0 s1 _ _ _ (lv_sub hl [3, 4, 5, 6, 2, 1, 0] rfl) hP hS hf
          · refine lv_iconst (v := 0) hx hb dX3_isAs_79 (by decide) ?_
            exact zret_i X hP hS hf rfl dX3_isAs_80
  rw [f_X3_isAs] at hf
  obtain ⟨gp0, hf⟩ := zgd hf
  obtain ⟨gp1, hf⟩ := zgd hf
  refine lv_aload_n hx hb dX3_isAs_0 rfl (lv_at hl 0 rfl) ?_
  refine gf_X3_25 X hP (k := k0) gp0 dX3_isAs_1 ?_
  refine lv_aload_n hx hb dX3_isAs_4 rfl (lv_at hl 1 rfl) ?_
  refine gf_X3_25 X hP (k := k1) gp1 dX3_isAs_5 ?_
  refine zicmp_ne (tgt := 25) hx hb dX3_isAs_8 (by decide) hf (fun hf => ?_) (fun hf => ?_)
  · refine lv_iconst (v := 0) hx hb dX3_isAs_25 (by decide) ?_
    exact zret_i X hP hS hf rfl dX3_isAs_26
  · refine lv_aload_n hx hb dX3_isAs_11 rfl (lv_at hl 0 rfl) ?_
    obtain ⟨g1, hf⟩ := zgd hf
    refine gf_X3_12 X hP (k := k0) gp0 dX3_isAs_12 rfl ?_
    refine lv_aload_n hx hb dX3_isAs_15 rfl (lv_at hl 1 rfl) ?_
    obtain ⟨g2, hf⟩ := zgd hf
    refine gf_X3_12 X hP (k := k1) gp1 dX3_isAs_16 rfl ?_
    obtain ⟨r3, s4, h5, hf⟩ := zbd_some hf
    refine zcallV X hP hS hl.1 (k := (zrf Ox k0 0)) (As := [.ref (ad (zrf Ox k1 0))]) (rest := []) (cn_X7_isAs h5) cw_X7_isAs zp_7 g1 (by decide) rfl ml_X3_54 (by decide) rfl rfl (Nat.le_of_ble_eq_true rfl) dX3_isAs_19 (fun H locs hP hS => ?_)
    refine zif_ne (tgt := 27) hx hb dX3_isAs_22 (by decide) hf (fun hf => ?_) (fun hf => ?_)
    · refine lv_iconst (v := 0) hx hb dX3_isAs_27 (by decide) ?_
      refine lv_istore_n (lv' := [(3, .int 0), (0, .ref (ad k0)), (1, .ref (ad k1)), (2, .int x2)]) hx hb dX3_isAs_28 rfl hl (by decide) rfl (fun ls hl => ?_)
      exact hc_29 ZF k0 k1 x2 0 s4 _ _ _ (lv_sub hl [1, 2, 3, 0] rfl) hP hS hf
    · refine lv_iconst (v := 0) hx hb dX3_isAs_25 (by decide) ?_
      exact zret_i X hP hS hf rfl dX3_isAs_26
theorem dX4_become_0 : decode cX4_become 0 = .ok (.iload_n 1, 1) := by decide +kernel
theorem dX4_become_1 : decode cX4_become 1 = .ok (.ifCond .ne 10, 3) := by decide +kernel
theorem dX4_become_4 : decode cX4_become 4 = .ok (.aload_n 0, 1) := by decide +kernel
theorem dX4_become_5 : decode cX4_become 5 = .ok (.getfield 17, 3) := by decide +kernel
theorem dX4_become_8 : decode cX4_become 8 = .ok (.goto 7, 3) := by decide +kernel
theorem dX4_become_11 : decode cX4_become 11 = .ok (.aload_n 0, 1) := by decide +kernel
theorem dX4_become_12 : decode cX4_become 12 = .ok (.getfield 21, 3) := by decide +kernel
theorem dX4_become_15 : decode cX4_become 15 = .ok (.istore_n 3, 1) := by decide +kernel
theorem dX4_become_16 : decode cX4_become 16 = .ok (.iload_n 1, 1) := by decide +kernel
theorem dX4_become_17 : decode cX4_become 17 = .ok (.ifCond .ne 11, 3) := by decide +kernel
theorem dX4_become_20 : decode cX4_become 20 = .ok (.aload_n 0, 1) := by decide +kernel
theorem dX4_become_21 : decode cX4_become 21 = .ok (.iload_n 2, 1) := by decide +kernel
theorem dX4_become_22 : decode cX4_become 22 = .ok (.putfield 17, 3) := by decide +kernel
theorem dX4_become_25 : decode cX4_become 25 = .ok (.goto 8, 3) := by decide +kernel
theorem dX4_become_28 : decode cX4_become 28 = .ok (.aload_n 0, 1) := by decide +kernel
theorem dX4_become_29 : decode cX4_become 29 = .ok (.iload_n 2, 1) := by decide +kernel
theorem dX4_become_30 : decode cX4_become 30 = .ok (.putfield 21, 3) := by decide +kernel
theorem dX4_become_33 : decode cX4_become 33 = .ok (.iload_n 3, 1) := by decide +kernel
theorem dX4_become_34 : decode cX4_become 34 = .ok (.ireturn, 1) := by decide +kernel
set_option maxHeartbeats 4000000 in
set_option maxRecDepth 100000 in
theorem cn_X4_become {l : Launch} {cA : Nat → ClassId} {ad : Nat → Nat} {D : va_G} {E : Nat → Nat} {A : Nat → Prop} {k0 : Nat} {x1 : Int32} {x2 : Int32} {s0 sr : SS} {rr : Int32} (hf : f_X4_become k0 x1 x2 s0 = some (rr, sr)) : zCon Ox Nx cA ad D E l yX4_become cX4_become 4 (some .int) 0 A [.ref (ad k0), .int x1, .int x2] s0 (some (.int rr)) sr := by
  refine zstart (own := RX4) hOx (by decide) rfl (Nat.le_of_ble_eq_true rfl) ?_
  intro p e s m args below meth c X hP ls hl
  have hx := X.1
  have hb := X.2.1
  have hl : lv_has ls 4 [(0, .ref (ad k0)), (1, .int x1), (2, .int x2)] := hl
  have hS : va_S A s.heap s.heap [] := va_S.rf
  have hc_15 : ∀ (k0 : Nat) (x1 : Int32) (x2 : Int32) (t0 : Int32) (s1 : SS) (H : Heap) (locs : List Loc) (ls : Array Slot), lv_has ls 4 [(0, .ref (ad k0)), (1, .int x1), (2, .int x2)] → va_P D ZCL (zw Ox Nx cA ad s1) H → va_S A s.heap H locs → f_X4_become_c15 k0 x1 x2 t0 s1 = some (rr, sr) → W p l e (zrm 0) s m args below meth c H locs 0 0 (MQ below (zQc Ox Nx cA ad D A (some (.int rr)) sr) args s 0 0 A) (F0 m 15 ls [.int t0]) := by
    intro k0 x1 x2 t0 s1 H locs ls hl hP hS hf
    rw [f_X4_become_c15] at hf
    obtain ⟨gp0, hf⟩ := zgd hf
    refine lv_istore_n (lv' := [(3, .int t0), (0, .ref (ad k0)), (1, .int x1), (2, .int x2)]) hx hb dX4_become_15 rfl hl (by decide) rfl (fun ls hl => ?_)
    refine lv_iload_n hx hb dX4_become_16 rfl (lv_at hl 2 rfl) ?_
    refine zif_ne (tgt := 28) hx hb dX4_become_17 (by decide) hf (fun hf => ?_) (fun hf => ?_)
    · refine lv_aload_n hx hb dX4_become_28 rfl (lv_at hl 1 rfl) ?_
      refine lv_iload_n hx hb dX4_become_29 rfl (lv_at hl 3 rfl) ?_
      refine pf_X4_21 X hP hS (k := k0) gp0 dX4_become_30 (fun H locs hP hS => ?_)
      refine lv_iload_n hx hb dX4_become_33 rfl (lv_at hl 0 rfl) ?_
      exact zret_i X hP hS hf rfl dX4_become_34
    · refine lv_aload_n hx hb dX4_become_20 rfl (lv_at hl 1 rfl) ?_
      refine lv_iload_n hx hb dX4_become_21 rfl (lv_at hl 3 rfl) ?_
      refine pf_X4_17 X hP hS (k := k0) gp0 dX4_become_22 (fun H locs hP hS => ?_)
      refine lv_goto (tgt := 33) hx hb dX4_become_25 (by decide) ?_
      refine lv_iload_n hx hb dX4_become_33 rfl (lv_at hl 0 rfl) ?_
      exact zret_i X hP hS hf rfl dX4_become_34
  rw [f_X4_become] at hf
  obtain ⟨gp0, hf⟩ := zgd hf
  refine lv_iload_n hx hb dX4_become_0 rfl (lv_at hl 1 rfl) ?_
  refine zif_ne (tgt := 11) hx hb dX4_become_1 (by decide) hf (fun hf => ?_) (fun hf => ?_)
  · refine lv_aload_n hx hb dX4_become_11 rfl (lv_at hl 0 rfl) ?_
    refine gf_X4_21 X hP (k := k0) gp0 dX4_become_12 ?_
    exact hc_15 k0 x1 x2 (s0.1 k0 1) s0 _ _ _ (lv_sub hl [0, 1, 2] rfl) hP hS hf
  · refine lv_aload_n hx hb dX4_become_4 rfl (lv_at hl 0 rfl) ?_
    refine gf_X4_17 X hP (k := k0) gp0 dX4_become_5 ?_
    refine lv_goto (tgt := 15) hx hb dX4_become_8 (by decide) ?_
    exact hc_15 k0 x1 x2 (s0.1 k0 0) s0 _ _ _ (lv_sub hl [0, 1, 2] rfl) hP hS hf
theorem dX4_isUnder_0 : decode cX4_isUnder 0 = .ok (.aload_n 0, 1) := by decide +kernel
theorem dX4_isUnder_1 : decode cX4_isUnder 1 = .ok (.getfield 17, 3) := by decide +kernel
theorem dX4_isUnder_4 : decode cX4_isUnder 4 = .ok (.istore_n 2, 1) := by decide +kernel
theorem dX4_isUnder_5 : decode cX4_isUnder 5 = .ok (.iconst 0, 1) := by decide +kernel
theorem dX4_isUnder_6 : decode cX4_isUnder 6 = .ok (.istore_n 3, 1) := by decide +kernel
theorem dX4_isUnder_7 : decode cX4_isUnder 7 = .ok (.iload_n 3, 1) := by decide +kernel
theorem dX4_isUnder_8 : decode cX4_isUnder 8 = .ok (.getstatic 30, 3) := by decide +kernel
theorem dX4_isUnder_11 : decode cX4_isUnder 11 = .ok (.arraylength, 1) := by decide +kernel
theorem dX4_isUnder_12 : decode cX4_isUnder 12 = .ok (.if_icmp .ge 34, 3) := by decide +kernel
theorem dX4_isUnder_15 : decode cX4_isUnder 15 = .ok (.iload_n 2, 1) := by decide +kernel
theorem dX4_isUnder_16 : decode cX4_isUnder 16 = .ok (.ifCond .lt 30, 3) := by decide +kernel
theorem dX4_isUnder_19 : decode cX4_isUnder 19 = .ok (.iload_n 2, 1) := by decide +kernel
theorem dX4_isUnder_20 : decode cX4_isUnder 20 = .ok (.getstatic 30, 3) := by decide +kernel
theorem dX4_isUnder_23 : decode cX4_isUnder 23 = .ok (.arraylength, 1) := by decide +kernel
theorem dX4_isUnder_24 : decode cX4_isUnder 24 = .ok (.if_icmp .ge 22, 3) := by decide +kernel
theorem dX4_isUnder_27 : decode cX4_isUnder 27 = .ok (.iload_n 2, 1) := by decide +kernel
theorem dX4_isUnder_28 : decode cX4_isUnder 28 = .ok (.iload_n 1, 1) := by decide +kernel
theorem dX4_isUnder_29 : decode cX4_isUnder 29 = .ok (.if_icmp .ne 5, 3) := by decide +kernel
theorem dX4_isUnder_32 : decode cX4_isUnder 32 = .ok (.iconst 1, 1) := by decide +kernel
theorem dX4_isUnder_33 : decode cX4_isUnder 33 = .ok (.ireturn, 1) := by decide +kernel
theorem dX4_isUnder_34 : decode cX4_isUnder 34 = .ok (.getstatic 30, 3) := by decide +kernel
theorem dX4_isUnder_37 : decode cX4_isUnder 37 = .ok (.iload_n 2, 1) := by decide +kernel
theorem dX4_isUnder_38 : decode cX4_isUnder 38 = .ok (.iaload, 1) := by decide +kernel
theorem dX4_isUnder_39 : decode cX4_isUnder 39 = .ok (.istore_n 2, 1) := by decide +kernel
theorem dX4_isUnder_40 : decode cX4_isUnder 40 = .ok (.iinc 3 1, 3) := by decide +kernel
theorem dX4_isUnder_43 : decode cX4_isUnder 43 = .ok (.goto (-36), 3) := by decide +kernel
theorem dX4_isUnder_46 : decode cX4_isUnder 46 = .ok (.iconst 0, 1) := by decide +kernel
theorem dX4_isUnder_47 : decode cX4_isUnder 47 = .ok (.ireturn, 1) := by decide +kernel
set_option maxHeartbeats 4000000 in
set_option maxRecDepth 100000 in
theorem cn_X4_isUnder {l : Launch} {cA : Nat → ClassId} {ad : Nat → Nat} {D : va_G} {E : Nat → Nat} {A : Nat → Prop} {k0 : Nat} {x1 : Int32} {s0 sr : SS} {rr : Int32} (hf : f_X4_isUnder k0 x1 s0 = some (rr, sr)) : zCon Ox Nx cA ad D E l yX4_isUnder cX4_isUnder 4 (some .boolean) 0 A [.ref (ad k0), .int x1] s0 (some (.int rr)) sr := by
  refine zstart (own := RX4) hOx (by decide) rfl (Nat.le_of_ble_eq_true rfl) ?_
  intro p e s m args below meth c X hP ls hl
  have hx := X.1
  have hb := X.2.1
  have hl : lv_has ls 4 [(0, .ref (ad k0)), (1, .int x1)] := hl
  have hS : va_S A s.heap s.heap [] := va_S.rf
  have hc_7 : ∀ (n7 : Nat) (x1 : Int32) (x2 : Int32) (x3 : Int32) (s1 : SS) (H : Heap) (locs : List Loc) (ls : Array Slot), lv_has ls 4 [(1, .int x1), (2, .int x2), (3, .int x3)] → va_P D ZCL (zw Ox Nx cA ad s1) H → va_S A s.heap H locs → f_X4_isUnder_c7 n7 x1 x2 x3 s1 = some (rr, sr) → W p l e (zrm 0) s m args below meth c H locs 0 0 (MQ below (zQc Ox Nx cA ad D A (some (.int rr)) sr) args s 0 0 A) (F0 m 7 ls []) := by
    intro n7
    induction n7 with
    | zero =>
      intro x1 x2 x3 s1 H locs ls hl hP hS hf
      rw [f_X4_isUnder_c7] at hf
      cases hf
    | succ n7 ih7 =>
      intro x1 x2 x3 s1 H locs ls hl hP hS hf
      rw [f_X4_isUnder_c7] at hf
      refine lv_iload_n hx hb dX4_isUnder_7 rfl (lv_at hl 2 rfl) ?_
      refine zgsN X hS (i := 2) rfl nf_X4_30 dX4_isUnder_8 ?_
      refine zstl X hS (k := 2) (v := 6) rfl (by decide) dX4_isUnder_11 ?_
      refine zicmp_ge (tgt := 46) hx hb dX4_isUnder_12 (by decide) hf (fun hf => ?_) (fun hf => ?_)
      · refine lv_iconst (v := 0) hx hb dX4_isUnder_46 (by decide) ?_
        exact zret_i X hP hS hf rfl dX4_isUnder_47
      · refine lv_iload_n hx hb dX4_isUnder_15 rfl (lv_at hl 1 rfl) ?_
        refine zif_lt (tgt := 46) hx hb dX4_isUnder_16 (by decide) hf (fun hf => ?_) (fun hf => ?_)
        · refine lv_iconst (v := 0) hx hb dX4_isUnder_46 (by decide) ?_
          exact zret_i X hP hS hf rfl dX4_isUnder_47
        · refine lv_iload_n hx hb dX4_isUnder_19 rfl (lv_at hl 1 rfl) ?_
          refine zgsN X hS (i := 2) rfl nf_X4_30 dX4_isUnder_20 ?_
          refine zstl X hS (k := 2) (v := 6) rfl (by decide) dX4_isUnder_23 ?_
          refine zicmp_ge (tgt := 46) hx hb dX4_isUnder_24 (by decide) hf (fun hf => ?_) (fun hf => ?_)
          · refine lv_iconst (v := 0) hx hb dX4_isUnder_46 (by decide) ?_
            exact zret_i X hP hS hf rfl dX4_isUnder_47
          · refine lv_iload_n hx hb dX4_isUnder_27 rfl (lv_at hl 1 rfl) ?_
            refine lv_iload_n hx hb dX4_isUnder_28 rfl (lv_at hl 0 rfl) ?_
            refine zicmp_ne (tgt := 34) hx hb dX4_isUnder_29 (by decide) hf (fun hf => ?_) (fun hf => ?_)
            · refine zgsN X hS (i := 2) rfl nf_X4_30 dX4_isUnder_34 ?_
              refine lv_iload_n hx hb dX4_isUnder_37 rfl (lv_at hl 1 rfl) ?_
              obtain ⟨g1, hf⟩ := zgd hf
              refine zst X hS (k := 2) (n := 6) rfl rfl g1 dX4_isUnder_38 ?_
              refine lv_istore_n (lv' := [(2, .int (ztab 2 x2)), (1, .int x1), (3, .int x3)]) hx hb dX4_isUnder_39 rfl hl (by decide) rfl (fun ls hl => ?_)
              refine lv_iinc (v := (x3 + 1)) (lv' := [(3, .int (x3 + 1)), (2, .int (ztab 2 x2)), (1, .int x1)]) hx hb dX4_isUnder_40 hl (k := 2) rfl rfl (by decide) rfl (fun ls hl => ?_)
              refine lv_goto (tgt := 7) hx hb dX4_isUnder_43 (by decide) ?_
              exact ih7 x1 (ztab 2 x2) (x3 + 1) s1 _ _ _ (lv_sub hl [2, 1, 0] rfl) hP hS hf
            · refine lv_iconst (v := 1) hx hb dX4_isUnder_32 (by decide) ?_
              exact zret_i X hP hS hf rfl dX4_isUnder_33
  rw [f_X4_isUnder] at hf
  obtain ⟨gp0, hf⟩ := zgd hf
  refine lv_aload_n hx hb dX4_isUnder_0 rfl (lv_at hl 0 rfl) ?_
  refine gf_X4_17 X hP (k := k0) gp0 dX4_isUnder_1 ?_
  refine lv_istore_n (lv' := [(2, .int (s0.1 k0 0)), (0, .ref (ad k0)), (1, .int x1)]) hx hb dX4_isUnder_4 rfl hl (by decide) rfl (fun ls hl => ?_)
  refine lv_iconst (v := 0) hx hb dX4_isUnder_5 (by decide) ?_
  refine lv_istore_n (lv' := [(3, .int 0), (2, .int (s0.1 k0 0)), (0, .ref (ad k0)), (1, .int x1)]) hx hb dX4_isUnder_6 rfl hl (by decide) rfl (fun ls hl => ?_)
  exact hc_7 ZF x1 (s0.1 k0 0) 0 s0 _ _ _ (lv_sub hl [3, 1, 0] rfl) hP hS hf
theorem dX4_numberAt_0 : decode cX4_numberAt 0 = .ok (.aload_n 0, 1) := by decide +kernel
theorem dX4_numberAt_1 : decode cX4_numberAt 1 = .ok (.getfield 11, 3) := by decide +kernel
theorem dX4_numberAt_4 : decode cX4_numberAt 4 = .ok (.iload_n 2, 1) := by decide +kernel
theorem dX4_numberAt_5 : decode cX4_numberAt 5 = .ok (.laload, 1) := by decide +kernel
theorem dX4_numberAt_6 : decode cX4_numberAt 6 = .ok (.lstore_n 3, 1) := by decide +kernel
theorem dX4_numberAt_7 : decode cX4_numberAt 7 = .ok (.aload_n 0, 1) := by decide +kernel
theorem dX4_numberAt_8 : decode cX4_numberAt 8 = .ok (.getfield 17, 3) := by decide +kernel
theorem dX4_numberAt_11 : decode cX4_numberAt 11 = .ok (.tableswitch 106 1 5 #[33, 36, 46, 65, 88], 33) := by decide +kernel
theorem dX4_numberAt_44 : decode cX4_numberAt 44 = .ok (.lload_n 3, 1) := by decide +kernel
theorem dX4_numberAt_45 : decode cX4_numberAt 45 = .ok (.lneg, 1) := by decide +kernel
theorem dX4_numberAt_46 : decode cX4_numberAt 46 = .ok (.lreturn, 1) := by decide +kernel
theorem dX4_numberAt_47 : decode cX4_numberAt 47 = .ok (.lload_n 3, 1) := by decide +kernel
theorem dX4_numberAt_48 : decode cX4_numberAt 48 = .ok (.aload_n 0, 1) := by decide +kernel
theorem dX4_numberAt_49 : decode cX4_numberAt 49 = .ok (.getfield 21, 3) := by decide +kernel
theorem dX4_numberAt_52 : decode cX4_numberAt 52 = .ok (.i2l, 1) := by decide +kernel
theorem dX4_numberAt_53 : decode cX4_numberAt 53 = .ok (.lconst 1, 1) := by decide +kernel
theorem dX4_numberAt_54 : decode cX4_numberAt 54 = .ok (.ladd, 1) := by decide +kernel
theorem dX4_numberAt_55 : decode cX4_numberAt 55 = .ok (.lmul, 1) := by decide +kernel
theorem dX4_numberAt_56 : decode cX4_numberAt 56 = .ok (.lreturn, 1) := by decide +kernel
theorem dX4_numberAt_57 : decode cX4_numberAt 57 = .ok (.aload_n 1, 1) := by decide +kernel
theorem dX4_numberAt_58 : decode cX4_numberAt 58 = .ok (.getfield 34, 3) := by decide +kernel
theorem dX4_numberAt_61 : decode cX4_numberAt 61 = .ok (.iload_n 2, 1) := by decide +kernel
theorem dX4_numberAt_62 : decode cX4_numberAt 62 = .ok (.iaload, 1) := by decide +kernel
theorem dX4_numberAt_63 : decode cX4_numberAt 63 = .ok (.aload_n 0, 1) := by decide +kernel
theorem dX4_numberAt_64 : decode cX4_numberAt 64 = .ok (.getfield 21, 3) := by decide +kernel
theorem dX4_numberAt_67 : decode cX4_numberAt 67 = .ok (.if_icmp .ne 7, 3) := by decide +kernel
theorem dX4_numberAt_70 : decode cX4_numberAt 70 = .ok (.lload_n 3, 1) := by decide +kernel
theorem dX4_numberAt_71 : decode cX4_numberAt 71 = .ok (.goto 4, 3) := by decide +kernel
theorem dX4_numberAt_74 : decode cX4_numberAt 74 = .ok (.lconst 0, 1) := by decide +kernel
theorem dX4_numberAt_75 : decode cX4_numberAt 75 = .ok (.lreturn, 1) := by decide +kernel
theorem dX4_numberAt_76 : decode cX4_numberAt 76 = .ok (.aload_n 1, 1) := by decide +kernel
theorem dX4_numberAt_77 : decode cX4_numberAt 77 = .ok (.getfield 37, 3) := by decide +kernel
theorem dX4_numberAt_80 : decode cX4_numberAt 80 = .ok (.iload_n 2, 1) := by decide +kernel
theorem dX4_numberAt_81 : decode cX4_numberAt 81 = .ok (.baload, 1) := by decide +kernel
theorem dX4_numberAt_82 : decode cX4_numberAt 82 = .ok (.ifCond .eq 15, 3) := by decide +kernel
theorem dX4_numberAt_85 : decode cX4_numberAt 85 = .ok (.lload_n 3, 1) := by decide +kernel
theorem dX4_numberAt_86 : decode cX4_numberAt 86 = .ok (.aload_n 0, 1) := by decide +kernel
theorem dX4_numberAt_87 : decode cX4_numberAt 87 = .ok (.getfield 21, 3) := by decide +kernel
theorem dX4_numberAt_90 : decode cX4_numberAt 90 = .ok (.i2l, 1) := by decide +kernel
theorem dX4_numberAt_91 : decode cX4_numberAt 91 = .ok (.lconst 1, 1) := by decide +kernel
theorem dX4_numberAt_92 : decode cX4_numberAt 92 = .ok (.ladd, 1) := by decide +kernel
theorem dX4_numberAt_93 : decode cX4_numberAt 93 = .ok (.lmul, 1) := by decide +kernel
theorem dX4_numberAt_94 : decode cX4_numberAt 94 = .ok (.goto 4, 3) := by decide +kernel
theorem dX4_numberAt_97 : decode cX4_numberAt 97 = .ok (.lconst 0, 1) := by decide +kernel
theorem dX4_numberAt_98 : decode cX4_numberAt 98 = .ok (.lreturn, 1) := by decide +kernel
theorem dX4_numberAt_99 : decode cX4_numberAt 99 = .ok (.aload_n 1, 1) := by decide +kernel
theorem dX4_numberAt_100 : decode cX4_numberAt 100 = .ok (.getfield 34, 3) := by decide +kernel
theorem dX4_numberAt_103 : decode cX4_numberAt 103 = .ok (.iload_n 2, 1) := by decide +kernel
theorem dX4_numberAt_104 : decode cX4_numberAt 104 = .ok (.iaload, 1) := by decide +kernel
theorem dX4_numberAt_105 : decode cX4_numberAt 105 = .ok (.iconst 2, 1) := by decide +kernel
theorem dX4_numberAt_106 : decode cX4_numberAt 106 = .ok (.irem, 1) := by decide +kernel
theorem dX4_numberAt_107 : decode cX4_numberAt 107 = .ok (.ifCond .eq 8, 3) := by decide +kernel
theorem dX4_numberAt_110 : decode cX4_numberAt 110 = .ok (.lload_n 3, 1) := by decide +kernel
theorem dX4_numberAt_111 : decode cX4_numberAt 111 = .ok (.lneg, 1) := by decide +kernel
theorem dX4_numberAt_112 : decode cX4_numberAt 112 = .ok (.goto 4, 3) := by decide +kernel
theorem dX4_numberAt_115 : decode cX4_numberAt 115 = .ok (.lload_n 3, 1) := by decide +kernel
theorem dX4_numberAt_116 : decode cX4_numberAt 116 = .ok (.lreturn, 1) := by decide +kernel
theorem dX4_numberAt_117 : decode cX4_numberAt 117 = .ok (.lload_n 3, 1) := by decide +kernel
theorem dX4_numberAt_118 : decode cX4_numberAt 118 = .ok (.lreturn, 1) := by decide +kernel
set_option maxHeartbeats 4000000 in
set_option maxRecDepth 100000 in
theorem cn_X4_numberAt {l : Launch} {cA : Nat → ClassId} {ad : Nat → Nat} {D : va_G} {E : Nat → Nat} {A : Nat → Prop} {k0 : Nat} {x2 : Int32} {s0 sr : SS} {rr : Int64} (hf : f_X4_numberAt k0 x2 s0 = some (rr, sr)) : zCon Ox Nx cA ad D E l yX4_numberAt cX4_numberAt 5 (some .long) 0 A [.ref (ad k0), .ref (ad 6), .int x2] s0 (some (.long rr)) sr := by
  refine zstart (own := RX4) hOx (by decide) rfl (Nat.le_of_ble_eq_true rfl) ?_
  intro p e s m args below meth c X hP ls hl
  have hx := X.1
  have hb := X.2.1
  have hl : lv_has ls 5 [(0, .ref (ad k0)), (1, .ref (ad 6)), (2, .int x2)] := hl
  have hS : va_S A s.heap s.heap [] := va_S.rf
  rw [f_X4_numberAt] at hf
  obtain ⟨gp0, hf⟩ := zgd hf
  refine lv_aload_n hx hb dX4_numberAt_0 rfl (lv_at hl 0 rfl) ?_
  refine gf_X4_11 X hP (k := k0) gp0 dX4_numberAt_1 rfl ?_
  refine lv_iload_n hx hb dX4_numberAt_4 rfl (lv_at hl 2 rfl) ?_
  obtain ⟨g1, hf⟩ := zgd hf
  obtain ⟨n10, rn10, on10, in10⟩ := zok_of g1
  refine zald_l X hP (k := (zrf Ox k0 2)) on10 in10 dX4_numberAt_5 ?_
  refine lv_lstore_n (lv' := [(3, .long (s0.2 (zrf Ox k0 2) (x2).toNatClampNeg)), (0, .ref (ad k0)), (1, .ref (ad 6)), (2, .int x2)]) hx hb dX4_numberAt_6 rfl hl (by decide) rfl (fun ls hl => ?_)
  refine lv_aload_n hx hb dX4_numberAt_7 rfl (lv_at hl 1 rfl) ?_
  refine gf_X4_17 X hP (k := k0) gp0 dX4_numberAt_8 ?_
  by_cases e2 : (s0.1 k0 0) = 1
  · rw [if_pos e2] at hf
    refine lv_tableIn (tgt := 44) (off := 33) hx hb dX4_numberAt_11 (by rw [e2]; decide) (by rw [e2]; decide) (by rw [e2]; decide +kernel) (by decide) ?_
    refine lv_lload_n hx hb dX4_numberAt_44 rfl (lv_at hl 0 rfl) ?_
    refine lv_lneg hx hb dX4_numberAt_45 ?_
    exact zret_l X hP hS hf dX4_numberAt_46
  · rw [if_neg e2] at hf
    by_cases e3 : (s0.1 k0 0) = 2
    · rw [if_pos e3] at hf
      refine lv_tableIn (tgt := 47) (off := 36) hx hb dX4_numberAt_11 (by rw [e3]; decide) (by rw [e3]; decide) (by rw [e3]; decide +kernel) (by decide) ?_
      refine lv_lload_n hx hb dX4_numberAt_47 rfl (lv_at hl 0 rfl) ?_
      refine lv_aload_n hx hb dX4_numberAt_48 rfl (lv_at hl 1 rfl) ?_
      refine gf_X4_21 X hP (k := k0) gp0 dX4_numberAt_49 ?_
      refine lv_i2l hx hb dX4_numberAt_52 rfl ?_
      refine lv_lconst (v := 1) hx hb dX4_numberAt_53 (by decide) ?_
      refine lv_ladd hx hb dX4_numberAt_54 ?_
      refine lv_lmul hx hb dX4_numberAt_55 ?_
      exact zret_l X hP hS hf dX4_numberAt_56
    · rw [if_neg e3] at hf
      by_cases e4 : (s0.1 k0 0) = 3
      · rw [if_pos e4] at hf
        refine lv_tableIn (tgt := 57) (off := 46) hx hb dX4_numberAt_11 (by rw [e4]; decide) (by rw [e4]; decide) (by rw [e4]; decide +kernel) (by decide) ?_
        refine lv_aload_n hx hb dX4_numberAt_57 rfl (lv_at hl 2 rfl) ?_
        refine gf_X4_34 X hP (k := 6) (q := 63) rfl dX4_numberAt_58 rfl ?_
        refine lv_iload_n hx hb dX4_numberAt_61 rfl (lv_at hl 3 rfl) ?_
        obtain ⟨g5, hf⟩ := zgd hf
        refine zald_i X hP (k := 63) (n := 462) (rs := []) rfl g5 dX4_numberAt_62 ?_
        refine lv_aload_n hx hb dX4_numberAt_63 rfl (lv_at hl 1 rfl) ?_
        refine gf_X4_21 X hP (k := k0) gp0 dX4_numberAt_64 ?_
        refine zicmp_ne (tgt := 74) hx hb dX4_numberAt_67 (by decide) hf (fun hf => ?_) (fun hf => ?_)
        · refine lv_lconst (v := 0) hx hb dX4_numberAt_74 (by decide) ?_
          exact zret_l X hP hS hf dX4_numberAt_75
        · refine lv_lload_n hx hb dX4_numberAt_70 rfl (lv_at hl 0 rfl) ?_
          refine lv_goto (tgt := 75) hx hb dX4_numberAt_71 (by decide) ?_
          exact zret_l X hP hS hf dX4_numberAt_75
      · rw [if_neg e4] at hf
        by_cases e6 : (s0.1 k0 0) = 4
        · rw [if_pos e6] at hf
          refine lv_tableIn (tgt := 76) (off := 65) hx hb dX4_numberAt_11 (by rw [e6]; decide) (by rw [e6]; decide) (by rw [e6]; decide +kernel) (by decide) ?_
          refine lv_aload_n hx hb dX4_numberAt_76 rfl (lv_at hl 2 rfl) ?_
          refine gf_X4_37 X hP (k := 6) (q := 65) rfl dX4_numberAt_77 rfl ?_
          refine lv_iload_n hx hb dX4_numberAt_80 rfl (lv_at hl 3 rfl) ?_
          obtain ⟨g7, hf⟩ := zgd hf
          refine zald_z X hP (k := 65) (n := 462) (rs := []) rfl g7 dX4_numberAt_81 ?_
          refine zif_eq (tgt := 97) hx hb dX4_numberAt_82 (by decide) hf (fun hf => ?_) (fun hf => ?_)
          · refine lv_lconst (v := 0) hx hb dX4_numberAt_97 (by decide) ?_
            exact zret_l X hP hS hf dX4_numberAt_98
          · refine lv_lload_n hx hb dX4_numberAt_85 rfl (lv_at hl 0 rfl) ?_
            refine lv_aload_n hx hb dX4_numberAt_86 rfl (lv_at hl 1 rfl) ?_
            refine gf_X4_21 X hP (k := k0) gp0 dX4_numberAt_87 ?_
            refine lv_i2l hx hb dX4_numberAt_90 rfl ?_
            refine lv_lconst (v := 1) hx hb dX4_numberAt_91 (by decide) ?_
            refine lv_ladd hx hb dX4_numberAt_92 ?_
            refine lv_lmul hx hb dX4_numberAt_93 ?_
            refine lv_goto (tgt := 98) hx hb dX4_numberAt_94 (by decide) ?_
            exact zret_l X hP hS hf dX4_numberAt_98
        · rw [if_neg e6] at hf
          by_cases e8 : (s0.1 k0 0) = 5
          · rw [if_pos e8] at hf
            refine lv_tableIn (tgt := 99) (off := 88) hx hb dX4_numberAt_11 (by rw [e8]; decide) (by rw [e8]; decide) (by rw [e8]; decide +kernel) (by decide) ?_
            refine lv_aload_n hx hb dX4_numberAt_99 rfl (lv_at hl 2 rfl) ?_
            refine gf_X4_34 X hP (k := 6) (q := 63) rfl dX4_numberAt_100 rfl ?_
            refine lv_iload_n hx hb dX4_numberAt_103 rfl (lv_at hl 3 rfl) ?_
            obtain ⟨g9, hf⟩ := zgd hf
            refine zald_i X hP (k := 63) (n := 462) (rs := []) rfl g9 dX4_numberAt_104 ?_
            refine lv_iconst (v := 2) hx hb dX4_numberAt_105 (by decide) ?_
            refine lv_irem hx hb dX4_numberAt_106 (by decide) ?_
            refine zif_eq (tgt := 115) hx hb dX4_numberAt_107 (by decide) hf (fun hf => ?_) (fun hf => ?_)
            · refine lv_lload_n hx hb dX4_numberAt_115 rfl (lv_at hl 0 rfl) ?_
              exact zret_l X hP hS hf dX4_numberAt_116
            · refine lv_lload_n hx hb dX4_numberAt_110 rfl (lv_at hl 0 rfl) ?_
              refine lv_lneg hx hb dX4_numberAt_111 ?_
              refine lv_goto (tgt := 116) hx hb dX4_numberAt_112 (by decide) ?_
              exact zret_l X hP hS hf dX4_numberAt_116
          · rw [if_neg e8] at hf
            have ye2 := zne e2 (v := 1) (by decide)
            have ye3 := zne e3 (v := 2) (by decide)
            have ye4 := zne e4 (v := 3) (by decide)
            have ye6 := zne e6 (v := 4) (by decide)
            have ye8 := zne e8 (v := 5) (by decide)
            refine lv_tableOut (tgt := 117) hx hb dX4_numberAt_11 (by omega) (by decide) ?_
            refine lv_lload_n hx hb dX4_numberAt_117 rfl (lv_at hl 0 rfl) ?_
            exact zret_l X hP hS hf dX4_numberAt_118
