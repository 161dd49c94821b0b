theorem dX12_meetsBy_0 : decode cX12_meetsBy 0 = .ok (.aload_n 0, 1) := by decide +kernel
theorem dX12_meetsBy_1 : decode cX12_meetsBy 1 = .ok (.getfield 105, 3) := by decide +kernel
theorem dX12_meetsBy_4 : decode cX12_meetsBy 4 = .ok (.iload_n 1, 1) := by decide +kernel
theorem dX12_meetsBy_5 : decode cX12_meetsBy 5 = .ok (.iaload, 1) := by decide +kernel
theorem dX12_meetsBy_6 : decode cX12_meetsBy 6 = .ok (.istore_n 3, 1) := by decide +kernel
theorem dX12_meetsBy_7 : decode cX12_meetsBy 7 = .ok (.iload_n 3, 1) := by decide +kernel
theorem dX12_meetsBy_8 : decode cX12_meetsBy 8 = .ok (.iconst 4, 1) := by decide +kernel
theorem dX12_meetsBy_9 : decode cX12_meetsBy 9 = .ok (.if_icmp .ne 9, 3) := by decide +kernel
theorem dX12_meetsBy_12 : decode cX12_meetsBy 12 = .ok (.aload_n 0, 1) := by decide +kernel
theorem dX12_meetsBy_13 : decode cX12_meetsBy 13 = .ok (.bipush 41, 2) := by decide +kernel
theorem dX12_meetsBy_15 : decode cX12_meetsBy 15 = .ok (.invokevirtual 432, 3) := by decide +kernel
theorem dX12_meetsBy_18 : decode cX12_meetsBy 18 = .ok (.iload_n 3, 1) := by decide +kernel
theorem dX12_meetsBy_19 : decode cX12_meetsBy 19 = .ok (.iconst 2, 1) := by decide +kernel
theorem dX12_meetsBy_20 : decode cX12_meetsBy 20 = .ok (.if_icmp .eq 8, 3) := by decide +kernel
theorem dX12_meetsBy_23 : decode cX12_meetsBy 23 = .ok (.iload_n 3, 1) := by decide +kernel
theorem dX12_meetsBy_24 : decode cX12_meetsBy 24 = .ok (.iconst 4, 1) := by decide +kernel
theorem dX12_meetsBy_25 : decode cX12_meetsBy 25 = .ok (.if_icmp .ne 9, 3) := by decide +kernel
theorem dX12_meetsBy_28 : decode cX12_meetsBy 28 = .ok (.aload_n 0, 1) := by decide +kernel
theorem dX12_meetsBy_29 : decode cX12_meetsBy 29 = .ok (.bipush 30, 2) := by decide +kernel
theorem dX12_meetsBy_31 : decode cX12_meetsBy 31 = .ok (.invokevirtual 432, 3) := by decide +kernel
theorem dX12_meetsBy_34 : decode cX12_meetsBy 34 = .ok (.aload_n 0, 1) := by decide +kernel
theorem dX12_meetsBy_35 : decode cX12_meetsBy 35 = .ok (.bipush 10, 2) := by decide +kernel
theorem dX12_meetsBy_37 : decode cX12_meetsBy 37 = .ok (.invokevirtual 432, 3) := by decide +kernel
theorem dX12_meetsBy_40 : decode cX12_meetsBy 40 = .ok (.iload_n 2, 1) := by decide +kernel
theorem dX12_meetsBy_41 : decode cX12_meetsBy 41 = .ok (.iload_n 1, 1) := by decide +kernel
theorem dX12_meetsBy_42 : decode cX12_meetsBy 42 = .ok (.iadd, 1) := by decide +kernel
theorem dX12_meetsBy_43 : decode cX12_meetsBy 43 = .ok (.istore 4, 2) := by decide +kernel
theorem dX12_meetsBy_45 : decode cX12_meetsBy 45 = .ok (.iload_n 3, 1) := by decide +kernel
theorem dX12_meetsBy_46 : decode cX12_meetsBy 46 = .ok (.iconst 2, 1) := by decide +kernel
theorem dX12_meetsBy_47 : decode cX12_meetsBy 47 = .ok (.if_icmp .eq 8, 3) := by decide +kernel
theorem dX12_meetsBy_50 : decode cX12_meetsBy 50 = .ok (.iload_n 3, 1) := by decide +kernel
theorem dX12_meetsBy_51 : decode cX12_meetsBy 51 = .ok (.iconst 4, 1) := by decide +kernel
theorem dX12_meetsBy_52 : decode cX12_meetsBy 52 = .ok (.if_icmp .ne 9, 3) := by decide +kernel
theorem dX12_meetsBy_55 : decode cX12_meetsBy 55 = .ok (.iload 4, 2) := by decide +kernel
theorem dX12_meetsBy_57 : decode cX12_meetsBy 57 = .ok (.ineg, 1) := by decide +kernel
theorem dX12_meetsBy_58 : decode cX12_meetsBy 58 = .ok (.goto 5, 3) := by decide +kernel
theorem dX12_meetsBy_61 : decode cX12_meetsBy 61 = .ok (.iload 4, 2) := by decide +kernel
theorem dX12_meetsBy_63 : decode cX12_meetsBy 63 = .ok (.istore 4, 2) := by decide +kernel
theorem dX12_meetsBy_65 : decode cX12_meetsBy 65 = .ok (.iload_n 3, 1) := by decide +kernel
theorem dX12_meetsBy_66 : decode cX12_meetsBy 66 = .ok (.iconst 4, 1) := by decide +kernel
theorem dX12_meetsBy_67 : decode cX12_meetsBy 67 = .ok (.if_icmp .ne 10, 3) := by decide +kernel
theorem dX12_meetsBy_70 : decode cX12_meetsBy 70 = .ok (.iload 4, 2) := by decide +kernel
theorem dX12_meetsBy_72 : decode cX12_meetsBy 72 = .ok (.iconst 3, 1) := by decide +kernel
theorem dX12_meetsBy_73 : decode cX12_meetsBy 73 = .ok (.imul, 1) := by decide +kernel
theorem dX12_meetsBy_74 : decode cX12_meetsBy 74 = .ok (.goto 5, 3) := by decide +kernel
theorem dX12_meetsBy_77 : decode cX12_meetsBy 77 = .ok (.iload 4, 2) := by decide +kernel
theorem dX12_meetsBy_79 : decode cX12_meetsBy 79 = .ok (.ireturn, 1) := by decide +kernel
set_option maxHeartbeats 4000000 in
set_option maxRecDepth 100000 in
theorem cn_X12_meetsBy {l : Launch} {cA : Nat → ClassId} {ad : Nat → Nat} {D : va_G} {E : Nat → Nat} {A : Nat → Prop} {x1 : Int32} {x2 : Int32} {s0 sr : SS} {rr : Int32} (hf : f_X12_meetsBy x1 x2 s0 = some (rr, sr)) : zCon Om Nm cA ad D E l yX12_meetsBy cX12_meetsBy 5 (some .int) 1 A [.ref (ad 0), .int x1, .int x2] s0 (some (.int rr)) sr := by
  refine zstart (own := RX12) hOm (by decide) rfl (Nat.le_of_ble_eq_true rfl) ?_
  intro p e s m args below meth c X hP ls hl
  have hx := X.1
  have hb := X.2.1
  have hl : lv_has ls 5 [(0, .ref (ad 0)), (1, .int x1), (2, .int x2)] := hl
  have hS : va_S A s.heap s.heap [] := va_S.rf
  have hc_63 : ∀ (x3 : Int32) (t0 : Int32) (s1 : SS) (H : Heap) (locs : List Loc) (ls : Array Slot), lv_has ls 5 [(3, .int x3)] → va_P D ZCL (zw Om Nm cA ad s1) H → va_S A s.heap H locs → f_X12_meetsBy_c63 x3 t0 s1 = some (rr, sr) → W p l e (zrm 1) s m args below meth c H locs 0 0 (MQ below (zQc Om Nm cA ad D A (some (.int rr)) sr) args s 0 0 A) (F0 m 63 ls [.int t0]) := by
    intro x3 t0 s1 H locs ls hl hP hS hf
    rw [f_X12_meetsBy_c63] at hf
    refine lv_istore (lv' := [(4, .int t0), (3, .int x3)]) hx hb dX12_meetsBy_63 hl (by decide) rfl (fun ls hl => ?_)
    refine lv_iload_n hx hb dX12_meetsBy_65 rfl (lv_at hl 1 rfl) ?_
    refine lv_iconst (v := 4) hx hb dX12_meetsBy_66 (by decide) ?_
    refine zicmp_ne (tgt := 77) hx hb dX12_meetsBy_67 (by decide) hf (fun hf => ?_) (fun hf => ?_)
    · refine lv_iload hx hb dX12_meetsBy_77 (lv_at hl 0 rfl) ?_
      exact zret_i X hP hS hf rfl dX12_meetsBy_79
    · refine lv_iload hx hb dX12_meetsBy_70 (lv_at hl 0 rfl) ?_
      refine lv_iconst (v := 3) hx hb dX12_meetsBy_72 (by decide) ?_
      refine lv_imul hx hb dX12_meetsBy_73 ?_
      refine lv_goto (tgt := 79) hx hb dX12_meetsBy_74 (by decide) ?_
      exact zret_i X hP hS hf rfl dX12_meetsBy_79
  have hc_55 : ∀ (x3 : Int32) (x4 : Int32) (s1 : SS) (H : Heap) (locs : List Loc) (ls : Array Slot), lv_has ls 5 [(3, .int x3), (4, .int x4)] → va_P D ZCL (zw Om Nm cA ad s1) H → va_S A s.heap H locs → f_X12_meetsBy_c55 x3 x4 s1 = some (rr, sr) → W p l e (zrm 1) s m args below meth c H locs 0 0 (MQ below (zQc Om Nm cA ad D A (some (.int rr)) sr) args s 0 0 A) (F0 m 55 ls []) := by
    intro x3 x4 s1 H locs ls hl hP hS hf
    rw [f_X12_meetsBy_c55] at hf
    refine lv_iload hx hb dX12_meetsBy_55 (lv_at hl 1 rfl) ?_
    refine lv_ineg hx hb dX12_meetsBy_57 ?_
    refine lv_goto (tgt := 63) hx hb dX12_meetsBy_58 (by decide) ?_
    exact hc_63 x3 (-x4) s1 _ _ _ (lv_sub hl [0] rfl) hP hS hf
  have hc_34 : ∀ (x1 : Int32) (x2 : Int32) (x3 : Int32) (s1 : SS) (H : Heap) (locs : List Loc) (ls : Array Slot), lv_has ls 5 [(0, .ref (ad 0)), (1, .int x1), (2, .int x2), (3, .int x3)] → va_P D ZCL (zw Om Nm cA ad s1) H → va_S A s.heap H locs → f_X12_meetsBy_c34 x1 x2 x3 s1 = some (rr, sr) → W p l e (zrm 1) s m args below meth c H locs 0 0 (MQ below (zQc Om Nm cA ad D A (some (.int rr)) sr) args s 0 0 A) (F0 m 34 ls []) := by
    intro x1 x2 x3 s1 H locs ls hl hP hS hf
    rw [f_X12_meetsBy_c34] at hf
    refine lv_aload_n hx hb dX12_meetsBy_34 rfl (lv_at hl 0 rfl) ?_
    refine lv_bipush (v := 10) hx hb dX12_meetsBy_35 (by decide) ?_
    obtain ⟨r5, s6, h7, hf⟩ := zbd_some hf
    refine zcallV X hP hS hl.1 (k := 0) (As := [.int 10]) (rest := []) (cn_X12_begins h7) cw_X12_begins zp_12 rfl (by decide) rfl ml_X12_432 (by decide) rfl rfl (Nat.le_of_ble_eq_true rfl) dX12_meetsBy_37 (fun H locs hP hS => ?_)
    refine lv_iload_n hx hb dX12_meetsBy_40 rfl (lv_at hl 2 rfl) ?_
    refine lv_iload_n hx hb dX12_meetsBy_41 rfl (lv_at hl 1 rfl) ?_
    refine lv_iadd hx hb dX12_meetsBy_42 ?_
    refine lv_istore (lv' := [(4, .int (x2 + x1)), (0, .ref (ad 0)), (1, .int x1), (2, .int x2), (3, .int x3)]) hx hb dX12_meetsBy_43 hl (by decide) rfl (fun ls hl => ?_)
    refine lv_iload_n hx hb dX12_meetsBy_45 rfl (lv_at hl 4 rfl) ?_
    refine lv_iconst (v := 2) hx hb dX12_meetsBy_46 (by decide) ?_
    refine zicmp_eq (tgt := 55) hx hb dX12_meetsBy_47 (by decide) hf (fun hf => ?_) (fun hf => ?_)
    · exact hc_55 x3 (x2 + x1) s6 _ _ _ (lv_sub hl [4, 0] rfl) hP hS hf
    · refine lv_iload_n hx hb dX12_meetsBy_50 rfl (lv_at hl 4 rfl) ?_
      refine lv_iconst (v := 4) hx hb dX12_meetsBy_51 (by decide) ?_
      refine zicmp_ne (tgt := 61) hx hb dX12_meetsBy_52 (by decide) hf (fun hf => ?_) (fun hf => ?_)
      · refine lv_iload hx hb dX12_meetsBy_61 (lv_at hl 0 rfl) ?_
        exact hc_63 x3 (x2 + x1) s6 _ _ _ (lv_sub hl [4] rfl) hP hS hf
      · exact hc_55 x3 (x2 + x1) s6 _ _ _ (lv_sub hl [4, 0] rfl) hP hS hf
  have hc_28 : ∀ (x1 : Int32) (x2 : Int32) (x3 : Int32) (s1 : SS) (H : Heap) (locs : List Loc) (ls : Array Slot), lv_has ls 5 [(0, .ref (ad 0)), (1, .int x1), (2, .int x2), (3, .int x3)] → va_P D ZCL (zw Om Nm cA ad s1) H → va_S A s.heap H locs → f_X12_meetsBy_c28 x1 x2 x3 s1 = some (rr, sr) → W p l e (zrm 1) s m args below meth c H locs 0 0 (MQ below (zQc Om Nm cA ad D A (some (.int rr)) sr) args s 0 0 A) (F0 m 28 ls []) := by
    intro x1 x2 x3 s1 H locs ls hl hP hS hf
    rw [f_X12_meetsBy_c28] at hf
    refine lv_aload_n hx hb dX12_meetsBy_28 rfl (lv_at hl 0 rfl) ?_
    refine lv_bipush (v := 30) hx hb dX12_meetsBy_29 (by decide) ?_
    obtain ⟨r2, s3, h4, hf⟩ := zbd_some hf
    refine zcallV X hP hS hl.1 (k := 0) (As := [.int 30]) (rest := []) (cn_X12_begins h4) cw_X12_begins zp_12 rfl (by decide) rfl ml_X12_432 (by decide) rfl rfl (Nat.le_of_ble_eq_true rfl) dX12_meetsBy_31 (fun H locs hP hS => ?_)
    exact hc_34 x1 x2 x3 s3 _ _ _ (lv_sub hl [0, 1, 2, 3] rfl) hP hS hf
  have hc_18 : ∀ (x1 : Int32) (x2 : Int32) (x3 : Int32) (s1 : SS) (H : Heap) (locs : List Loc) (ls : Array Slot), lv_has ls 5 [(0, .ref (ad 0)), (1, .int x1), (2, .int x2), (3, .int x3)] → va_P D ZCL (zw Om Nm cA ad s1) H → va_S A s.heap H locs → f_X12_meetsBy_c18 x1 x2 x3 s1 = some (rr, sr) → W p l e (zrm 1) s m args below meth c H locs 0 0 (MQ below (zQc Om Nm cA ad D A (some (.int rr)) sr) args s 0 0 A) (F0 m 18 ls []) := by
    intro x1 x2 x3 s1 H locs ls hl hP hS hf
    rw [f_X12_meetsBy_c18] at hf
    refine lv_iload_n hx hb dX12_meetsBy_18 rfl (lv_at hl 3 rfl) ?_
    refine lv_iconst (v := 2) hx hb dX12_meetsBy_19 (by decide) ?_
    refine zicmp_eq (tgt := 28) hx hb dX12_meetsBy_20 (by decide) hf (fun hf => ?_) (fun hf => ?_)
    · exact hc_28 x1 x2 x3 s1 _ _ _ (lv_sub hl [0, 1, 2, 3] rfl) hP hS hf
    · refine lv_iload_n hx hb dX12_meetsBy_23 rfl (lv_at hl 3 rfl) ?_
      refine lv_iconst (v := 4) hx hb dX12_meetsBy_24 (by decide) ?_
      refine zicmp_ne (tgt := 34) hx hb dX12_meetsBy_25 (by decide) hf (fun hf => ?_) (fun hf => ?_)
      · exact hc_34 x1 x2 x3 s1 _ _ _ (lv_sub hl [0, 1, 2, 3] rfl) hP hS hf
      · exact hc_28 x1 x2 x3 s1 _ _ _ (lv_sub hl [0, 1, 2, 3] rfl) hP hS hf
  rw [f_X12_meetsBy] at hf
  refine lv_aload_n hx hb dX12_meetsBy_0 rfl (lv_at hl 0 rfl) ?_
  refine gf_X12_105 X hP (k := 0) (q := 8) rfl dX12_meetsBy_1 rfl ?_
  refine lv_iload_n hx hb dX12_meetsBy_4 rfl (lv_at hl 1 rfl) ?_
  obtain ⟨g1, hf⟩ := zgd hf
  refine zald_i X hP (k := 8) (n := 8) (rs := []) rfl g1 dX12_meetsBy_5 ?_
  refine lv_istore_n (lv' := [(3, .int (s0.1 8 (x1).toNatClampNeg)), (0, .ref (ad 0)), (1, .int x1), (2, .int x2)]) hx hb dX12_meetsBy_6 rfl hl (by decide) rfl (fun ls hl => ?_)
  refine lv_iload_n hx hb dX12_meetsBy_7 rfl (lv_at hl 0 rfl) ?_
  refine lv_iconst (v := 4) hx hb dX12_meetsBy_8 (by decide) ?_
  refine zicmp_ne (tgt := 18) hx hb dX12_meetsBy_9 (by decide) hf (fun hf => ?_) (fun hf => ?_)
  · exact hc_18 x1 x2 (s0.1 8 (x1).toNatClampNeg) s0 _ _ _ (lv_sub hl [1, 2, 3, 0] rfl) hP hS hf
  · refine lv_aload_n hx hb dX12_meetsBy_12 rfl (lv_at hl 1 rfl) ?_
    refine lv_bipush (v := 41) hx hb dX12_meetsBy_13 (by decide) ?_
    obtain ⟨r8, s9, h10, hf⟩ := zbd_some hf
    refine zcallV X hP hS hl.1 (k := 0) (As := [.int 41]) (rest := []) (cn_X12_begins h10) cw_X12_begins zp_12 rfl (by decide) rfl ml_X12_432 (by decide) rfl rfl (Nat.le_of_ble_eq_true rfl) dX12_meetsBy_15 (fun H locs hP hS => ?_)
    exact hc_18 x1 x2 (s0.1 8 (x1).toNatClampNeg) s9 _ _ _ (lv_sub hl [1, 2, 3, 0] rfl) hP hS hf
theorem dX12_turnsBy_0 : decode cX12_turnsBy 0 = .ok (.aload_n 0, 1) := by decide +kernel
theorem dX12_turnsBy_1 : decode cX12_turnsBy 1 = .ok (.getfield 105, 3) := by decide +kernel
theorem dX12_turnsBy_4 : decode cX12_turnsBy 4 = .ok (.iload_n 1, 1) := by decide +kernel
theorem dX12_turnsBy_5 : decode cX12_turnsBy 5 = .ok (.iaload, 1) := by decide +kernel
theorem dX12_turnsBy_6 : decode cX12_turnsBy 6 = .ok (.istore_n 3, 1) := by decide +kernel
theorem dX12_turnsBy_7 : decode cX12_turnsBy 7 = .ok (.iload_n 3, 1) := by decide +kernel
theorem dX12_turnsBy_8 : decode cX12_turnsBy 8 = .ok (.iconst 1, 1) := by decide +kernel
theorem dX12_turnsBy_9 : decode cX12_turnsBy 9 = .ok (.if_icmp .eq 8, 3) := by decide +kernel
theorem dX12_turnsBy_12 : decode cX12_turnsBy 12 = .ok (.iload_n 3, 1) := by decide +kernel
theorem dX12_turnsBy_13 : decode cX12_turnsBy 13 = .ok (.iconst 5, 1) := by decide +kernel
theorem dX12_turnsBy_14 : decode cX12_turnsBy 14 = .ok (.if_icmp .ne 9, 3) := by decide +kernel
theorem dX12_turnsBy_17 : decode cX12_turnsBy 17 = .ok (.aload_n 0, 1) := by decide +kernel
theorem dX12_turnsBy_18 : decode cX12_turnsBy 18 = .ok (.bipush 20, 2) := by decide +kernel
theorem dX12_turnsBy_20 : decode cX12_turnsBy 20 = .ok (.invokevirtual 432, 3) := by decide +kernel
theorem dX12_turnsBy_23 : decode cX12_turnsBy 23 = .ok (.iload_n 3, 1) := by decide +kernel
theorem dX12_turnsBy_24 : decode cX12_turnsBy 24 = .ok (.iconst 3, 1) := by decide +kernel
theorem dX12_turnsBy_25 : decode cX12_turnsBy 25 = .ok (.if_icmp .ne 9, 3) := by decide +kernel
theorem dX12_turnsBy_28 : decode cX12_turnsBy 28 = .ok (.aload_n 0, 1) := by decide +kernel
theorem dX12_turnsBy_29 : decode cX12_turnsBy 29 = .ok (.bipush 50, 2) := by decide +kernel
theorem dX12_turnsBy_31 : decode cX12_turnsBy 31 = .ok (.invokevirtual 432, 3) := by decide +kernel
theorem dX12_turnsBy_34 : decode cX12_turnsBy 34 = .ok (.aload_n 0, 1) := by decide +kernel
theorem dX12_turnsBy_35 : decode cX12_turnsBy 35 = .ok (.bipush 11, 2) := by decide +kernel
theorem dX12_turnsBy_37 : decode cX12_turnsBy 37 = .ok (.invokevirtual 432, 3) := by decide +kernel
theorem dX12_turnsBy_40 : decode cX12_turnsBy 40 = .ok (.aload_n 0, 1) := by decide +kernel
theorem dX12_turnsBy_41 : decode cX12_turnsBy 41 = .ok (.iload_n 1, 1) := by decide +kernel
theorem dX12_turnsBy_42 : decode cX12_turnsBy 42 = .ok (.iload_n 2, 1) := by decide +kernel
theorem dX12_turnsBy_43 : decode cX12_turnsBy 43 = .ok (.invokevirtual 435, 3) := by decide +kernel
theorem dX12_turnsBy_46 : decode cX12_turnsBy 46 = .ok (.iconst 2, 1) := by decide +kernel
theorem dX12_turnsBy_47 : decode cX12_turnsBy 47 = .ok (.imul, 1) := by decide +kernel
theorem dX12_turnsBy_48 : decode cX12_turnsBy 48 = .ok (.istore 4, 2) := by decide +kernel
theorem dX12_turnsBy_50 : decode cX12_turnsBy 50 = .ok (.iload_n 3, 1) := by decide +kernel
theorem dX12_turnsBy_51 : decode cX12_turnsBy 51 = .ok (.iconst 1, 1) := by decide +kernel
theorem dX12_turnsBy_52 : decode cX12_turnsBy 52 = .ok (.if_icmp .eq 8, 3) := by decide +kernel
theorem dX12_turnsBy_55 : decode cX12_turnsBy 55 = .ok (.iload_n 3, 1) := by decide +kernel
theorem dX12_turnsBy_56 : decode cX12_turnsBy 56 = .ok (.iconst 5, 1) := by decide +kernel
theorem dX12_turnsBy_57 : decode cX12_turnsBy 57 = .ok (.if_icmp .ne 8, 3) := by decide +kernel
theorem dX12_turnsBy_60 : decode cX12_turnsBy 60 = .ok (.iload 4, 2) := by decide +kernel
theorem dX12_turnsBy_62 : decode cX12_turnsBy 62 = .ok (.iconst 3, 1) := by decide +kernel
theorem dX12_turnsBy_63 : decode cX12_turnsBy 63 = .ok (.ixor, 1) := by decide +kernel
theorem dX12_turnsBy_64 : decode cX12_turnsBy 64 = .ok (.ireturn, 1) := by decide +kernel
theorem dX12_turnsBy_65 : decode cX12_turnsBy 65 = .ok (.iload_n 3, 1) := by decide +kernel
theorem dX12_turnsBy_66 : decode cX12_turnsBy 66 = .ok (.iconst 3, 1) := by decide +kernel
theorem dX12_turnsBy_67 : decode cX12_turnsBy 67 = .ok (.if_icmp .ne 15, 3) := by decide +kernel
theorem dX12_turnsBy_70 : decode cX12_turnsBy 70 = .ok (.iload 4, 2) := by decide +kernel
theorem dX12_turnsBy_72 : decode cX12_turnsBy 72 = .ok (.aload_n 0, 1) := by decide +kernel
theorem dX12_turnsBy_73 : decode cX12_turnsBy 73 = .ok (.iload_n 1, 1) := by decide +kernel
theorem dX12_turnsBy_74 : decode cX12_turnsBy 74 = .ok (.iconst 2, 1) := by decide +kernel
theorem dX12_turnsBy_75 : decode cX12_turnsBy 75 = .ok (.invokevirtual 435, 3) := by decide +kernel
theorem dX12_turnsBy_78 : decode cX12_turnsBy 78 = .ok (.iadd, 1) := by decide +kernel
theorem dX12_turnsBy_79 : decode cX12_turnsBy 79 = .ok (.goto 5, 3) := by decide +kernel
theorem dX12_turnsBy_82 : decode cX12_turnsBy 82 = .ok (.iload 4, 2) := by decide +kernel
theorem dX12_turnsBy_84 : decode cX12_turnsBy 84 = .ok (.ireturn, 1) := by decide +kernel
set_option maxHeartbeats 4000000 in
set_option maxRecDepth 100000 in
theorem cn_X12_turnsBy {l : Launch} {cA : Nat → ClassId} {ad : Nat → Nat} {D : va_G} {E : Nat → Nat} {A : Nat → Prop} {x1 : Int32} {x2 : Int32} {s0 sr : SS} {rr : Int32} (hf : f_X12_turnsBy x1 x2 s0 = some (rr, sr)) : zCon Om Nm cA ad D E l yX12_turnsBy cX12_turnsBy 5 (some .int) 2 A [.ref (ad 0), .int x1, .int x2] s0 (some (.int rr)) sr := by
  refine zstart (own := RX12) hOm (by decide) rfl (Nat.le_of_ble_eq_true rfl) ?_
  intro p e s m args below meth c X hP ls hl
  have hx := X.1
  have hb := X.2.1
  have hl : lv_has ls 5 [(0, .ref (ad 0)), (1, .int x1), (2, .int x2)] := hl
  have hS : va_S A s.heap s.heap [] := va_S.rf
  have hc_34 : ∀ (x1 : Int32) (x2 : Int32) (x3 : Int32) (s1 : SS) (H : Heap) (locs : List Loc) (ls : Array Slot), lv_has ls 5 [(0, .ref (ad 0)), (1, .int x1), (2, .int x2), (3, .int x3)] → va_P D ZCL (zw Om Nm cA ad s1) H → va_S A s.heap H locs → f_X12_turnsBy_c34 x1 x2 x3 s1 = some (rr, sr) → W p l e (zrm 2) s m args below meth c H locs 0 0 (MQ below (zQc Om Nm cA ad D A (some (.int rr)) sr) args s 0 0 A) (F0 m 34 ls []) := by
    intro x1 x2 x3 s1 H locs ls hl hP hS hf
    rw [f_X12_turnsBy_c34] at hf
    refine lv_aload_n hx hb dX12_turnsBy_34 rfl (lv_at hl 0 rfl) ?_
    refine lv_bipush (v := 11) hx hb dX12_turnsBy_35 (by decide) ?_
    obtain ⟨r5, s6, h7, hf⟩ := zbd_some hf
    refine zcallV X hP hS hl.1 (k := 0) (As := [.int 11]) (rest := []) (cn_X12_begins h7) cw_X12_begins zp_12 rfl (by decide) rfl ml_X12_432 (by decide) rfl rfl (Nat.le_of_ble_eq_true rfl) dX12_turnsBy_37 (fun H locs hP hS => ?_)
    refine lv_aload_n hx hb dX12_turnsBy_40 rfl (lv_at hl 0 rfl) ?_
    refine lv_iload_n hx hb dX12_turnsBy_41 rfl (lv_at hl 1 rfl) ?_
    refine lv_iload_n hx hb dX12_turnsBy_42 rfl (lv_at hl 2 rfl) ?_
    obtain ⟨r8, s9, h10, hf⟩ := zbd_some hf
    refine zcallV X hP hS hl.1 (k := 0) (As := [.int x1, .int x2]) (rest := []) (cn_X12_meetsBy h10) cw_X12_meetsBy zp_12 rfl (by decide) rfl ml_X12_435 (by decide) rfl rfl (Nat.le_of_ble_eq_true rfl) dX12_turnsBy_43 (fun H locs hP hS => ?_)
    refine lv_iconst (v := 2) hx hb dX12_turnsBy_46 (by decide) ?_
    refine lv_imul hx hb dX12_turnsBy_47 ?_
    refine lv_istore (lv' := [(4, .int (r8 * (2 : Int32))), (0, .ref (ad 0)), (1, .int x1), (2, .int x2), (3, .int x3)]) hx hb dX12_turnsBy_48 hl (by decide) rfl (fun ls hl => ?_)
    refine lv_iload_n hx hb dX12_turnsBy_50 rfl (lv_at hl 4 rfl) ?_
    refine lv_iconst (v := 1) hx hb dX12_turnsBy_51 (by decide) ?_
    refine zicmp_eq (tgt := 60) hx hb dX12_turnsBy_52 (by decide) hf (fun hf => ?_) (fun hf => ?_)
    · refine lv_iload hx hb dX12_turnsBy_60 (lv_at hl 0 rfl) ?_
      refine lv_iconst (v := 3) hx hb dX12_turnsBy_62 (by decide) ?_
      refine lv_ixor hx hb dX12_turnsBy_63 ?_
      exact zret_i X hP hS hf rfl dX12_turnsBy_64
    · refine lv_iload_n hx hb dX12_turnsBy_55 rfl (lv_at hl 4 rfl) ?_
      refine lv_iconst (v := 5) hx hb dX12_turnsBy_56 (by decide) ?_
      refine zicmp_ne (tgt := 65) hx hb dX12_turnsBy_57 (by decide) hf (fun hf => ?_) (fun hf => ?_)
      · refine lv_iload_n hx hb dX12_turnsBy_65 rfl (lv_at hl 4 rfl) ?_
        refine lv_iconst (v := 3) hx hb dX12_turnsBy_66 (by decide) ?_
        refine zicmp_ne (tgt := 82) hx hb dX12_turnsBy_67 (by decide) hf (fun hf => ?_) (fun hf => ?_)
        · refine lv_iload hx hb dX12_turnsBy_82 (lv_at hl 0 rfl) ?_
          exact zret_i X hP hS hf rfl dX12_turnsBy_84
        · refine lv_iload hx hb dX12_turnsBy_70 (lv_at hl 0 rfl) ?_
          refine lv_aload_n hx hb dX12_turnsBy_72 rfl (lv_at hl 1 rfl) ?_
          refine lv_iload_n hx hb dX12_turnsBy_73 rfl (lv_at hl 2 rfl) ?_
          refine lv_iconst (v := 2) hx hb dX12_turnsBy_74 (by decide) ?_
          obtain ⟨r11, s12, h13, hf⟩ := zbd_some hf
          refine zcallV X hP hS hl.1 (k := 0) (As := [.int x1, .int 2]) (rest := [.int (r8 * (2 : Int32))]) (cn_X12_meetsBy h13) cw_X12_meetsBy zp_12 rfl (by decide) rfl ml_X12_435 (by decide) rfl rfl (Nat.le_of_ble_eq_true rfl) dX12_turnsBy_75 (fun H locs hP hS => ?_)
          refine lv_iadd hx hb dX12_turnsBy_78 ?_
          refine lv_goto (tgt := 84) hx hb dX12_turnsBy_79 (by decide) ?_
          exact zret_i X hP hS hf rfl dX12_turnsBy_84
      · refine lv_iload hx hb dX12_turnsBy_60 (lv_at hl 0 rfl) ?_
        refine lv_iconst (v := 3) hx hb dX12_turnsBy_62 (by decide) ?_
        refine lv_ixor hx hb dX12_turnsBy_63 ?_
        exact zret_i X hP hS hf rfl dX12_turnsBy_64
  have hc_23 : ∀ (x1 : Int32) (x2 : Int32) (x3 : Int32) (s1 : SS) (H : Heap) (locs : List Loc) (ls : Array Slot), lv_has ls 5 [(0, .ref (ad 0)), (1, .int x1), (2, .int x2), (3, .int x3)] → va_P D ZCL (zw Om Nm cA ad s1) H → va_S A s.heap H locs → f_X12_turnsBy_c23 x1 x2 x3 s1 = some (rr, sr) → W p l e (zrm 2) s m args below meth c H locs 0 0 (MQ below (zQc Om Nm cA ad D A (some (.int rr)) sr) args s 0 0 A) (F0 m 23 ls []) := by
    intro x1 x2 x3 s1 H locs ls hl hP hS hf
    rw [f_X12_turnsBy_c23] at hf
    refine lv_iload_n hx hb dX12_turnsBy_23 rfl (lv_at hl 3 rfl) ?_
    refine lv_iconst (v := 3) hx hb dX12_turnsBy_24 (by decide) ?_
    refine zicmp_ne (tgt := 34) hx hb dX12_turnsBy_25 (by decide) hf (fun hf => ?_) (fun hf => ?_)
    · exact hc_34 x1 x2 x3 s1 _ _ _ (lv_sub hl [0, 1, 2, 3] rfl) hP hS hf
    · refine lv_aload_n hx hb dX12_turnsBy_28 rfl (lv_at hl 0 rfl) ?_
      refine lv_bipush (v := 50) hx hb dX12_turnsBy_29 (by decide) ?_
      obtain ⟨r14, s15, h16, hf⟩ := zbd_some hf
      refine zcallV X hP hS hl.1 (k := 0) (As := [.int 50]) (rest := []) (cn_X12_begins h16) cw_X12_begins zp_12 rfl (by decide) rfl ml_X12_432 (by decide) rfl rfl (Nat.le_of_ble_eq_true rfl) dX12_turnsBy_31 (fun H locs hP hS => ?_)
      exact hc_34 x1 x2 x3 s15 _ _ _ (lv_sub hl [0, 1, 2, 3] rfl) hP hS hf
  have hc_17 : ∀ (x1 : Int32) (x2 : Int32) (x3 : Int32) (s1 : SS) (H : Heap) (locs : List Loc) (ls : Array Slot), lv_has ls 5 [(0, .ref (ad 0)), (1, .int x1), (2, .int x2), (3, .int x3)] → va_P D ZCL (zw Om Nm cA ad s1) H → va_S A s.heap H locs → f_X12_turnsBy_c17 x1 x2 x3 s1 = some (rr, sr) → W p l e (zrm 2) s m args below meth c H locs 0 0 (MQ below (zQc Om Nm cA ad D A (some (.int rr)) sr) args s 0 0 A) (F0 m 17 ls []) := by
    intro x1 x2 x3 s1 H locs ls hl hP hS hf
    rw [f_X12_turnsBy_c17] at hf
    refine lv_aload_n hx hb dX12_turnsBy_17 rfl (lv_at hl 0 rfl) ?_
    refine lv_bipush (v := 20) hx hb dX12_turnsBy_18 (by decide) ?_
    obtain ⟨r2, s3, h4, hf⟩ := zbd_some hf
    refine zcallV X hP hS hl.1 (k := 0) (As := [.int 20]) (rest := []) (cn_X12_begins h4) cw_X12_begins zp_12 rfl (by decide) rfl ml_X12_432 (by decide) rfl rfl (Nat.le_of_ble_eq_true rfl) dX12_turnsBy_20 (fun H locs hP hS => ?_)
    exact hc_23 x1 x2 x3 s3 _ _ _ (lv_sub hl [0, 1, 2, 3] rfl) hP hS hf
  rw [f_X12_turnsBy] at hf
  refine lv_aload_n hx hb dX12_turnsBy_0 rfl (lv_at hl 0 rfl) ?_
  refine gf_X12_105 X hP (k := 0) (q := 8) rfl dX12_turnsBy_1 rfl ?_
  refine lv_iload_n hx hb dX12_turnsBy_4 rfl (lv_at hl 1 rfl) ?_
  obtain ⟨g1, hf⟩ := zgd hf
  refine zald_i X hP (k := 8) (n := 8) (rs := []) rfl g1 dX12_turnsBy_5 ?_
  refine lv_istore_n (lv' := [(3, .int (s0.1 8 (x1).toNatClampNeg)), (0, .ref (ad 0)), (1, .int x1), (2, .int x2)]) hx hb dX12_turnsBy_6 rfl hl (by decide) rfl (fun ls hl => ?_)
  refine lv_iload_n hx hb dX12_turnsBy_7 rfl (lv_at hl 0 rfl) ?_
  refine lv_iconst (v := 1) hx hb dX12_turnsBy_8 (by decide) ?_
  refine zicmp_eq (tgt := 17) hx hb dX12_turnsBy_9 (by decide) hf (fun hf => ?_) (fun hf => ?_)
  · exact hc_17 x1 x2 (s0.1 8 (x1).toNatClampNeg) s0 _ _ _ (lv_sub hl [1, 2, 3, 0] rfl) hP hS hf
  · refine lv_iload_n hx hb dX12_turnsBy_12 rfl (lv_at hl 0 rfl) ?_
    refine lv_iconst (v := 5) hx hb dX12_turnsBy_13 (by decide) ?_
    refine zicmp_ne (tgt := 23) hx hb dX12_turnsBy_14 (by decide) hf (fun hf => ?_) (fun hf => ?_)
    · exact hc_23 x1 x2 (s0.1 8 (x1).toNatClampNeg) s0 _ _ _ (lv_sub hl [1, 2, 3, 0] rfl) hP hS hf
    · exact hc_17 x1 x2 (s0.1 8 (x1).toNatClampNeg) s0 _ _ _ (lv_sub hl [1, 2, 3, 0] rfl) hP hS hf
theorem dX12_tellsBy_0 : decode cX12_tellsBy 0 = .ok (.aload_n 0, 1) := by decide +kernel
theorem dX12_tellsBy_1 : decode cX12_tellsBy 1 = .ok (.getfield 105, 3) := by decide +kernel
theorem dX12_tellsBy_4 : decode cX12_tellsBy 4 = .ok (.iload_n 1, 1) := by decide +kernel
theorem dX12_tellsBy_5 : decode cX12_tellsBy 5 = .ok (.iaload, 1) := by decide +kernel
theorem dX12_tellsBy_6 : decode cX12_tellsBy 6 = .ok (.istore_n 3, 1) := by decide +kernel
theorem dX12_tellsBy_7 : decode cX12_tellsBy 7 = .ok (.iload_n 3, 1) := by decide +kernel
theorem dX12_tellsBy_8 : decode cX12_tellsBy 8 = .ok (.iconst 4, 1) := by decide +kernel
theorem dX12_tellsBy_9 : decode cX12_tellsBy 9 = .ok (.if_icmp .ne 9, 3) := by decide +kernel
theorem dX12_tellsBy_12 : decode cX12_tellsBy 12 = .ok (.aload_n 0, 1) := by decide +kernel
theorem dX12_tellsBy_13 : decode cX12_tellsBy 13 = .ok (.bipush 40, 2) := by decide +kernel
theorem dX12_tellsBy_15 : decode cX12_tellsBy 15 = .ok (.invokevirtual 432, 3) := by decide +kernel
theorem dX12_tellsBy_18 : decode cX12_tellsBy 18 = .ok (.iload_n 3, 1) := by decide +kernel
theorem dX12_tellsBy_19 : decode cX12_tellsBy 19 = .ok (.iconst 5, 1) := by decide +kernel
theorem dX12_tellsBy_20 : decode cX12_tellsBy 20 = .ok (.if_icmp .ne 9, 3) := by decide +kernel
theorem dX12_tellsBy_23 : decode cX12_tellsBy 23 = .ok (.aload_n 0, 1) := by decide +kernel
theorem dX12_tellsBy_24 : decode cX12_tellsBy 24 = .ok (.bipush 60, 2) := by decide +kernel
theorem dX12_tellsBy_26 : decode cX12_tellsBy 26 = .ok (.invokevirtual 432, 3) := by decide +kernel
theorem dX12_tellsBy_29 : decode cX12_tellsBy 29 = .ok (.aload_n 0, 1) := by decide +kernel
theorem dX12_tellsBy_30 : decode cX12_tellsBy 30 = .ok (.bipush 12, 2) := by decide +kernel
theorem dX12_tellsBy_32 : decode cX12_tellsBy 32 = .ok (.invokevirtual 432, 3) := by decide +kernel
theorem dX12_tellsBy_35 : decode cX12_tellsBy 35 = .ok (.aload_n 0, 1) := by decide +kernel
theorem dX12_tellsBy_36 : decode cX12_tellsBy 36 = .ok (.iload_n 1, 1) := by decide +kernel
theorem dX12_tellsBy_37 : decode cX12_tellsBy 37 = .ok (.iload_n 3, 1) := by decide +kernel
theorem dX12_tellsBy_38 : decode cX12_tellsBy 38 = .ok (.iconst 4, 1) := by decide +kernel
theorem dX12_tellsBy_39 : decode cX12_tellsBy 39 = .ok (.if_icmp .ne 9, 3) := by decide +kernel
theorem dX12_tellsBy_42 : decode cX12_tellsBy 42 = .ok (.iload_n 2, 1) := by decide +kernel
theorem dX12_tellsBy_43 : decode cX12_tellsBy 43 = .ok (.iconst 1, 1) := by decide +kernel
theorem dX12_tellsBy_44 : decode cX12_tellsBy 44 = .ok (.iadd, 1) := by decide +kernel
theorem dX12_tellsBy_45 : decode cX12_tellsBy 45 = .ok (.goto 4, 3) := by decide +kernel
theorem dX12_tellsBy_48 : decode cX12_tellsBy 48 = .ok (.iload_n 2, 1) := by decide +kernel
theorem dX12_tellsBy_49 : decode cX12_tellsBy 49 = .ok (.invokevirtual 438, 3) := by decide +kernel
theorem dX12_tellsBy_52 : decode cX12_tellsBy 52 = .ok (.aload_n 0, 1) := by decide +kernel
theorem dX12_tellsBy_53 : decode cX12_tellsBy 53 = .ok (.getfield 108, 3) := by decide +kernel
theorem dX12_tellsBy_56 : decode cX12_tellsBy 56 = .ok (.iload_n 1, 1) := by decide +kernel
theorem dX12_tellsBy_57 : decode cX12_tellsBy 57 = .ok (.iaload, 1) := by decide +kernel
theorem dX12_tellsBy_58 : decode cX12_tellsBy 58 = .ok (.isub, 1) := by decide +kernel
theorem dX12_tellsBy_59 : decode cX12_tellsBy 59 = .ok (.istore 4, 2) := by decide +kernel
theorem dX12_tellsBy_61 : decode cX12_tellsBy 61 = .ok (.iload_n 3, 1) := by decide +kernel
theorem dX12_tellsBy_62 : decode cX12_tellsBy 62 = .ok (.iconst 5, 1) := by decide +kernel
theorem dX12_tellsBy_63 : decode cX12_tellsBy 63 = .ok (.if_icmp .ne 15, 3) := by decide +kernel
theorem dX12_tellsBy_66 : decode cX12_tellsBy 66 = .ok (.iload 4, 2) := by decide +kernel
theorem dX12_tellsBy_68 : decode cX12_tellsBy 68 = .ok (.aload_n 0, 1) := by decide +kernel
theorem dX12_tellsBy_69 : decode cX12_tellsBy 69 = .ok (.getfield 108, 3) := by decide +kernel
theorem dX12_tellsBy_72 : decode cX12_tellsBy 72 = .ok (.iload_n 1, 1) := by decide +kernel
theorem dX12_tellsBy_73 : decode cX12_tellsBy 73 = .ok (.iaload, 1) := by decide +kernel
theorem dX12_tellsBy_74 : decode cX12_tellsBy 74 = .ok (.ixor, 1) := by decide +kernel
theorem dX12_tellsBy_75 : decode cX12_tellsBy 75 = .ok (.goto 5, 3) := by decide +kernel
theorem dX12_tellsBy_78 : decode cX12_tellsBy 78 = .ok (.iload 4, 2) := by decide +kernel
theorem dX12_tellsBy_80 : decode cX12_tellsBy 80 = .ok (.ireturn, 1) := by decide +kernel
set_option maxHeartbeats 4000000 in
set_option maxRecDepth 100000 in
theorem cn_X12_tellsBy {l : Launch} {cA : Nat → ClassId} {ad : Nat → Nat} {D : va_G} {E : Nat → Nat} {A : Nat → Prop} {x1 : Int32} {x2 : Int32} {s0 sr : SS} {rr : Int32} (hf : f_X12_tellsBy x1 x2 s0 = some (rr, sr)) : zCon Om Nm cA ad D E l yX12_tellsBy cX12_tellsBy 5 (some .int) 3 A [.ref (ad 0), .int x1, .int x2] s0 (some (.int rr)) sr := by
  refine zstart (own := RX12) hOm (by decide) rfl (Nat.le_of_ble_eq_true rfl) ?_
  intro p e s m args below meth c X hP ls hl
  have hx := X.1
  have hb := X.2.1
  have hl : lv_has ls 5 [(0, .ref (ad 0)), (1, .int x1), (2, .int x2)] := hl
  have hS : va_S A s.heap s.heap [] := va_S.rf
  have hc_49 : ∀ (x1 : Int32) (x3 : Int32) (t0 : Int32) (t1 : Int32) (s1 : SS) (H : Heap) (locs : List Loc) (ls : Array Slot), lv_has ls 5 [(0, .ref (ad 0)), (1, .int x1), (3, .int x3)] → va_P D ZCL (zw Om Nm cA ad s1) H → va_S A s.heap H locs → f_X12_tellsBy_c49 x1 x3 t0 t1 s1 = some (rr, sr) → W p l e (zrm 3) s m args below meth c H locs 0 0 (MQ below (zQc Om Nm cA ad D A (some (.int rr)) sr) args s 0 0 A) (F0 m 49 ls [.int t0, .int t1, .ref (ad 0)]) := by
    intro x1 x3 t0 t1 s1 H locs ls hl hP hS hf
    rw [f_X12_tellsBy_c49] at hf
    obtain ⟨r5, s6, h7, hf⟩ := zbd_some hf
    refine zcallV X hP hS hl.1 (k := 0) (As := [.int t1, .int t0]) (rest := []) (cn_X12_turnsBy h7) cw_X12_turnsBy zp_12 rfl (by decide) rfl ml_X12_438 (by decide) rfl rfl (Nat.le_of_ble_eq_true rfl) dX12_tellsBy_49 (fun H locs hP hS => ?_)
    refine lv_aload_n hx hb dX12_tellsBy_52 rfl (lv_at hl 0 rfl) ?_
    refine gf_X12_108 X hP (k := 0) (q := 9) rfl dX12_tellsBy_53 rfl ?_
    refine lv_iload_n hx hb dX12_tellsBy_56 rfl (lv_at hl 1 rfl) ?_
    obtain ⟨g8, hf⟩ := zgd hf
    refine zald_i X hP (k := 9) (n := 8) (rs := []) rfl g8 dX12_tellsBy_57 ?_
    refine lv_isub hx hb dX12_tellsBy_58 ?_
    refine lv_istore (lv' := [(4, .int (r5 - (s6.1 9 (x1).toNatClampNeg))), (0, .ref (ad 0)), (1, .int x1), (3, .int x3)]) hx hb dX12_tellsBy_59 hl (by decide) rfl (fun ls hl => ?_)
    refine lv_iload_n hx hb dX12_tellsBy_61 rfl (lv_at hl 3 rfl) ?_
    refine lv_iconst (v := 5) hx hb dX12_tellsBy_62 (by decide) ?_
    refine zicmp_ne (tgt := 78) hx hb dX12_tellsBy_63 (by decide) hf (fun hf => ?_) (fun hf => ?_)
    · refine lv_iload hx hb dX12_tellsBy_78 (lv_at hl 0 rfl) ?_
      exact zret_i X hP hS hf rfl dX12_tellsBy_80
    · refine lv_iload hx hb dX12_tellsBy_66 (lv_at hl 0 rfl) ?_
      refine lv_aload_n hx hb dX12_tellsBy_68 rfl (lv_at hl 1 rfl) ?_
      refine gf_X12_108 X hP (k := 0) (q := 9) rfl dX12_tellsBy_69 rfl ?_
      refine lv_iload_n hx hb dX12_tellsBy_72 rfl (lv_at hl 2 rfl) ?_
      obtain ⟨g9, hf⟩ := zgd hf
      refine zald_i X hP (k := 9) (n := 8) (rs := []) rfl g9 dX12_tellsBy_73 ?_
      refine lv_ixor hx hb dX12_tellsBy_74 ?_
      refine lv_goto (tgt := 80) hx hb dX12_tellsBy_75 (by decide) ?_
      exact zret_i X hP hS hf rfl dX12_tellsBy_80
  have hc_29 : ∀ (x1 : Int32) (x2 : Int32) (x3 : Int32) (s1 : SS) (H : Heap) (locs : List Loc) (ls : Array Slot), lv_has ls 5 [(0, .ref (ad 0)), (1, .int x1), (2, .int x2), (3, .int x3)] → va_P D ZCL (zw Om Nm cA ad s1) H → va_S A s.heap H locs → f_X12_tellsBy_c29 x1 x2 x3 s1 = some (rr, sr) → W p l e (zrm 3) s m args below meth c H locs 0 0 (MQ below (zQc Om Nm cA ad D A (some (.int rr)) sr) args s 0 0 A) (F0 m 29 ls []) := by
    intro x1 x2 x3 s1 H locs ls hl hP hS hf
    rw [f_X12_tellsBy_c29] at hf
    refine lv_aload_n hx hb dX12_tellsBy_29 rfl (lv_at hl 0 rfl) ?_
    refine lv_bipush (v := 12) hx hb dX12_tellsBy_30 (by decide) ?_
    obtain ⟨r2, s3, h4, hf⟩ := zbd_some hf
    refine zcallV X hP hS hl.1 (k := 0) (As := [.int 12]) (rest := []) (cn_X12_begins h4) cw_X12_begins zp_12 rfl (by decide) rfl ml_X12_432 (by decide) rfl rfl (Nat.le_of_ble_eq_true rfl) dX12_tellsBy_32 (fun H locs hP hS => ?_)
    refine lv_aload_n hx hb dX12_tellsBy_35 rfl (lv_at hl 0 rfl) ?_
    refine lv_iload_n hx hb dX12_tellsBy_36 rfl (lv_at hl 1 rfl) ?_
    refine lv_iload_n hx hb dX12_tellsBy_37 rfl (lv_at hl 3 rfl) ?_
    refine lv_iconst (v := 4) hx hb dX12_tellsBy_38 (by decide) ?_
    refine zicmp_ne (tgt := 48) hx hb dX12_tellsBy_39 (by decide) hf (fun hf => ?_) (fun hf => ?_)
    · refine lv_iload_n hx hb dX12_tellsBy_48 rfl (lv_at hl 2 rfl) ?_
      exact hc_49 x1 x3 x2 x1 s3 _ _ _ (lv_sub hl [0, 1, 3] rfl) hP hS hf
    · refine lv_iload_n hx hb dX12_tellsBy_42 rfl (lv_at hl 2 rfl) ?_
      refine lv_iconst (v := 1) hx hb dX12_tellsBy_43 (by decide) ?_
      refine lv_iadd hx hb dX12_tellsBy_44 ?_
      refine lv_goto (tgt := 49) hx hb dX12_tellsBy_45 (by decide) ?_
      exact hc_49 x1 x3 (x2 + (1 : Int32)) x1 s3 _ _ _ (lv_sub hl [0, 1, 3] rfl) hP hS hf
  have hc_18 : ∀ (x1 : Int32) (x2 : Int32) (x3 : Int32) (s1 : SS) (H : Heap) (locs : List Loc) (ls : Array Slot), lv_has ls 5 [(0, .ref (ad 0)), (1, .int x1), (2, .int x2), (3, .int x3)] → va_P D ZCL (zw Om Nm cA ad s1) H → va_S A s.heap H locs → f_X12_tellsBy_c18 x1 x2 x3 s1 = some (rr, sr) → W p l e (zrm 3) s m args below meth c H locs 0 0 (MQ below (zQc Om Nm cA ad D A (some (.int rr)) sr) args s 0 0 A) (F0 m 18 ls []) := by
    intro x1 x2 x3 s1 H locs ls hl hP hS hf
    rw [f_X12_tellsBy_c18] at hf
    refine lv_iload_n hx hb dX12_tellsBy_18 rfl (lv_at hl 3 rfl) ?_
    refine lv_iconst (v := 5) hx hb dX12_tellsBy_19 (by decide) ?_
    refine zicmp_ne (tgt := 29) hx hb dX12_tellsBy_20 (by decide) hf (fun hf => ?_) (fun hf => ?_)
    · exact hc_29 x1 x2 x3 s1 _ _ _ (lv_sub hl [0, 1, 2, 3] rfl) hP hS hf
    · refine lv_aload_n hx hb dX12_tellsBy_23 rfl (lv_at hl 0 rfl) ?_
      refine lv_bipush (v := 60) hx hb dX12_tellsBy_24 (by decide) ?_
      obtain ⟨r10, s11, h12, hf⟩ := zbd_some hf
      refine zcallV X hP hS hl.1 (k := 0) (As := [.int 60]) (rest := []) (cn_X12_begins h12) cw_X12_begins zp_12 rfl (by decide) rfl ml_X12_432 (by decide) rfl rfl (Nat.le_of_ble_eq_true rfl) dX12_tellsBy_26 (fun H locs hP hS => ?_)
      exact hc_29 x1 x2 x3 s11 _ _ _ (lv_sub hl [0, 1, 2, 3] rfl) hP hS hf
  rw [f_X12_tellsBy] at hf
  refine lv_aload_n hx hb dX12_tellsBy_0 rfl (lv_at hl 0 rfl) ?_
  refine gf_X12_105 X hP (k := 0) (q := 8) rfl dX12_tellsBy_1 rfl ?_
  refine lv_iload_n hx hb dX12_tellsBy_4 rfl (lv_at hl 1 rfl) ?_
  obtain ⟨g1, hf⟩ := zgd hf
  refine zald_i X hP (k := 8) (n := 8) (rs := []) rfl g1 dX12_tellsBy_5 ?_
  refine lv_istore_n (lv' := [(3, .int (s0.1 8 (x1).toNatClampNeg)), (0, .ref (ad 0)), (1, .int x1), (2, .int x2)]) hx hb dX12_tellsBy_6 rfl hl (by decide) rfl (fun ls hl => ?_)
  refine lv_iload_n hx hb dX12_tellsBy_7 rfl (lv_at hl 0 rfl) ?_
  refine lv_iconst (v := 4) hx hb dX12_tellsBy_8 (by decide) ?_
  refine zicmp_ne (tgt := 18) hx hb dX12_tellsBy_9 (by decide) hf (fun hf => ?_) (fun hf => ?_)
  · exact hc_18 x1 x2 (s0.1 8 (x1).toNatClampNeg) s0 _ _ _ (lv_sub hl [1, 2, 3, 0] rfl) hP hS hf
  · refine lv_aload_n hx hb dX12_tellsBy_12 rfl (lv_at hl 1 rfl) ?_
    refine lv_bipush (v := 40) hx hb dX12_tellsBy_13 (by decide) ?_
    obtain ⟨r13, s14, h15, hf⟩ := zbd_some hf
    refine zcallV X hP hS hl.1 (k := 0) (As := [.int 40]) (rest := []) (cn_X12_begins h15) cw_X12_begins zp_12 rfl (by decide) rfl ml_X12_432 (by decide) rfl rfl (Nat.le_of_ble_eq_true rfl) dX12_tellsBy_15 (fun H locs hP hS => ?_)
    exact hc_18 x1 x2 (s0.1 8 (x1).toNatClampNeg) s14 _ _ _ (lv_sub hl [1, 2, 3, 0] rfl) hP hS hf
theorem dX12_act_0 : decode cX12_act 0 = .ok (.aload_n 0, 1) := by decide +kernel
theorem dX12_act_1 : decode cX12_act 1 = .ok (.iload_n 1, 1) := by decide +kernel
theorem dX12_act_2 : decode cX12_act 2 = .ok (.i2l, 1) := by decide +kernel
theorem dX12_act_3 : decode cX12_act 3 = .ok (.invokevirtual 245, 3) := by decide +kernel
theorem dX12_act_6 : decode cX12_act 6 = .ok (.ifCond .eq 15, 3) := by decide +kernel
theorem dX12_act_9 : decode cX12_act 9 = .ok (.iload_n 2, 1) := by decide +kernel
theorem dX12_act_10 : decode cX12_act 10 = .ok (.i2l, 1) := by decide +kernel
theorem dX12_act_11 : decode cX12_act 11 = .ok (.lconst 0, 1) := by decide +kernel
theorem dX12_act_12 : decode cX12_act 12 = .ok (.ldc2_w 35, 3) := by decide +kernel
theorem dX12_act_15 : decode cX12_act 15 = .ok (.invokestatic 203, 3) := by decide +kernel
theorem dX12_act_18 : decode cX12_act 18 = .ok (.ifCond .ne 5, 3) := by decide +kernel
theorem dX12_act_21 : decode cX12_act 21 = .ok (.iconst 0, 1) := by decide +kernel
theorem dX12_act_22 : decode cX12_act 22 = .ok (.ireturn, 1) := by decide +kernel
theorem dX12_act_23 : decode cX12_act 23 = .ok (.aload_n 0, 1) := by decide +kernel
theorem dX12_act_24 : decode cX12_act 24 = .ok (.iconst 0, 1) := by decide +kernel
theorem dX12_act_25 : decode cX12_act 25 = .ok (.putfield 429, 3) := by decide +kernel
theorem dX12_act_28 : decode cX12_act 28 = .ok (.iload_n 2, 1) := by decide +kernel
theorem dX12_act_29 : decode cX12_act 29 = .ok (.ifCond .ne 12, 3) := by decide +kernel
theorem dX12_act_32 : decode cX12_act 32 = .ok (.aload_n 0, 1) := by decide +kernel
theorem dX12_act_33 : decode cX12_act 33 = .ok (.iload_n 1, 1) := by decide +kernel
theorem dX12_act_34 : decode cX12_act 34 = .ok (.iload_n 3, 1) := by decide +kernel
theorem dX12_act_35 : decode cX12_act 35 = .ok (.invokevirtual 435, 3) := by decide +kernel
theorem dX12_act_38 : decode cX12_act 38 = .ok (.goto 23, 3) := by decide +kernel
theorem dX12_act_41 : decode cX12_act 41 = .ok (.iload_n 2, 1) := by decide +kernel
theorem dX12_act_42 : decode cX12_act 42 = .ok (.iconst 1, 1) := by decide +kernel
theorem dX12_act_43 : decode cX12_act 43 = .ok (.if_icmp .ne 12, 3) := by decide +kernel
theorem dX12_act_46 : decode cX12_act 46 = .ok (.aload_n 0, 1) := by decide +kernel
theorem dX12_act_47 : decode cX12_act 47 = .ok (.iload_n 1, 1) := by decide +kernel
theorem dX12_act_48 : decode cX12_act 48 = .ok (.iload_n 3, 1) := by decide +kernel
theorem dX12_act_49 : decode cX12_act 49 = .ok (.invokevirtual 438, 3) := by decide +kernel
theorem dX12_act_52 : decode cX12_act 52 = .ok (.goto 9, 3) := by decide +kernel
theorem dX12_act_55 : decode cX12_act 55 = .ok (.aload_n 0, 1) := by decide +kernel
theorem dX12_act_56 : decode cX12_act 56 = .ok (.iload_n 1, 1) := by decide +kernel
theorem dX12_act_57 : decode cX12_act 57 = .ok (.iload_n 3, 1) := by decide +kernel
theorem dX12_act_58 : decode cX12_act 58 = .ok (.invokevirtual 441, 3) := by decide +kernel
theorem dX12_act_61 : decode cX12_act 61 = .ok (.ireturn, 1) := by decide +kernel
set_option maxHeartbeats 4000000 in
set_option maxRecDepth 100000 in
theorem cn_X12_act {l : Launch} {cA : Nat → ClassId} {ad : Nat → Nat} {D : va_G} {E : Nat → Nat} {A : Nat → Prop} {x1 : Int32} {x2 : Int32} {x3 : Int32} {s0 sr : SS} {rr : Int32} (hf : f_X12_act x1 x2 x3 s0 = some (rr, sr)) : zCon Om Nm cA ad D E l yX12_act cX12_act 4 (some .int) 4 A [.ref (ad 0), .int x1, .int x2, .int x3] s0 (some (.int rr)) sr := by
  refine zstart (own := RX12) hOm (by decide) rfl (Nat.le_of_ble_eq_true rfl) ?_
  intro p e s m args below meth c X hP ls hl
  have hx := X.1
  have hb := X.2.1
  have hl : lv_has ls 4 [(0, .ref (ad 0)), (1, .int x1), (2, .int x2), (3, .int x3)] := hl
  have hS : va_S A s.heap s.heap [] := va_S.rf
  rw [f_X12_act] at hf
  refine lv_aload_n hx hb dX12_act_0 rfl (lv_at hl 0 rfl) ?_
  refine lv_iload_n hx hb dX12_act_1 rfl (lv_at hl 1 rfl) ?_
  refine lv_i2l hx hb dX12_act_2 rfl ?_
  obtain ⟨r1, s2, h3, hf⟩ := zbd_some hf
  refine zcallV X hP hS hl.1 (k := 0) (As := [.long (x1).toInt64]) (rest := []) (cn_X12_isClass h3) cw_X12_isClass zp_12 rfl (by decide) rfl ml_X12_245 (by decide) rfl rfl (Nat.le_of_ble_eq_true rfl) dX12_act_3 (fun H locs hP hS => ?_)
  refine zif_eq (tgt := 21) hx hb dX12_act_6 (by decide) hf (fun hf => ?_) (fun hf => ?_)
  · refine lv_iconst (v := 0) hx hb dX12_act_21 (by decide) ?_
    exact zret_i X hP hS hf rfl dX12_act_22
  · refine lv_iload_n hx hb dX12_act_9 rfl (lv_at hl 2 rfl) ?_
    refine lv_i2l hx hb dX12_act_10 rfl ?_
    refine lv_lconst (v := 0) hx hb dX12_act_11 (by decide) ?_
    refine zldc2 X co_X12_35 dX12_act_12 ?_
    obtain ⟨r4, s5, h6, hf⟩ := zbd_some hf
    refine zcallS X hP hS hl.1 (As := [.long (x2).toInt64, .long 0, .long 2]) (rest := []) (cn_X12_in h6) cw_X12_in ml_X12_203 (by decide) rfl rfl (Nat.le_of_ble_eq_true rfl) dX12_act_15 (fun H locs hP hS => ?_)
    refine zif_ne (tgt := 23) hx hb dX12_act_18 (by decide) hf (fun hf => ?_) (fun hf => ?_)
    · refine lv_aload_n hx hb dX12_act_23 rfl (lv_at hl 0 rfl) ?_
      refine lv_iconst (v := 0) hx hb dX12_act_24 (by decide) ?_
      refine pf_X12_429 X hP hS (k := 0) rfl dX12_act_25 (fun H locs hP hS => ?_)
      refine lv_iload_n hx hb dX12_act_28 rfl (lv_at hl 2 rfl) ?_
      refine zif_ne (tgt := 41) hx hb dX12_act_29 (by decide) hf (fun hf => ?_) (fun hf => ?_)
      · refine lv_iload_n hx hb dX12_act_41 rfl (lv_at hl 2 rfl) ?_
        refine lv_iconst (v := 1) hx hb dX12_act_42 (by decide) ?_
        refine zicmp_ne (tgt := 55) hx hb dX12_act_43 (by decide) hf (fun hf => ?_) (fun hf => ?_)
        · refine lv_aload_n hx hb dX12_act_55 rfl (lv_at hl 0 rfl) ?_
          refine lv_iload_n hx hb dX12_act_56 rfl (lv_at hl 1 rfl) ?_
          refine lv_iload_n hx hb dX12_act_57 rfl (lv_at hl 3 rfl) ?_
          obtain ⟨r7, s8, h9, hf⟩ := zbd_some hf
          refine zcallV X hP hS hl.1 (k := 0) (As := [.int x1, .int x3]) (rest := []) (cn_X12_tellsBy h9) cw_X12_tellsBy zp_12 rfl (by decide) rfl ml_X12_441 (by decide) rfl rfl (Nat.le_of_ble_eq_true rfl) dX12_act_58 (fun H locs hP hS => ?_)
          exact zret_i X hP hS hf rfl dX12_act_61
        · refine lv_aload_n hx hb dX12_act_46 rfl (lv_at hl 0 rfl) ?_
          refine lv_iload_n hx hb dX12_act_47 rfl (lv_at hl 1 rfl) ?_
          refine lv_iload_n hx hb dX12_act_48 rfl (lv_at hl 3 rfl) ?_
          obtain ⟨r10, s11, h12, hf⟩ := zbd_some hf
          refine zcallV X hP hS hl.1 (k := 0) (As := [.int x1, .int x3]) (rest := []) (cn_X12_turnsBy h12) cw_X12_turnsBy zp_12 rfl (by decide) rfl ml_X12_438 (by decide) rfl rfl (Nat.le_of_ble_eq_true rfl) dX12_act_49 (fun H locs hP hS => ?_)
          refine lv_goto (tgt := 61) hx hb dX12_act_52 (by decide) ?_
          exact zret_i X hP hS hf rfl dX12_act_61
      · refine lv_aload_n hx hb dX12_act_32 rfl (lv_at hl 0 rfl) ?_
        refine lv_iload_n hx hb dX12_act_33 rfl (lv_at hl 1 rfl) ?_
        refine lv_iload_n hx hb dX12_act_34 rfl (lv_at hl 3 rfl) ?_
        obtain ⟨r13, s14, h15, hf⟩ := zbd_some hf
        refine zcallV X hP hS hl.1 (k := 0) (As := [.int x1, .int x3]) (rest := []) (cn_X12_meetsBy h15) cw_X12_meetsBy zp_12 rfl (by decide) rfl ml_X12_435 (by decide) rfl rfl (Nat.le_of_ble_eq_true rfl) dX12_act_35 (fun H locs hP hS => ?_)
        refine lv_goto (tgt := 61) hx hb dX12_act_38 (by decide) ?_
        exact zret_i X hP hS hf rfl dX12_act_61
    · refine lv_iconst (v := 0) hx hb dX12_act_21 (by decide) ?_
      exact zret_i X hP hS hf rfl dX12_act_22
theorem dX12_trace_0 : decode cX12_trace 0 = .ok (.iload_n 1, 1) := by decide +kernel
theorem dX12_trace_1 : decode cX12_trace 1 = .ok (.i2l, 1) := by decide +kernel
theorem dX12_trace_2 : decode cX12_trace 2 = .ok (.lconst 0, 1) := by decide +kernel
theorem dX12_trace_3 : decode cX12_trace 3 = .ok (.aload_n 0, 1) := by decide +kernel
theorem dX12_trace_4 : decode cX12_trace 4 = .ok (.getfield 429, 3) := by decide +kernel
theorem dX12_trace_7 : decode cX12_trace 7 = .ok (.iconst 1, 1) := by decide +kernel
theorem dX12_trace_8 : decode cX12_trace 8 = .ok (.isub, 1) := by decide +kernel
theorem dX12_trace_9 : decode cX12_trace 9 = .ok (.i2l, 1) := by decide +kernel
theorem dX12_trace_10 : decode cX12_trace 10 = .ok (.invokestatic 203, 3) := by decide +kernel
theorem dX12_trace_13 : decode cX12_trace 13 = .ok (.ifCond .eq 12, 3) := by decide +kernel
theorem dX12_trace_16 : decode cX12_trace 16 = .ok (.aload_n 0, 1) := by decide +kernel
theorem dX12_trace_17 : decode cX12_trace 17 = .ok (.getfield 147, 3) := by decide +kernel
theorem dX12_trace_20 : decode cX12_trace 20 = .ok (.iload_n 1, 1) := by decide +kernel
theorem dX12_trace_21 : decode cX12_trace 21 = .ok (.iaload, 1) := by decide +kernel
theorem dX12_trace_22 : decode cX12_trace 22 = .ok (.goto 5, 3) := by decide +kernel
theorem dX12_trace_25 : decode cX12_trace 25 = .ok (.bipush (-2), 2) := by decide +kernel
theorem dX12_trace_27 : decode cX12_trace 27 = .ok (.ireturn, 1) := by decide +kernel
set_option maxHeartbeats 4000000 in
set_option maxRecDepth 100000 in
theorem cn_X12_trace {l : Launch} {cA : Nat → ClassId} {ad : Nat → Nat} {D : va_G} {E : Nat → Nat} {A : Nat → Prop} {x1 : Int32} {s0 sr : SS} {rr : Int32} (hf : f_X12_trace x1 s0 = some (rr, sr)) : zCon Om Nm cA ad D E l yX12_trace cX12_trace 2 (some .int) 1 A [.ref (ad 0), .int x1] s0 (some (.int rr)) sr := by
  refine zstart (own := RX12) hOm (by decide) rfl (Nat.le_of_ble_eq_true rfl) ?_
  intro p e s m args below meth c X hP ls hl
  have hx := X.1
  have hb := X.2.1
  have hl : lv_has ls 2 [(0, .ref (ad 0)), (1, .int x1)] := hl
  have hS : va_S A s.heap s.heap [] := va_S.rf
  rw [f_X12_trace] at hf
  refine lv_iload_n hx hb dX12_trace_0 rfl (lv_at hl 1 rfl) ?_
  refine lv_i2l hx hb dX12_trace_1 rfl ?_
  refine lv_lconst (v := 0) hx hb dX12_trace_2 (by decide) ?_
  refine lv_aload_n hx hb dX12_trace_3 rfl (lv_at hl 0 rfl) ?_
  refine gf_X12_429 X hP (k := 0) rfl dX12_trace_4 ?_
  refine lv_iconst (v := 1) hx hb dX12_trace_7 (by decide) ?_
  refine lv_isub hx hb dX12_trace_8 ?_
  refine lv_i2l hx hb dX12_trace_9 rfl ?_
  obtain ⟨r1, s2, h3, hf⟩ := zbd_some hf
  refine zcallS X hP hS hl.1 (As := [.long (x1).toInt64, .long 0, .long (((s0.1 0 34) - (1 : Int32))).toInt64]) (rest := []) (cn_X12_in h3) cw_X12_in ml_X12_203 (by decide) rfl rfl (Nat.le_of_ble_eq_true rfl) dX12_trace_10 (fun H locs hP hS => ?_)
  refine zif_eq (tgt := 25) hx hb dX12_trace_13 (by decide) hf (fun hf => ?_) (fun hf => ?_)
  · refine lv_bipush (v := (-2)) hx hb dX12_trace_25 (by decide) ?_
    exact zret_i X hP hS hf rfl dX12_trace_27
  · refine lv_aload_n hx hb dX12_trace_16 rfl (lv_at hl 0 rfl) ?_
    refine gf_X12_147 X hP (k := 0) (q := 25) rfl dX12_trace_17 rfl ?_
    refine lv_iload_n hx hb dX12_trace_20 rfl (lv_at hl 1 rfl) ?_
    obtain ⟨g4, hf⟩ := zgd hf
    refine zald_i X hP (k := 25) (n := 24) (rs := []) rfl g4 dX12_trace_21 ?_
    refine lv_goto (tgt := 27) hx hb dX12_trace_22 (by decide) ?_
    exact zret_i X hP hS hf rfl dX12_trace_27
theorem dX12_taken_0 : decode cX12_taken 0 = .ok (.aload_n 0, 1) := by decide +kernel
theorem dX12_taken_1 : decode cX12_taken 1 = .ok (.iload_n 1, 1) := by decide +kernel
theorem dX12_taken_2 : decode cX12_taken 2 = .ok (.i2l, 1) := by decide +kernel
theorem dX12_taken_3 : decode cX12_taken 3 = .ok (.invokevirtual 245, 3) := by decide +kernel
theorem dX12_taken_6 : decode cX12_taken 6 = .ok (.ifCond .eq 15, 3) := by decide +kernel
theorem dX12_taken_9 : decode cX12_taken 9 = .ok (.iload_n 2, 1) := by decide +kernel
theorem dX12_taken_10 : decode cX12_taken 10 = .ok (.i2l, 1) := by decide +kernel
theorem dX12_taken_11 : decode cX12_taken 11 = .ok (.lconst 0, 1) := by decide +kernel
theorem dX12_taken_12 : decode cX12_taken 12 = .ok (.ldc2_w 201, 3) := by decide +kernel
theorem dX12_taken_15 : decode cX12_taken 15 = .ok (.invokestatic 203, 3) := by decide +kernel
theorem dX12_taken_18 : decode cX12_taken 18 = .ok (.ifCond .ne 5, 3) := by decide +kernel
theorem dX12_taken_21 : decode cX12_taken 21 = .ok (.iconst (-1), 1) := by decide +kernel
theorem dX12_taken_22 : decode cX12_taken 22 = .ok (.ireturn, 1) := by decide +kernel
theorem dX12_taken_23 : decode cX12_taken 23 = .ok (.aload_n 0, 1) := by decide +kernel
theorem dX12_taken_24 : decode cX12_taken 24 = .ok (.getfield 105, 3) := by decide +kernel
theorem dX12_taken_27 : decode cX12_taken 27 = .ok (.iload_n 1, 1) := by decide +kernel
theorem dX12_taken_28 : decode cX12_taken 28 = .ok (.iaload, 1) := by decide +kernel
theorem dX12_taken_29 : decode cX12_taken 29 = .ok (.istore_n 3, 1) := by decide +kernel
theorem dX12_taken_30 : decode cX12_taken 30 = .ok (.iload_n 2, 1) := by decide +kernel
theorem dX12_taken_31 : decode cX12_taken 31 = .ok (.ifCond .eq 28, 3) := by decide +kernel
theorem dX12_taken_34 : decode cX12_taken 34 = .ok (.iload_n 2, 1) := by decide +kernel
theorem dX12_taken_35 : decode cX12_taken 35 = .ok (.iload_n 3, 1) := by decide +kernel
theorem dX12_taken_36 : decode cX12_taken 36 = .ok (.if_icmp .eq 23, 3) := by decide +kernel
theorem dX12_taken_39 : decode cX12_taken 39 = .ok (.iload_n 2, 1) := by decide +kernel
theorem dX12_taken_40 : decode cX12_taken 40 = .ok (.iconst 2, 1) := by decide +kernel
theorem dX12_taken_41 : decode cX12_taken 41 = .ok (.if_icmp .ne 8, 3) := by decide +kernel
theorem dX12_taken_44 : decode cX12_taken 44 = .ok (.iload_n 3, 1) := by decide +kernel
theorem dX12_taken_45 : decode cX12_taken 45 = .ok (.iconst 4, 1) := by decide +kernel
theorem dX12_taken_46 : decode cX12_taken 46 = .ok (.if_icmp .eq 13, 3) := by decide +kernel
theorem dX12_taken_49 : decode cX12_taken 49 = .ok (.iload_n 2, 1) := by decide +kernel
theorem dX12_taken_50 : decode cX12_taken 50 = .ok (.iconst 1, 1) := by decide +kernel
theorem dX12_taken_51 : decode cX12_taken 51 = .ok (.if_icmp .ne 12, 3) := by decide +kernel
theorem dX12_taken_54 : decode cX12_taken 54 = .ok (.iload_n 3, 1) := by decide +kernel
theorem dX12_taken_55 : decode cX12_taken 55 = .ok (.iconst 5, 1) := by decide +kernel
theorem dX12_taken_56 : decode cX12_taken 56 = .ok (.if_icmp .ne 7, 3) := by decide +kernel
theorem dX12_taken_59 : decode cX12_taken 59 = .ok (.iconst 1, 1) := by decide +kernel
theorem dX12_taken_60 : decode cX12_taken 60 = .ok (.goto 4, 3) := by decide +kernel
theorem dX12_taken_63 : decode cX12_taken 63 = .ok (.iconst 0, 1) := by decide +kernel
theorem dX12_taken_64 : decode cX12_taken 64 = .ok (.istore 4, 2) := by decide +kernel
theorem dX12_taken_66 : decode cX12_taken 66 = .ok (.iload 4, 2) := by decide +kernel
theorem dX12_taken_68 : decode cX12_taken 68 = .ok (.ifCond .ne 8, 3) := by decide +kernel
theorem dX12_taken_71 : decode cX12_taken 71 = .ok (.bipush (-5), 2) := by decide +kernel
theorem dX12_taken_73 : decode cX12_taken 73 = .ok (.goto 27, 3) := by decide +kernel
theorem dX12_taken_76 : decode cX12_taken 76 = .ok (.iload_n 2, 1) := by decide +kernel
theorem dX12_taken_77 : decode cX12_taken 77 = .ok (.i2l, 1) := by decide +kernel
theorem dX12_taken_78 : decode cX12_taken 78 = .ok (.ldc2_w 35, 3) := by decide +kernel
theorem dX12_taken_81 : decode cX12_taken 81 = .ok (.ldc2_w 40, 3) := by decide +kernel
theorem dX12_taken_84 : decode cX12_taken 84 = .ok (.invokestatic 203, 3) := by decide +kernel
theorem dX12_taken_87 : decode cX12_taken 87 = .ok (.ifCond .eq 12, 3) := by decide +kernel
theorem dX12_taken_90 : decode cX12_taken 90 = .ok (.aload_n 0, 1) := by decide +kernel
theorem dX12_taken_91 : decode cX12_taken 91 = .ok (.getfield 108, 3) := by decide +kernel
theorem dX12_taken_94 : decode cX12_taken 94 = .ok (.iload_n 1, 1) := by decide +kernel
theorem dX12_taken_95 : decode cX12_taken 95 = .ok (.iaload, 1) := by decide +kernel
theorem dX12_taken_96 : decode cX12_taken 96 = .ok (.goto 4, 3) := by decide +kernel
theorem dX12_taken_99 : decode cX12_taken 99 = .ok (.iload_n 1, 1) := by decide +kernel
theorem dX12_taken_100 : decode cX12_taken 100 = .ok (.ireturn, 1) := by decide +kernel
set_option maxHeartbeats 4000000 in
set_option maxRecDepth 100000 in
theorem cn_X12_taken {l : Launch} {cA : Nat → ClassId} {ad : Nat → Nat} {D : va_G} {E : Nat → Nat} {A : Nat → Prop} {x1 : Int32} {x2 : Int32} {s0 sr : SS} {rr : Int32} (hf : f_X12_taken x1 x2 s0 = some (rr, sr)) : zCon Om Nm cA ad D E l yX12_taken cX12_taken 5 (some .int) 2 A [.ref (ad 0), .int x1, .int x2] s0 (some (.int rr)) sr := by
  refine zstart (own := RX12) hOm (by decide) rfl (Nat.le_of_ble_eq_true rfl) ?_
  intro p e s m args below meth c X hP ls hl
  have hx := X.1
  have hb := X.2.1
  have hl : lv_has ls 5 [(0, .ref (ad 0)), (1, .int x1), (2, .int x2)] := hl
  have hS : va_S A s.heap s.heap [] := va_S.rf
  have hc_64 : ∀ (x1 : Int32) (x2 : Int32) (t0 : Int32) (s1 : SS) (H : Heap) (locs : List Loc) (ls : Array Slot), lv_has ls 5 [(0, .ref (ad 0)), (1, .int x1), (2, .int x2)] → va_P D ZCL (zw Om Nm cA ad s1) H → va_S A s.heap H locs → f_X12_taken_c64 x1 x2 t0 s1 = some (rr, sr) → W p l e (zrm 2) s m args below meth c H locs 0 0 (MQ below (zQc Om Nm cA ad D A (some (.int rr)) sr) args s 0 0 A) (F0 m 64 ls [.int t0]) := by
    intro x1 x2 t0 s1 H locs ls hl hP hS hf
    rw [f_X12_taken_c64] at hf
    refine lv_istore (lv' := [(4, .int t0), (0, .ref (ad 0)), (1, .int x1), (2, .int x2)]) hx hb dX12_taken_64 hl (by decide) rfl (fun ls hl => ?_)
    refine lv_iload hx hb dX12_taken_66 (lv_at hl 0 rfl) ?_
    refine zif_ne (tgt := 76) hx hb dX12_taken_68 (by decide) hf (fun hf => ?_) (fun hf => ?_)
    · refine lv_iload_n hx hb dX12_taken_76 rfl (lv_at hl 3 rfl) ?_
      refine lv_i2l hx hb dX12_taken_77 rfl ?_
      refine zldc2 X co_X12_35 dX12_taken_78 ?_
      refine zldc2 X co_X12_40 dX12_taken_81 ?_
      obtain ⟨r8, s9, h10, hf⟩ := zbd_some hf
      refine zcallS X hP hS hl.1 (As := [.long (x2).toInt64, .long 2, .long 4]) (rest := []) (cn_X12_in h10) cw_X12_in ml_X12_203 (by decide) rfl rfl (Nat.le_of_ble_eq_true rfl) dX12_taken_84 (fun H locs hP hS => ?_)
      refine zif_eq (tgt := 99) hx hb dX12_taken_87 (by decide) hf (fun hf => ?_) (fun hf => ?_)
      · refine lv_iload_n hx hb dX12_taken_99 rfl (lv_at hl 2 rfl) ?_
        exact zret_i X hP hS hf rfl dX12_taken_100
      · refine lv_aload_n hx hb dX12_taken_90 rfl (lv_at hl 1 rfl) ?_
        refine gf_X12_108 X hP (k := 0) (q := 9) rfl dX12_taken_91 rfl ?_
        refine lv_iload_n hx hb dX12_taken_94 rfl (lv_at hl 2 rfl) ?_
        obtain ⟨g11, hf⟩ := zgd hf
        refine zald_i X hP (k := 9) (n := 8) (rs := []) rfl g11 dX12_taken_95 ?_
        refine lv_goto (tgt := 100) hx hb dX12_taken_96 (by decide) ?_
        exact zret_i X hP hS hf rfl dX12_taken_100
    · refine lv_bipush (v := (-5)) hx hb dX12_taken_71 (by decide) ?_
      refine lv_goto (tgt := 100) hx hb dX12_taken_73 (by decide) ?_
      exact zret_i X hP hS hf rfl dX12_taken_100
  have hc_63 : ∀ (x1 : Int32) (x2 : Int32) (s1 : SS) (H : Heap) (locs : List Loc) (ls : Array Slot), lv_has ls 5 [(0, .ref (ad 0)), (1, .int x1), (2, .int x2)] → va_P D ZCL (zw Om Nm cA ad s1) H → va_S A s.heap H locs → f_X12_taken_c63 x1 x2 s1 = some (rr, sr) → W p l e (zrm 2) s m args below meth c H locs 0 0 (MQ below (zQc Om Nm cA ad D A (some (.int rr)) sr) args s 0 0 A) (F0 m 63 ls []) := by
    intro x1 x2 s1 H locs ls hl hP hS hf
    rw [f_X12_taken_c63] at hf
    refine lv_iconst (v := 0) hx hb dX12_taken_63 (by decide) ?_
    exact hc_64 x1 x2 0 s1 _ _ _ (lv_sub hl [0, 1, 2] rfl) hP hS hf
  have hc_59 : ∀ (x1 : Int32) (x2 : Int32) (s1 : SS) (H : Heap) (locs : List Loc) (ls : Array Slot), lv_has ls 5 [(0, .ref (ad 0)), (1, .int x1), (2, .int x2)] → va_P D ZCL (zw Om Nm cA ad s1) H → va_S A s.heap H locs → f_X12_taken_c59 x1 x2 s1 = some (rr, sr) → W p l e (zrm 2) s m args below meth c H locs 0 0 (MQ below (zQc Om Nm cA ad D A (some (.int rr)) sr) args s 0 0 A) (F0 m 59 ls []) := by
    intro x1 x2 s1 H locs ls hl hP hS hf
    rw [f_X12_taken_c59] at hf
    refine lv_iconst (v := 1) hx hb dX12_taken_59 (by decide) ?_
    refine lv_goto (tgt := 64) hx hb dX12_taken_60 (by decide) ?_
    exact hc_64 x1 x2 1 s1 _ _ _ (lv_sub hl [0, 1, 2] rfl) hP hS hf
  have hc_49 : ∀ (x1 : Int32) (x2 : Int32) (x3 : Int32) (s1 : SS) (H : Heap) (locs : List Loc) (ls : Array Slot), lv_has ls 5 [(0, .ref (ad 0)), (1, .int x1), (2, .int x2), (3, .int x3)] → va_P D ZCL (zw Om Nm cA ad s1) H → va_S A s.heap H locs → f_X12_taken_c49 x1 x2 x3 s1 = some (rr, sr) → W p l e (zrm 2) s m args below meth c H locs 0 0 (MQ below (zQc Om Nm cA ad D A (some (.int rr)) sr) args s 0 0 A) (F0 m 49 ls []) := by
    intro x1 x2 x3 s1 H locs ls hl hP hS hf
    rw [f_X12_taken_c49] at hf
    refine lv_iload_n hx hb dX12_taken_49 rfl (lv_at hl 2 rfl) ?_
    refine lv_iconst (v := 1) hx hb dX12_taken_50 (by decide) ?_
    refine zicmp_ne (tgt := 63) hx hb dX12_taken_51 (by decide) hf (fun hf => ?_) (fun hf => ?_)
    · exact hc_63 x1 x2 s1 _ _ _ (lv_sub hl [0, 1, 2] rfl) hP hS hf
    · refine lv_iload_n hx hb dX12_taken_54 rfl (lv_at hl 3 rfl) ?_
      refine lv_iconst (v := 5) hx hb dX12_taken_55 (by decide) ?_
      refine zicmp_ne (tgt := 63) hx hb dX12_taken_56 (by decide) hf (fun hf => ?_) (fun hf => ?_)
      · exact hc_63 x1 x2 s1 _ _ _ (lv_sub hl [0, 1, 2] rfl) hP hS hf
      · exact hc_59 x1 x2 s1 _ _ _ (lv_sub hl [0, 1, 2] rfl) hP hS hf
  rw [f_X12_taken] at hf
  refine lv_aload_n hx hb dX12_taken_0 rfl (lv_at hl 0 rfl) ?_
  refine lv_iload_n hx hb dX12_taken_1 rfl (lv_at hl 1 rfl) ?_
  refine lv_i2l hx hb dX12_taken_2 rfl ?_
  obtain ⟨r1, s2, h3, hf⟩ := zbd_some hf
  refine zcallV X hP hS hl.1 (k := 0) (As := [.long (x1).toInt64]) (rest := []) (cn_X12_isClass h3) cw_X12_isClass zp_12 rfl (by decide) rfl ml_X12_245 (by decide) rfl rfl (Nat.le_of_ble_eq_true rfl) dX12_taken_3 (fun H locs hP hS => ?_)
  refine zif_eq (tgt := 21) hx hb dX12_taken_6 (by decide) hf (fun hf => ?_) (fun hf => ?_)
  · refine lv_iconst (v := (-1)) hx hb dX12_taken_21 (by decide) ?_
    exact zret_i X hP hS hf rfl dX12_taken_22
  · refine lv_iload_n hx hb dX12_taken_9 rfl (lv_at hl 2 rfl) ?_
    refine lv_i2l hx hb dX12_taken_10 rfl ?_
    refine lv_lconst (v := 0) hx hb dX12_taken_11 (by decide) ?_
    refine zldc2 X co_X12_201 dX12_taken_12 ?_
    obtain ⟨r4, s5, h6, hf⟩ := zbd_some hf
    refine zcallS X hP hS hl.1 (As := [.long (x2).toInt64, .long 0, .long 5]) (rest := []) (cn_X12_in h6) cw_X12_in ml_X12_203 (by decide) rfl rfl (Nat.le_of_ble_eq_true rfl) dX12_taken_15 (fun H locs hP hS => ?_)
    refine zif_ne (tgt := 23) hx hb dX12_taken_18 (by decide) hf (fun hf => ?_) (fun hf => ?_)
    · refine lv_aload_n hx hb dX12_taken_23 rfl (lv_at hl 0 rfl) ?_
      refine gf_X12_105 X hP (k := 0) (q := 8) rfl dX12_taken_24 rfl ?_
      refine lv_iload_n hx hb dX12_taken_27 rfl (lv_at hl 1 rfl) ?_
      obtain ⟨g7, hf⟩ := zgd hf
      refine zald_i X hP (k := 8) (n := 8) (rs := []) rfl g7 dX12_taken_28 ?_
      refine lv_istore_n (lv' := [(3, .int (s5.1 8 (x1).toNatClampNeg)), (0, .ref (ad 0)), (1, .int x1), (2, .int x2)]) hx hb dX12_taken_29 rfl hl (by decide) rfl (fun ls hl => ?_)
      refine lv_iload_n hx hb dX12_taken_30 rfl (lv_at hl 3 rfl) ?_
      refine zif_eq (tgt := 59) hx hb dX12_taken_31 (by decide) hf (fun hf => ?_) (fun hf => ?_)
      · exact hc_59 x1 x2 s5 _ _ _ (lv_sub hl [1, 2, 3] rfl) hP hS hf
      · refine lv_iload_n hx hb dX12_taken_34 rfl (lv_at hl 3 rfl) ?_
        refine lv_iload_n hx hb dX12_taken_35 rfl (lv_at hl 0 rfl) ?_
        refine zicmp_eq (tgt := 59) hx hb dX12_taken_36 (by decide) hf (fun hf => ?_) (fun hf => ?_)
        · exact hc_59 x1 x2 s5 _ _ _ (lv_sub hl [1, 2, 3] rfl) hP hS hf
        · refine lv_iload_n hx hb dX12_taken_39 rfl (lv_at hl 3 rfl) ?_
          refine lv_iconst (v := 2) hx hb dX12_taken_40 (by decide) ?_
          refine zicmp_ne (tgt := 49) hx hb dX12_taken_41 (by decide) hf (fun hf => ?_) (fun hf => ?_)
          · exact hc_49 x1 x2 (s5.1 8 (x1).toNatClampNeg) s5 _ _ _ (lv_sub hl [1, 2, 3, 0] rfl) hP hS hf
          · refine lv_iload_n hx hb dX12_taken_44 rfl (lv_at hl 0 rfl) ?_
            refine lv_iconst (v := 4) hx hb dX12_taken_45 (by decide) ?_
            refine zicmp_eq (tgt := 59) hx hb dX12_taken_46 (by decide) hf (fun hf => ?_) (fun hf => ?_)
            · exact hc_59 x1 x2 s5 _ _ _ (lv_sub hl [1, 2, 3] rfl) hP hS hf
            · exact hc_49 x1 x2 (s5.1 8 (x1).toNatClampNeg) s5 _ _ _ (lv_sub hl [1, 2, 3, 0] rfl) hP hS hf
    · refine lv_iconst (v := (-1)) hx hb dX12_taken_21 (by decide) ?_
      exact zret_i X hP hS hf rfl dX12_taken_22
theorem dX12_undo_0 : decode cX12_undo 0 = .ok (.aload_n 0, 1) := by decide +kernel
theorem dX12_undo_1 : decode cX12_undo 1 = .ok (.getfield 192, 3) := by decide +kernel
theorem dX12_undo_4 : decode cX12_undo 4 = .ok (.ifCond .ne 6, 3) := by decide +kernel
theorem dX12_undo_7 : decode cX12_undo 7 = .ok (.bipush (-5), 2) := by decide +kernel
theorem dX12_undo_9 : decode cX12_undo 9 = .ok (.ireturn, 1) := by decide +kernel
theorem dX12_undo_10 : decode cX12_undo 10 = .ok (.aload_n 0, 1) := by decide +kernel
theorem dX12_undo_11 : decode cX12_undo 11 = .ok (.dup, 1) := by decide +kernel
theorem dX12_undo_12 : decode cX12_undo 12 = .ok (.getfield 192, 3) := by decide +kernel
theorem dX12_undo_15 : decode cX12_undo 15 = .ok (.iconst 1, 1) := by decide +kernel
theorem dX12_undo_16 : decode cX12_undo 16 = .ok (.isub, 1) := by decide +kernel
theorem dX12_undo_17 : decode cX12_undo 17 = .ok (.putfield 192, 3) := by decide +kernel
theorem dX12_undo_20 : decode cX12_undo 20 = .ok (.aload_n 0, 1) := by decide +kernel
theorem dX12_undo_21 : decode cX12_undo 21 = .ok (.dup, 1) := by decide +kernel
theorem dX12_undo_22 : decode cX12_undo 22 = .ok (.getfield 195, 3) := by decide +kernel
theorem dX12_undo_25 : decode cX12_undo 25 = .ok (.iconst 1, 1) := by decide +kernel
theorem dX12_undo_26 : decode cX12_undo 26 = .ok (.iadd, 1) := by decide +kernel
theorem dX12_undo_27 : decode cX12_undo 27 = .ok (.putfield 195, 3) := by decide +kernel
theorem dX12_undo_30 : decode cX12_undo 30 = .ok (.aload_n 0, 1) := by decide +kernel
theorem dX12_undo_31 : decode cX12_undo 31 = .ok (.aload_n 0, 1) := by decide +kernel
theorem dX12_undo_32 : decode cX12_undo 32 = .ok (.getfield 120, 3) := by decide +kernel
theorem dX12_undo_35 : decode cX12_undo 35 = .ok (.aload_n 0, 1) := by decide +kernel
theorem dX12_undo_36 : decode cX12_undo 36 = .ok (.getfield 192, 3) := by decide +kernel
theorem dX12_undo_39 : decode cX12_undo 39 = .ok (.iaload, 1) := by decide +kernel
theorem dX12_undo_40 : decode cX12_undo 40 = .ok (.aload_n 0, 1) := by decide +kernel
theorem dX12_undo_41 : decode cX12_undo 41 = .ok (.getfield 123, 3) := by decide +kernel
theorem dX12_undo_44 : decode cX12_undo 44 = .ok (.aload_n 0, 1) := by decide +kernel
theorem dX12_undo_45 : decode cX12_undo 45 = .ok (.getfield 192, 3) := by decide +kernel
theorem dX12_undo_48 : decode cX12_undo 48 = .ok (.iaload, 1) := by decide +kernel
theorem dX12_undo_49 : decode cX12_undo 49 = .ok (.aload_n 0, 1) := by decide +kernel
theorem dX12_undo_50 : decode cX12_undo 50 = .ok (.getfield 126, 3) := by decide +kernel
theorem dX12_undo_53 : decode cX12_undo 53 = .ok (.aload_n 0, 1) := by decide +kernel
theorem dX12_undo_54 : decode cX12_undo 54 = .ok (.getfield 192, 3) := by decide +kernel
theorem dX12_undo_57 : decode cX12_undo 57 = .ok (.iaload, 1) := by decide +kernel
theorem dX12_undo_58 : decode cX12_undo 58 = .ok (.invokevirtual 249, 3) := by decide +kernel
theorem dX12_undo_61 : decode cX12_undo 61 = .ok (.aload_n 0, 1) := by decide +kernel
theorem dX12_undo_62 : decode cX12_undo 62 = .ok (.getfield 192, 3) := by decide +kernel
theorem dX12_undo_65 : decode cX12_undo 65 = .ok (.ireturn, 1) := by decide +kernel
set_option maxHeartbeats 4000000 in
set_option maxRecDepth 100000 in
theorem cn_X12_undo {l : Launch} {cA : Nat → ClassId} {ad : Nat → Nat} {D : va_G} {E : Nat → Nat} {A : Nat → Prop}  {s0 sr : SS} {rr : Int32} (hf : f_X12_undo s0 = some (rr, sr)) : zCon Om Nm cA ad D E l yX12_undo cX12_undo 1 (some .int) 1 A [.ref (ad 0)] s0 (some (.int rr)) sr := by
  refine zstart (own := RX12) hOm (by decide) rfl (Nat.le_of_ble_eq_true rfl) ?_
  intro p e s m args below meth c X hP ls hl
  have hx := X.1
  have hb := X.2.1
  have hl : lv_has ls 1 [(0, .ref (ad 0))] := hl
  have hS : va_S A s.heap s.heap [] := va_S.rf
  rw [f_X12_undo] at hf
  refine lv_aload_n hx hb dX12_undo_0 rfl (lv_at hl 0 rfl) ?_
  refine gf_X12_192 X hP (k := 0) rfl dX12_undo_1 ?_
  refine zif_ne (tgt := 10) hx hb dX12_undo_4 (by decide) hf (fun hf => ?_) (fun hf => ?_)
  · refine lv_aload_n hx hb dX12_undo_10 rfl (lv_at hl 0 rfl) ?_
    refine lv_dup hx hb dX12_undo_11 rfl ?_
    refine gf_X12_192 X hP (k := 0) rfl dX12_undo_12 ?_
    refine lv_iconst (v := 1) hx hb dX12_undo_15 (by decide) ?_
    refine lv_isub hx hb dX12_undo_16 ?_
    refine pf_X12_192 X hP hS (k := 0) rfl dX12_undo_17 (fun H locs hP hS => ?_)
    refine lv_aload_n hx hb dX12_undo_20 rfl (lv_at hl 0 rfl) ?_
    refine lv_dup hx hb dX12_undo_21 rfl ?_
    refine gf_X12_195 X hP (k := 0) rfl dX12_undo_22 ?_
    refine lv_iconst (v := 1) hx hb dX12_undo_25 (by decide) ?_
    refine lv_iadd hx hb dX12_undo_26 ?_
    refine pf_X12_195 X hP hS (k := 0) rfl dX12_undo_27 (fun H locs hP hS => ?_)
    refine lv_aload_n hx hb dX12_undo_30 rfl (lv_at hl 0 rfl) ?_
    refine lv_aload_n hx hb dX12_undo_31 rfl (lv_at hl 0 rfl) ?_
    refine gf_X12_120 X hP (k := 0) (q := 16) rfl dX12_undo_32 rfl ?_
    refine lv_aload_n hx hb dX12_undo_35 rfl (lv_at hl 0 rfl) ?_
    refine gf_X12_192 X hP (k := 0) rfl dX12_undo_36 ?_
    obtain ⟨g1, hf⟩ := zgd hf
    refine zald_i X hP (k := 16) (n := 12) (rs := []) rfl g1 dX12_undo_39 ?_
    refine lv_aload_n hx hb dX12_undo_40 rfl (lv_at hl 0 rfl) ?_
    refine gf_X12_123 X hP (k := 0) (q := 17) rfl dX12_undo_41 rfl ?_
    refine lv_aload_n hx hb dX12_undo_44 rfl (lv_at hl 0 rfl) ?_
    refine gf_X12_192 X hP (k := 0) rfl dX12_undo_45 ?_
    obtain ⟨g2, hf⟩ := zgd hf
    refine zald_i X hP (k := 17) (n := 12) (rs := []) rfl g2 dX12_undo_48 ?_
    refine lv_aload_n hx hb dX12_undo_49 rfl (lv_at hl 0 rfl) ?_
    refine gf_X12_126 X hP (k := 0) (q := 18) rfl dX12_undo_50 rfl ?_
    refine lv_aload_n hx hb dX12_undo_53 rfl (lv_at hl 0 rfl) ?_
    refine gf_X12_192 X hP (k := 0) rfl dX12_undo_54 ?_
    obtain ⟨g3, hf⟩ := zgd hf
    refine zald_i X hP (k := 18) (n := 12) (rs := []) rfl g3 dX12_undo_57 ?_
    obtain ⟨r4, s5, h6, hf⟩ := zbd_some hf
    refine zcallV X hP hS hl.1 (k := 0) (As := [.int ((zS (zS s0 0 21 ((s0.1 0 21) - (1 : Int32))) 0 22 (((zS s0 0 21 ((s0.1 0 21) - (1 : Int32))).1 0 22) + (1 : Int32))).1 16 (((zS (zS s0 0 21 ((s0.1 0 21) - (1 : Int32))) 0 22 (((zS s0 0 21 ((s0.1 0 21) - (1 : Int32))).1 0 22) + (1 : Int32))).1 0 21)).toNatClampNeg), .int ((zS (zS s0 0 21 ((s0.1 0 21) - (1 : Int32))) 0 22 (((zS s0 0 21 ((s0.1 0 21) - (1 : Int32))).1 0 22) + (1 : Int32))).1 17 (((zS (zS s0 0 21 ((s0.1 0 21) - (1 : Int32))) 0 22 (((zS s0 0 21 ((s0.1 0 21) - (1 : Int32))).1 0 22) + (1 : Int32))).1 0 21)).toNatClampNeg), .int ((zS (zS s0 0 21 ((s0.1 0 21) - (1 : Int32))) 0 22 (((zS s0 0 21 ((s0.1 0 21) - (1 : Int32))).1 0 22) + (1 : Int32))).1 18 (((zS (zS s0 0 21 ((s0.1 0 21) - (1 : Int32))) 0 22 (((zS s0 0 21 ((s0.1 0 21) - (1 : Int32))).1 0 22) + (1 : Int32))).1 0 21)).toNatClampNeg)]) (rest := []) (cn_X12_become h6) cw_X12_become zp_12 rfl (by decide) rfl ml_X12_249 (by decide) rfl rfl (Nat.le_of_ble_eq_true rfl) dX12_undo_58 (fun H locs hP hS => ?_)
    refine lv_aload_n hx hb dX12_undo_61 rfl (lv_at hl 0 rfl) ?_
    refine gf_X12_192 X hP (k := 0) rfl dX12_undo_62 ?_
    exact zret_i X hP hS hf rfl dX12_undo_65
  · refine lv_bipush (v := (-5)) hx hb dX12_undo_7 (by decide) ?_
    exact zret_i X hP hS hf rfl dX12_undo_9
theorem dX12_redo_0 : decode cX12_redo 0 = .ok (.aload_n 0, 1) := by decide +kernel
theorem dX12_redo_1 : decode cX12_redo 1 = .ok (.getfield 195, 3) := by decide +kernel
theorem dX12_redo_4 : decode cX12_redo 4 = .ok (.ifCond .ne 6, 3) := by decide +kernel
theorem dX12_redo_7 : decode cX12_redo 7 = .ok (.bipush (-5), 2) := by decide +kernel
theorem dX12_redo_9 : decode cX12_redo 9 = .ok (.ireturn, 1) := by decide +kernel
theorem dX12_redo_10 : decode cX12_redo 10 = .ok (.aload_n 0, 1) := by decide +kernel
theorem dX12_redo_11 : decode cX12_redo 11 = .ok (.aload_n 0, 1) := by decide +kernel
theorem dX12_redo_12 : decode cX12_redo 12 = .ok (.getfield 120, 3) := by decide +kernel
theorem dX12_redo_15 : decode cX12_redo 15 = .ok (.aload_n 0, 1) := by decide +kernel
theorem dX12_redo_16 : decode cX12_redo 16 = .ok (.getfield 192, 3) := by decide +kernel
theorem dX12_redo_19 : decode cX12_redo 19 = .ok (.iaload, 1) := by decide +kernel
theorem dX12_redo_20 : decode cX12_redo 20 = .ok (.aload_n 0, 1) := by decide +kernel
theorem dX12_redo_21 : decode cX12_redo 21 = .ok (.getfield 123, 3) := by decide +kernel
theorem dX12_redo_24 : decode cX12_redo 24 = .ok (.aload_n 0, 1) := by decide +kernel
theorem dX12_redo_25 : decode cX12_redo 25 = .ok (.getfield 192, 3) := by decide +kernel
theorem dX12_redo_28 : decode cX12_redo 28 = .ok (.iaload, 1) := by decide +kernel
theorem dX12_redo_29 : decode cX12_redo 29 = .ok (.aload_n 0, 1) := by decide +kernel
theorem dX12_redo_30 : decode cX12_redo 30 = .ok (.getfield 129, 3) := by decide +kernel
theorem dX12_redo_33 : decode cX12_redo 33 = .ok (.aload_n 0, 1) := by decide +kernel
theorem dX12_redo_34 : decode cX12_redo 34 = .ok (.getfield 192, 3) := by decide +kernel
theorem dX12_redo_37 : decode cX12_redo 37 = .ok (.iaload, 1) := by decide +kernel
theorem dX12_redo_38 : decode cX12_redo 38 = .ok (.invokevirtual 249, 3) := by decide +kernel
theorem dX12_redo_41 : decode cX12_redo 41 = .ok (.aload_n 0, 1) := by decide +kernel
theorem dX12_redo_42 : decode cX12_redo 42 = .ok (.dup, 1) := by decide +kernel
theorem dX12_redo_43 : decode cX12_redo 43 = .ok (.getfield 192, 3) := by decide +kernel
theorem dX12_redo_46 : decode cX12_redo 46 = .ok (.iconst 1, 1) := by decide +kernel
theorem dX12_redo_47 : decode cX12_redo 47 = .ok (.iadd, 1) := by decide +kernel
theorem dX12_redo_48 : decode cX12_redo 48 = .ok (.putfield 192, 3) := by decide +kernel
theorem dX12_redo_51 : decode cX12_redo 51 = .ok (.aload_n 0, 1) := by decide +kernel
theorem dX12_redo_52 : decode cX12_redo 52 = .ok (.dup, 1) := by decide +kernel
theorem dX12_redo_53 : decode cX12_redo 53 = .ok (.getfield 195, 3) := by decide +kernel
theorem dX12_redo_56 : decode cX12_redo 56 = .ok (.iconst 1, 1) := by decide +kernel
theorem dX12_redo_57 : decode cX12_redo 57 = .ok (.isub, 1) := by decide +kernel
theorem dX12_redo_58 : decode cX12_redo 58 = .ok (.putfield 195, 3) := by decide +kernel
theorem dX12_redo_61 : decode cX12_redo 61 = .ok (.aload_n 0, 1) := by decide +kernel
theorem dX12_redo_62 : decode cX12_redo 62 = .ok (.getfield 195, 3) := by decide +kernel
theorem dX12_redo_65 : decode cX12_redo 65 = .ok (.ireturn, 1) := by decide +kernel
set_option maxHeartbeats 4000000 in
set_option maxRecDepth 100000 in
theorem cn_X12_redo {l : Launch} {cA : Nat → ClassId} {ad : Nat → Nat} {D : va_G} {E : Nat → Nat} {A : Nat → Prop}  {s0 sr : SS} {rr : Int32} (hf : f_X12_redo s0 = some (rr, sr)) : zCon Om Nm cA ad D E l yX12_redo cX12_redo 1 (some .int) 1 A [.ref (ad 0)] s0 (some (.int rr)) sr := by
  refine zstart (own := RX12) hOm (by decide) rfl (Nat.le_of_ble_eq_true rfl) ?_
  intro p e s m args below meth c X hP ls hl
  have hx := X.1
  have hb := X.2.1
  have hl : lv_has ls 1 [(0, .ref (ad 0))] := hl
  have hS : va_S A s.heap s.heap [] := va_S.rf
  rw [f_X12_redo] at hf
  refine lv_aload_n hx hb dX12_redo_0 rfl (lv_at hl 0 rfl) ?_
  refine gf_X12_195 X hP (k := 0) rfl dX12_redo_1 ?_
  refine zif_ne (tgt := 10) hx hb dX12_redo_4 (by decide) hf (fun hf => ?_) (fun hf => ?_)
  · refine lv_aload_n hx hb dX12_redo_10 rfl (lv_at hl 0 rfl) ?_
    refine lv_aload_n hx hb dX12_redo_11 rfl (lv_at hl 0 rfl) ?_
    refine gf_X12_120 X hP (k := 0) (q := 16) rfl dX12_redo_12 rfl ?_
    refine lv_aload_n hx hb dX12_redo_15 rfl (lv_at hl 0 rfl) ?_
    refine gf_X12_192 X hP (k := 0) rfl dX12_redo_16 ?_
    obtain ⟨g1, hf⟩ := zgd hf
    refine zald_i X hP (k := 16) (n := 12) (rs := []) rfl g1 dX12_redo_19 ?_
    refine lv_aload_n hx hb dX12_redo_20 rfl (lv_at hl 0 rfl) ?_
    refine gf_X12_123 X hP (k := 0) (q := 17) rfl dX12_redo_21 rfl ?_
    refine lv_aload_n hx hb dX12_redo_24 rfl (lv_at hl 0 rfl) ?_
    refine gf_X12_192 X hP (k := 0) rfl dX12_redo_25 ?_
    obtain ⟨g2, hf⟩ := zgd hf
    refine zald_i X hP (k := 17) (n := 12) (rs := []) rfl g2 dX12_redo_28 ?_
    refine lv_aload_n hx hb dX12_redo_29 rfl (lv_at hl 0 rfl) ?_
    refine gf_X12_129 X hP (k := 0) (q := 19) rfl dX12_redo_30 rfl ?_
    refine lv_aload_n hx hb dX12_redo_33 rfl (lv_at hl 0 rfl) ?_
    refine gf_X12_192 X hP (k := 0) rfl dX12_redo_34 ?_
    obtain ⟨g3, hf⟩ := zgd hf
    refine zald_i X hP (k := 19) (n := 12) (rs := []) rfl g3 dX12_redo_37 ?_
    obtain ⟨r4, s5, h6, hf⟩ := zbd_some hf
    refine zcallV X hP hS hl.1 (k := 0) (As := [.int (s0.1 16 ((s0.1 0 21)).toNatClampNeg), .int (s0.1 17 ((s0.1 0 21)).toNatClampNeg), .int (s0.1 19 ((s0.1 0 21)).toNatClampNeg)]) (rest := []) (cn_X12_become h6) cw_X12_become zp_12 rfl (by decide) rfl ml_X12_249 (by decide) rfl rfl (Nat.le_of_ble_eq_true rfl) dX12_redo_38 (fun H locs hP hS => ?_)
    refine lv_aload_n hx hb dX12_redo_41 rfl (lv_at hl 0 rfl) ?_
    refine lv_dup hx hb dX12_redo_42 rfl ?_
    refine gf_X12_192 X hP (k := 0) rfl dX12_redo_43 ?_
    refine lv_iconst (v := 1) hx hb dX12_redo_46 (by decide) ?_
    refine lv_iadd hx hb dX12_redo_47 ?_
    refine pf_X12_192 X hP hS (k := 0) rfl dX12_redo_48 (fun H locs hP hS => ?_)
    refine lv_aload_n hx hb dX12_redo_51 rfl (lv_at hl 0 rfl) ?_
    refine lv_dup hx hb dX12_redo_52 rfl ?_
    refine gf_X12_195 X hP (k := 0) rfl dX12_redo_53 ?_
    refine lv_iconst (v := 1) hx hb dX12_redo_56 (by decide) ?_
    refine lv_isub hx hb dX12_redo_57 ?_
    refine pf_X12_195 X hP hS (k := 0) rfl dX12_redo_58 (fun H locs hP hS => ?_)
    refine lv_aload_n hx hb dX12_redo_61 rfl (lv_at hl 0 rfl) ?_
    refine gf_X12_195 X hP (k := 0) rfl dX12_redo_62 ?_
    exact zret_i X hP hS hf rfl dX12_redo_65
  · refine lv_bipush (v := (-5)) hx hb dX12_redo_7 (by decide) ?_
    exact zret_i X hP hS hf rfl dX12_redo_9
theorem dX12_image_0 : decode cX12_image 0 = .ok (.aload_n 0, 1) := by decide +kernel
theorem dX12_image_1 : decode cX12_image 1 = .ok (.iconst 1, 1) := by decide +kernel
theorem dX12_image_2 : decode cX12_image 2 = .ok (.putfield 444, 3) := by decide +kernel
theorem dX12_image_5 : decode cX12_image 5 = .ok (.aload_n 0, 1) := by decide +kernel
theorem dX12_image_6 : decode cX12_image 6 = .ok (.aload_n 0, 1) := by decide +kernel
theorem dX12_image_7 : decode cX12_image 7 = .ok (.getfield 3, 3) := by decide +kernel
theorem dX12_image_10 : decode cX12_image 10 = .ok (.putfield 447, 3) := by decide +kernel
theorem dX12_image_13 : decode cX12_image 13 = .ok (.aload_n 0, 1) := by decide +kernel
theorem dX12_image_14 : decode cX12_image 14 = .ok (.aload_n 0, 1) := by decide +kernel
theorem dX12_image_15 : decode cX12_image 15 = .ok (.getfield 27, 3) := by decide +kernel
theorem dX12_image_18 : decode cX12_image 18 = .ok (.putfield 450, 3) := by decide +kernel
theorem dX12_image_21 : decode cX12_image 21 = .ok (.aload_n 0, 1) := by decide +kernel
theorem dX12_image_22 : decode cX12_image 22 = .ok (.aload_n 0, 1) := by decide +kernel
theorem dX12_image_23 : decode cX12_image 23 = .ok (.getfield 9, 3) := by decide +kernel
theorem dX12_image_26 : decode cX12_image 26 = .ok (.putfield 453, 3) := by decide +kernel
theorem dX12_image_29 : decode cX12_image 29 = .ok (.aload_n 0, 1) := by decide +kernel
theorem dX12_image_30 : decode cX12_image 30 = .ok (.aload_n 0, 1) := by decide +kernel
theorem dX12_image_31 : decode cX12_image 31 = .ok (.getfield 12, 3) := by decide +kernel
theorem dX12_image_34 : decode cX12_image 34 = .ok (.putfield 456, 3) := by decide +kernel
theorem dX12_image_37 : decode cX12_image 37 = .ok (.iconst 0, 1) := by decide +kernel
theorem dX12_image_38 : decode cX12_image 38 = .ok (.istore_n 1, 1) := by decide +kernel
theorem dX12_image_39 : decode cX12_image 39 = .ok (.iload_n 1, 1) := by decide +kernel
theorem dX12_image_40 : decode cX12_image 40 = .ok (.iconst 3, 1) := by decide +kernel
theorem dX12_image_41 : decode cX12_image 41 = .ok (.if_icmp .ge 45, 3) := by decide +kernel
theorem dX12_image_44 : decode cX12_image 44 = .ok (.aload_n 0, 1) := by decide +kernel
theorem dX12_image_45 : decode cX12_image 45 = .ok (.getfield 150, 3) := by decide +kernel
theorem dX12_image_48 : decode cX12_image 48 = .ok (.iload_n 1, 1) := by decide +kernel
theorem dX12_image_49 : decode cX12_image 49 = .ok (.aload_n 0, 1) := by decide +kernel
theorem dX12_image_50 : decode cX12_image 50 = .ok (.getfield 23, 3) := by decide +kernel
theorem dX12_image_53 : decode cX12_image 53 = .ok (.iload_n 1, 1) := by decide +kernel
theorem dX12_image_54 : decode cX12_image 54 = .ok (.iaload, 1) := by decide +kernel
theorem dX12_image_55 : decode cX12_image 55 = .ok (.iastore, 1) := by decide +kernel
theorem dX12_image_56 : decode cX12_image 56 = .ok (.aload_n 0, 1) := by decide +kernel
theorem dX12_image_57 : decode cX12_image 57 = .ok (.getfield 153, 3) := by decide +kernel
theorem dX12_image_60 : decode cX12_image 60 = .ok (.iload_n 1, 1) := by decide +kernel
theorem dX12_image_61 : decode cX12_image 61 = .ok (.aload_n 0, 1) := by decide +kernel
theorem dX12_image_62 : decode cX12_image 62 = .ok (.getfield 32, 3) := by decide +kernel
theorem dX12_image_65 : decode cX12_image 65 = .ok (.iload_n 1, 1) := by decide +kernel
theorem dX12_image_66 : decode cX12_image 66 = .ok (.iaload, 1) := by decide +kernel
theorem dX12_image_67 : decode cX12_image 67 = .ok (.iastore, 1) := by decide +kernel
theorem dX12_image_68 : decode cX12_image 68 = .ok (.aload_n 0, 1) := by decide +kernel
theorem dX12_image_69 : decode cX12_image 69 = .ok (.getfield 156, 3) := by decide +kernel
theorem dX12_image_72 : decode cX12_image 72 = .ok (.iload_n 1, 1) := by decide +kernel
theorem dX12_image_73 : decode cX12_image 73 = .ok (.aload_n 0, 1) := by decide +kernel
theorem dX12_image_74 : decode cX12_image 74 = .ok (.getfield 37, 3) := by decide +kernel
theorem dX12_image_77 : decode cX12_image 77 = .ok (.iload_n 1, 1) := by decide +kernel
theorem dX12_image_78 : decode cX12_image 78 = .ok (.iaload, 1) := by decide +kernel
theorem dX12_image_79 : decode cX12_image 79 = .ok (.iastore, 1) := by decide +kernel
theorem dX12_image_80 : decode cX12_image 80 = .ok (.iinc 1 1, 3) := by decide +kernel
theorem dX12_image_83 : decode cX12_image 83 = .ok (.goto (-44), 3) := by decide +kernel
theorem dX12_image_86 : decode cX12_image 86 = .ok (.aload_n 0, 1) := by decide +kernel
theorem dX12_image_87 : decode cX12_image 87 = .ok (.aload_n 0, 1) := by decide +kernel
theorem dX12_image_88 : decode cX12_image 88 = .ok (.getfield 89, 3) := by decide +kernel
theorem dX12_image_91 : decode cX12_image 91 = .ok (.putfield 459, 3) := by decide +kernel
theorem dX12_image_94 : decode cX12_image 94 = .ok (.iconst 0, 1) := by decide +kernel
theorem dX12_image_95 : decode cX12_image 95 = .ok (.istore_n 1, 1) := by decide +kernel
theorem dX12_image_96 : decode cX12_image 96 = .ok (.iload_n 1, 1) := by decide +kernel
theorem dX12_image_97 : decode cX12_image 97 = .ok (.aload_n 0, 1) := by decide +kernel
theorem dX12_image_98 : decode cX12_image 98 = .ok (.getfield 89, 3) := by decide +kernel
theorem dX12_image_101 : decode cX12_image 101 = .ok (.if_icmp .ge 73, 3) := by decide +kernel
theorem dX12_image_104 : decode cX12_image 104 = .ok (.aload_n 0, 1) := by decide +kernel
theorem dX12_image_105 : decode cX12_image 105 = .ok (.getfield 159, 3) := by decide +kernel
theorem dX12_image_108 : decode cX12_image 108 = .ok (.iload_n 1, 1) := by decide +kernel
theorem dX12_image_109 : decode cX12_image 109 = .ok (.aload_n 0, 1) := by decide +kernel
theorem dX12_image_110 : decode cX12_image 110 = .ok (.getfield 105, 3) := by decide +kernel
theorem dX12_image_113 : decode cX12_image 113 = .ok (.iload_n 1, 1) := by decide +kernel
theorem dX12_image_114 : decode cX12_image 114 = .ok (.iaload, 1) := by decide +kernel
theorem dX12_image_115 : decode cX12_image 115 = .ok (.iastore, 1) := by decide +kernel
theorem dX12_image_116 : decode cX12_image 116 = .ok (.aload_n 0, 1) := by decide +kernel
theorem dX12_image_117 : decode cX12_image 117 = .ok (.getfield 162, 3) := by decide +kernel
theorem dX12_image_120 : decode cX12_image 120 = .ok (.iload_n 1, 1) := by decide +kernel
theorem dX12_image_121 : decode cX12_image 121 = .ok (.aload_n 0, 1) := by decide +kernel
theorem dX12_image_122 : decode cX12_image 122 = .ok (.getfield 108, 3) := by decide +kernel
theorem dX12_image_125 : decode cX12_image 125 = .ok (.iload_n 1, 1) := by decide +kernel
theorem dX12_image_126 : decode cX12_image 126 = .ok (.iaload, 1) := by decide +kernel
theorem dX12_image_127 : decode cX12_image 127 = .ok (.iastore, 1) := by decide +kernel
theorem dX12_image_128 : decode cX12_image 128 = .ok (.iconst 0, 1) := by decide +kernel
theorem dX12_image_129 : decode cX12_image 129 = .ok (.istore_n 2, 1) := by decide +kernel
theorem dX12_image_130 : decode cX12_image 130 = .ok (.iload_n 2, 1) := by decide +kernel
theorem dX12_image_131 : decode cX12_image 131 = .ok (.aload_n 0, 1) := by decide +kernel
theorem dX12_image_132 : decode cX12_image 132 = .ok (.getfield 56, 3) := by decide +kernel
theorem dX12_image_135 : decode cX12_image 135 = .ok (.if_icmp .ge 33, 3) := by decide +kernel
theorem dX12_image_138 : decode cX12_image 138 = .ok (.aload_n 0, 1) := by decide +kernel
theorem dX12_image_139 : decode cX12_image 139 = .ok (.getfield 165, 3) := by decide +kernel
theorem dX12_image_142 : decode cX12_image 142 = .ok (.sipush 462, 3) := by decide +kernel
theorem dX12_image_145 : decode cX12_image 145 = .ok (.iload_n 1, 1) := by decide +kernel
theorem dX12_image_146 : decode cX12_image 146 = .ok (.imul, 1) := by decide +kernel
theorem dX12_image_147 : decode cX12_image 147 = .ok (.iload_n 2, 1) := by decide +kernel
theorem dX12_image_148 : decode cX12_image 148 = .ok (.iadd, 1) := by decide +kernel
theorem dX12_image_149 : decode cX12_image 149 = .ok (.aload_n 0, 1) := by decide +kernel
theorem dX12_image_150 : decode cX12_image 150 = .ok (.getfield 95, 3) := by decide +kernel
theorem dX12_image_153 : decode cX12_image 153 = .ok (.sipush 462, 3) := by decide +kernel
theorem dX12_image_156 : decode cX12_image 156 = .ok (.iload_n 1, 1) := by decide +kernel
theorem dX12_image_157 : decode cX12_image 157 = .ok (.imul, 1) := by decide +kernel
theorem dX12_image_158 : decode cX12_image 158 = .ok (.iload_n 2, 1) := by decide +kernel
theorem dX12_image_159 : decode cX12_image 159 = .ok (.iadd, 1) := by decide +kernel
theorem dX12_image_160 : decode cX12_image 160 = .ok (.laload, 1) := by decide +kernel
theorem dX12_image_161 : decode cX12_image 161 = .ok (.lastore, 1) := by decide +kernel
theorem dX12_image_162 : decode cX12_image 162 = .ok (.iinc 2 1, 3) := by decide +kernel
theorem dX12_image_165 : decode cX12_image 165 = .ok (.goto (-35), 3) := by decide +kernel
theorem dX12_image_168 : decode cX12_image 168 = .ok (.iinc 1 1, 3) := by decide +kernel
theorem dX12_image_171 : decode cX12_image 171 = .ok (.goto (-75), 3) := by decide +kernel
theorem dX12_image_174 : decode cX12_image 174 = .ok (.aload_n 0, 1) := by decide +kernel
theorem dX12_image_175 : decode cX12_image 175 = .ok (.getfield 89, 3) := by decide +kernel
theorem dX12_image_178 : decode cX12_image 178 = .ok (.ireturn, 1) := by decide +kernel
set_option maxHeartbeats 4000000 in
set_option maxRecDepth 100000 in
theorem cn_X12_image {l : Launch} {cA : Nat → ClassId} {ad : Nat → Nat} {D : va_G} {E : Nat → Nat} {A : Nat → Prop}  {s0 sr : SS} {rr : Int32} (hf : f_X12_image s0 = some (rr, sr)) : zCon Om Nm cA ad D E l yX12_image cX12_image 3 (some .int) 0 A [.ref (ad 0)] s0 (some (.int rr)) sr := by
  refine zstart (own := RX12) hOm (by decide) rfl (Nat.le_of_ble_eq_true rfl) ?_
  intro p e s m args below meth c X hP ls hl
  have hx := X.1
  have hb := X.2.1
  have hl : lv_has ls 3 [(0, .ref (ad 0))] := hl
  have hS : va_S A s.heap s.heap [] := va_S.rf
  have hc_39 : ∀ (n39 : Nat) (x1 : Int32) (s1 : SS) (H : Heap) (locs : List Loc) (ls : Array Slot), lv_has ls 3 [(0, .ref (ad 0)), (1, .int x1)] → va_P D ZCL (zw Om Nm cA ad s1) H → va_S A s.heap H locs → f_X12_image_c39 n39 x1 s1 = some (rr, sr) → W p l e (zrm 0) s m args below meth c H locs 0 0 (MQ below (zQc Om Nm cA ad D A (some (.int rr)) sr) args s 0 0 A) (F0 m 39 ls []) := by
    intro n39
    induction n39 with
    | zero =>
      intro x1 s1 H locs ls hl hP hS hf
      rw [f_X12_image_c39] at hf
      cases hf
    | succ n39 ih39 =>
      have hc_96 : ∀ (n96 : Nat) (x1 : Int32) (s1 : SS) (H : Heap) (locs : List Loc) (ls : Array Slot), lv_has ls 3 [(0, .ref (ad 0)), (1, .int x1)] → va_P D ZCL (zw Om Nm cA ad s1) H → va_S A s.heap H locs → f_X12_image_c96 n96 x1 s1 = some (rr, sr) → W p l e (zrm 0) s m args below meth c H locs 0 0 (MQ below (zQc Om Nm cA ad D A (some (.int rr)) sr) args s 0 0 A) (F0 m 96 ls []) := by
        intro n96
        induction n96 with
        | zero =>
          intro x1 s1 H locs ls hl hP hS hf
          rw [f_X12_image_c96] at hf
          cases hf
        | succ n96 ih96 =>
          have hc_130 : ∀ (n130 : Nat) (x1 : Int32) (x2 : Int32) (s1 : SS) (H : Heap) (locs : List Loc) (ls : Array Slot), lv_has ls 3 [(0, .ref (ad 0)), (1, .int x1), (2, .int x2)] → va_P D ZCL (zw Om Nm cA ad s1) H → va_S A s.heap H locs → f_X12_image_c130 (f_X12_image_c96 n96) n130 x1 x2 s1 = some (rr, sr) → W p l e (zrm 0) s m args below meth c H locs 0 0 (MQ below (zQc Om Nm cA ad D A (some (.int rr)) sr) args s 0 0 A) (F0 m 130 ls []) := by
            intro n130
            induction n130 with
            | zero =>
              intro x1 x2 s1 H locs ls hl hP hS hf
              rw [f_X12_image_c130] at hf
              cases hf
            | succ n130 ih130 =>
              intro x1 x2 s1 H locs ls hl hP hS hf
              rw [f_X12_image_c130] at hf
              refine lv_iload_n hx hb dX12_image_130 rfl (lv_at hl 2 rfl) ?_
              refine lv_aload_n hx hb dX12_image_131 rfl (lv_at hl 0 rfl) ?_
              refine gf_X12_56 X hP (k := 0) rfl dX12_image_132 ?_
              refine zicmp_ge (tgt := 168) hx hb dX12_image_135 (by decide) hf (fun hf => ?_) (fun hf => ?_)
              · refine lv_iinc (v := (x1 + 1)) (lv' := [(1, .int (x1 + 1)), (0, .ref (ad 0)), (2, .int x2)]) hx hb dX12_image_168 hl (k := 1) rfl rfl (by decide) rfl (fun ls hl => ?_)
                refine lv_goto (tgt := 96) hx hb dX12_image_171 (by decide) ?_
                exact ih96 (x1 + 1) s1 _ _ _ (lv_sub hl [1, 0] rfl) hP hS hf
              · refine lv_aload_n hx hb dX12_image_138 rfl (lv_at hl 0 rfl) ?_
                refine gf_X12_165 X hP (k := 0) (q := 31) rfl dX12_image_139 rfl ?_
                refine lv_sipush (v := 462) hx hb dX12_image_142 (by decide) ?_
                refine lv_iload_n hx hb dX12_image_145 rfl (lv_at hl 1 rfl) ?_
                refine lv_imul hx hb dX12_image_146 ?_
                refine lv_iload_n hx hb dX12_image_147 rfl (lv_at hl 2 rfl) ?_
                refine lv_iadd hx hb dX12_image_148 ?_
                refine lv_aload_n hx hb dX12_image_149 rfl (lv_at hl 0 rfl) ?_
                refine gf_X12_95 X hP (k := 0) (q := 10) rfl dX12_image_150 rfl ?_
                refine lv_sipush (v := 462) hx hb dX12_image_153 (by decide) ?_
                refine lv_iload_n hx hb dX12_image_156 rfl (lv_at hl 1 rfl) ?_
                refine lv_imul hx hb dX12_image_157 ?_
                refine lv_iload_n hx hb dX12_image_158 rfl (lv_at hl 2 rfl) ?_
                refine lv_iadd hx hb dX12_image_159 ?_
                obtain ⟨g5, hf⟩ := zgd hf
                refine zald_l X hP (k := 10) (n := 3696) (rs := []) rfl g5 dX12_image_160 ?_
                obtain ⟨g6, hf⟩ := zgd hf
                refine zast_l X hP hS (k := 31) (n := 3696) (rs := []) rfl g6 dX12_image_161 (fun H locs hP hS => ?_)
                refine lv_iinc (v := (x2 + 1)) (lv' := [(2, .int (x2 + 1)), (0, .ref (ad 0)), (1, .int x1)]) hx hb dX12_image_162 hl (k := 2) rfl rfl (by decide) rfl (fun ls hl => ?_)
                refine lv_goto (tgt := 130) hx hb dX12_image_165 (by decide) ?_
                exact ih130 x1 (x2 + 1) (zSL s1 31 ((((462 : Int32) * x1) + x2)).toNatClampNeg (s1.2 10 ((((462 : Int32) * x1) + x2)).toNatClampNeg)) _ _ _ (lv_sub hl [1, 2, 0] rfl) hP hS hf
          intro x1 s1 H locs ls hl hP hS hf
          rw [f_X12_image_c96] at hf
          refine lv_iload_n hx hb dX12_image_96 rfl (lv_at hl 1 rfl) ?_
          refine lv_aload_n hx hb dX12_image_97 rfl (lv_at hl 0 rfl) ?_
          refine gf_X12_89 X hP (k := 0) rfl dX12_image_98 ?_
          refine zicmp_ge (tgt := 174) hx hb dX12_image_101 (by decide) hf (fun hf => ?_) (fun hf => ?_)
          · refine lv_aload_n hx hb dX12_image_174 rfl (lv_at hl 0 rfl) ?_
            refine gf_X12_89 X hP (k := 0) rfl dX12_image_175 ?_
            exact zret_i X hP hS hf rfl dX12_image_178
          · refine lv_aload_n hx hb dX12_image_104 rfl (lv_at hl 0 rfl) ?_
            refine gf_X12_159 X hP (k := 0) (q := 29) rfl dX12_image_105 rfl ?_
            refine lv_iload_n hx hb dX12_image_108 rfl (lv_at hl 1 rfl) ?_
            refine lv_aload_n hx hb dX12_image_109 rfl (lv_at hl 0 rfl) ?_
            refine gf_X12_105 X hP (k := 0) (q := 8) rfl dX12_image_110 rfl ?_
            refine lv_iload_n hx hb dX12_image_113 rfl (lv_at hl 1 rfl) ?_
            obtain ⟨g1, hf⟩ := zgd hf
            refine zald_i X hP (k := 8) (n := 8) (rs := []) rfl g1 dX12_image_114 ?_
            obtain ⟨g2, hf⟩ := zgd hf
            refine zast_i X hP hS (k := 29) (n := 8) (rs := []) rfl g2 dX12_image_115 (fun H locs hP hS => ?_)
            refine lv_aload_n hx hb dX12_image_116 rfl (lv_at hl 0 rfl) ?_
            refine gf_X12_162 X hP (k := 0) (q := 30) rfl dX12_image_117 rfl ?_
            refine lv_iload_n hx hb dX12_image_120 rfl (lv_at hl 1 rfl) ?_
            refine lv_aload_n hx hb dX12_image_121 rfl (lv_at hl 0 rfl) ?_
            refine gf_X12_108 X hP (k := 0) (q := 9) rfl dX12_image_122 rfl ?_
            refine lv_iload_n hx hb dX12_image_125 rfl (lv_at hl 1 rfl) ?_
            obtain ⟨g3, hf⟩ := zgd hf
            refine zald_i X hP (k := 9) (n := 8) (rs := []) rfl g3 dX12_image_126 ?_
            obtain ⟨g4, hf⟩ := zgd hf
            refine zast_i X hP hS (k := 30) (n := 8) (rs := []) rfl g4 dX12_image_127 (fun H locs hP hS => ?_)
            refine lv_iconst (v := 0) hx hb dX12_image_128 (by decide) ?_
            refine lv_istore_n (lv' := [(2, .int 0), (0, .ref (ad 0)), (1, .int x1)]) hx hb dX12_image_129 rfl hl (by decide) rfl (fun ls hl => ?_)
            exact hc_130 ZF x1 0 (zS (zS s1 29 (x1).toNatClampNeg (s1.1 8 (x1).toNatClampNeg)) 30 (x1).toNatClampNeg (((zS s1 29 (x1).toNatClampNeg (s1.1 8 (x1).toNatClampNeg)).1 9 (x1).toNatClampNeg))) _ _ _ (lv_sub hl [1, 2, 0] rfl) hP hS hf
      intro x1 s1 H locs ls hl hP hS hf
      rw [f_X12_image_c39] at hf
      refine lv_iload_n hx hb dX12_image_39 rfl (lv_at hl 1 rfl) ?_
      refine lv_iconst (v := 3) hx hb dX12_image_40 (by decide) ?_
      refine zicmp_ge (tgt := 86) hx hb dX12_image_41 (by decide) hf (fun hf => ?_) (fun hf => ?_)
      · refine lv_aload_n hx hb dX12_image_86 rfl (lv_at hl 0 rfl) ?_
        refine lv_aload_n hx hb dX12_image_87 rfl (lv_at hl 0 rfl) ?_
        refine gf_X12_89 X hP (k := 0) rfl dX12_image_88 ?_
        refine pf_X12_459 X hP hS (k := 0) rfl dX12_image_91 (fun H locs hP hS => ?_)
        refine lv_iconst (v := 0) hx hb dX12_image_94 (by decide) ?_
        refine lv_istore_n (lv' := [(1, .int 0), (0, .ref (ad 0))]) hx hb dX12_image_95 rfl hl (by decide) rfl (fun ls hl => ?_)
        exact hc_96 ZF 0 (zS s1 0 44 (s1.1 0 12)) _ _ _ (lv_sub hl [1, 0] rfl) hP hS hf
      · refine lv_aload_n hx hb dX12_image_44 rfl (lv_at hl 0 rfl) ?_
        refine gf_X12_150 X hP (k := 0) (q := 26) rfl dX12_image_45 rfl ?_
        refine lv_iload_n hx hb dX12_image_48 rfl (lv_at hl 1 rfl) ?_
        refine lv_aload_n hx hb dX12_image_49 rfl (lv_at hl 0 rfl) ?_
        refine gf_X12_23 X hP (k := 0) (q := 1) rfl dX12_image_50 rfl ?_
        refine lv_iload_n hx hb dX12_image_53 rfl (lv_at hl 1 rfl) ?_
        obtain ⟨g7, hf⟩ := zgd hf
        refine zald_i X hP (k := 1) (n := 3) (rs := []) rfl g7 dX12_image_54 ?_
        obtain ⟨g8, hf⟩ := zgd hf
        refine zast_i X hP hS (k := 26) (n := 3) (rs := []) rfl g8 dX12_image_55 (fun H locs hP hS => ?_)
        refine lv_aload_n hx hb dX12_image_56 rfl (lv_at hl 0 rfl) ?_
        refine gf_X12_153 X hP (k := 0) (q := 27) rfl dX12_image_57 rfl ?_
        refine lv_iload_n hx hb dX12_image_60 rfl (lv_at hl 1 rfl) ?_
        refine lv_aload_n hx hb dX12_image_61 rfl (lv_at hl 0 rfl) ?_
        refine gf_X12_32 X hP (k := 0) (q := 2) rfl dX12_image_62 rfl ?_
        refine lv_iload_n hx hb dX12_image_65 rfl (lv_at hl 1 rfl) ?_
        obtain ⟨g9, hf⟩ := zgd hf
        refine zald_i X hP (k := 2) (n := 3) (rs := []) rfl g9 dX12_image_66 ?_
        obtain ⟨g10, hf⟩ := zgd hf
        refine zast_i X hP hS (k := 27) (n := 3) (rs := []) rfl g10 dX12_image_67 (fun H locs hP hS => ?_)
        refine lv_aload_n hx hb dX12_image_68 rfl (lv_at hl 0 rfl) ?_
        refine gf_X12_156 X hP (k := 0) (q := 28) rfl dX12_image_69 rfl ?_
        refine lv_iload_n hx hb dX12_image_72 rfl (lv_at hl 1 rfl) ?_
        refine lv_aload_n hx hb dX12_image_73 rfl (lv_at hl 0 rfl) ?_
        refine gf_X12_37 X hP (k := 0) (q := 3) rfl dX12_image_74 rfl ?_
        refine lv_iload_n hx hb dX12_image_77 rfl (lv_at hl 1 rfl) ?_
        obtain ⟨g11, hf⟩ := zgd hf
        refine zald_i X hP (k := 3) (n := 3) (rs := []) rfl g11 dX12_image_78 ?_
        obtain ⟨g12, hf⟩ := zgd hf
        refine zast_i X hP hS (k := 28) (n := 3) (rs := []) rfl g12 dX12_image_79 (fun H locs hP hS => ?_)
        refine lv_iinc (v := (x1 + 1)) (lv' := [(1, .int (x1 + 1)), (0, .ref (ad 0))]) hx hb dX12_image_80 hl (k := 1) rfl rfl (by decide) rfl (fun ls hl => ?_)
        refine lv_goto (tgt := 39) hx hb dX12_image_83 (by decide) ?_
        exact ih39 (x1 + 1) (zS (zS (zS s1 26 (x1).toNatClampNeg (s1.1 1 (x1).toNatClampNeg)) 27 (x1).toNatClampNeg (((zS s1 26 (x1).toNatClampNeg (s1.1 1 (x1).toNatClampNeg)).1 2 (x1).toNatClampNeg))) 28 (x1).toNatClampNeg (((zS (zS s1 26 (x1).toNatClampNeg (s1.1 1 (x1).toNatClampNeg)) 27 (x1).toNatClampNeg (((zS s1 26 (x1).toNatClampNeg (s1.1 1 (x1).toNatClampNeg)).1 2 (x1).toNatClampNeg))).1 3 (x1).toNatClampNeg))) _ _ _ (lv_sub hl [1, 0] rfl) hP hS hf
  rw [f_X12_image] at hf
  refine lv_aload_n hx hb dX12_image_0 rfl (lv_at hl 0 rfl) ?_
  refine lv_iconst (v := 1) hx hb dX12_image_1 (by decide) ?_
  refine pf_X12_444 X hP hS (k := 0) rfl (by decide) dX12_image_2 (fun H locs hP hS => ?_)
  refine lv_aload_n hx hb dX12_image_5 rfl (lv_at hl 0 rfl) ?_
  refine lv_aload_n hx hb dX12_image_6 rfl (lv_at hl 0 rfl) ?_
  refine gf_X12_3 X hP (k := 0) rfl dX12_image_7 ?_
  refine pf_X12_447 X hP hS (k := 0) rfl dX12_image_10 (fun H locs hP hS => ?_)
  refine lv_aload_n hx hb dX12_image_13 rfl (lv_at hl 0 rfl) ?_
  refine lv_aload_n hx hb dX12_image_14 rfl (lv_at hl 0 rfl) ?_
  refine gf_X12_27 X hP (k := 0) rfl dX12_image_15 ?_
  refine pf_X12_450 X hP hS (k := 0) rfl dX12_image_18 (fun H locs hP hS => ?_)
  refine lv_aload_n hx hb dX12_image_21 rfl (lv_at hl 0 rfl) ?_
  refine lv_aload_n hx hb dX12_image_22 rfl (lv_at hl 0 rfl) ?_
  refine gf_X12_9 X hP (k := 0) rfl dX12_image_23 ?_
  refine pf_X12_453 X hP hS (k := 0) rfl dX12_image_26 (fun H locs hP hS => ?_)
  refine lv_aload_n hx hb dX12_image_29 rfl (lv_at hl 0 rfl) ?_
  refine lv_aload_n hx hb dX12_image_30 rfl (lv_at hl 0 rfl) ?_
  refine gf_X12_12 X hP (k := 0) rfl dX12_image_31 ?_
  refine pf_X12_456 X hP hS (k := 0) rfl dX12_image_34 (fun H locs hP hS => ?_)
  refine lv_iconst (v := 0) hx hb dX12_image_37 (by decide) ?_
  refine lv_istore_n (lv' := [(1, .int 0), (0, .ref (ad 0))]) hx hb dX12_image_38 rfl hl (by decide) rfl (fun ls hl => ?_)
  exact hc_39 ZF 0 (zS (zS (zS (zS (zS s0 0 36 1) 0 37 ((zS s0 0 36 1).1 0 0)) 0 38 ((zS (zS s0 0 36 1) 0 37 ((zS s0 0 36 1).1 0 0)).1 0 1)) 0 39 ((zS (zS (zS s0 0 36 1) 0 37 ((zS s0 0 36 1).1 0 0)) 0 38 ((zS (zS s0 0 36 1) 0 37 ((zS s0 0 36 1).1 0 0)).1 0 1)).1 0 2)) 0 41 ((zS (zS (zS (zS s0 0 36 1) 0 37 ((zS s0 0 36 1).1 0 0)) 0 38 ((zS (zS s0 0 36 1) 0 37 ((zS s0 0 36 1).1 0 0)).1 0 1)) 0 39 ((zS (zS (zS s0 0 36 1) 0 37 ((zS s0 0 36 1).1 0 0)) 0 38 ((zS (zS s0 0 36 1) 0 37 ((zS s0 0 36 1).1 0 0)).1 0 1)).1 0 2)).1 0 4)) _ _ _ (lv_sub hl [1, 0] rfl) hP hS hf
theorem dX12_isLikeSpace_0 : decode cX12_isLikeSpace 0 = .ok (.aload_n 0, 1) := by decide +kernel
theorem dX12_isLikeSpace_1 : decode cX12_isLikeSpace 1 = .ok (.getfield 3, 3) := by decide +kernel
theorem dX12_isLikeSpace_4 : decode cX12_isLikeSpace 4 = .ok (.aload_n 0, 1) := by decide +kernel
theorem dX12_isLikeSpace_5 : decode cX12_isLikeSpace 5 = .ok (.getfield 447, 3) := by decide +kernel
theorem dX12_isLikeSpace_8 : decode cX12_isLikeSpace 8 = .ok (.if_icmp .ne 29, 3) := by decide +kernel
theorem dX12_isLikeSpace_11 : decode cX12_isLikeSpace 11 = .ok (.aload_n 0, 1) := by decide +kernel
theorem dX12_isLikeSpace_12 : decode cX12_isLikeSpace 12 = .ok (.getfield 27, 3) := by decide +kernel
theorem dX12_isLikeSpace_15 : decode cX12_isLikeSpace 15 = .ok (.aload_n 0, 1) := by decide +kernel
theorem dX12_isLikeSpace_16 : decode cX12_isLikeSpace 16 = .ok (.getfield 450, 3) := by decide +kernel
theorem dX12_isLikeSpace_19 : decode cX12_isLikeSpace 19 = .ok (.if_icmp .ne 18, 3) := by decide +kernel
theorem dX12_isLikeSpace_22 : decode cX12_isLikeSpace 22 = .ok (.aload_n 0, 1) := by decide +kernel
theorem dX12_isLikeSpace_23 : decode cX12_isLikeSpace 23 = .ok (.getfield 89, 3) := by decide +kernel
theorem dX12_isLikeSpace_26 : decode cX12_isLikeSpace 26 = .ok (.aload_n 0, 1) := by decide +kernel
theorem dX12_isLikeSpace_27 : decode cX12_isLikeSpace 27 = .ok (.getfield 459, 3) := by decide +kernel
theorem dX12_isLikeSpace_30 : decode cX12_isLikeSpace 30 = .ok (.if_icmp .ne 7, 3) := by decide +kernel
theorem dX12_isLikeSpace_33 : decode cX12_isLikeSpace 33 = .ok (.iconst 1, 1) := by decide +kernel
theorem dX12_isLikeSpace_34 : decode cX12_isLikeSpace 34 = .ok (.goto 4, 3) := by decide +kernel
theorem dX12_isLikeSpace_37 : decode cX12_isLikeSpace 37 = .ok (.iconst 0, 1) := by decide +kernel
theorem dX12_isLikeSpace_38 : decode cX12_isLikeSpace 38 = .ok (.istore_n 1, 1) := by decide +kernel
theorem dX12_isLikeSpace_39 : decode cX12_isLikeSpace 39 = .ok (.iload_n 1, 1) := by decide +kernel
theorem dX12_isLikeSpace_40 : decode cX12_isLikeSpace 40 = .ok (.ifCond .eq 79, 3) := by decide +kernel
theorem dX12_isLikeSpace_43 : decode cX12_isLikeSpace 43 = .ok (.aload_n 0, 1) := by decide +kernel
theorem dX12_isLikeSpace_44 : decode cX12_isLikeSpace 44 = .ok (.getfield 3, 3) := by decide +kernel
theorem dX12_isLikeSpace_47 : decode cX12_isLikeSpace 47 = .ok (.ifCond .ne 72, 3) := by decide +kernel
theorem dX12_isLikeSpace_50 : decode cX12_isLikeSpace 50 = .ok (.aload_n 0, 1) := by decide +kernel
theorem dX12_isLikeSpace_51 : decode cX12_isLikeSpace 51 = .ok (.getfield 9, 3) := by decide +kernel
theorem dX12_isLikeSpace_54 : decode cX12_isLikeSpace 54 = .ok (.aload_n 0, 1) := by decide +kernel
theorem dX12_isLikeSpace_55 : decode cX12_isLikeSpace 55 = .ok (.getfield 453, 3) := by decide +kernel
theorem dX12_isLikeSpace_58 : decode cX12_isLikeSpace 58 = .ok (.if_icmp .ne 18, 3) := by decide +kernel
theorem dX12_isLikeSpace_61 : decode cX12_isLikeSpace 61 = .ok (.aload_n 0, 1) := by decide +kernel
theorem dX12_isLikeSpace_62 : decode cX12_isLikeSpace 62 = .ok (.getfield 12, 3) := by decide +kernel
theorem dX12_isLikeSpace_65 : decode cX12_isLikeSpace 65 = .ok (.aload_n 0, 1) := by decide +kernel
theorem dX12_isLikeSpace_66 : decode cX12_isLikeSpace 66 = .ok (.getfield 456, 3) := by decide +kernel
theorem dX12_isLikeSpace_69 : decode cX12_isLikeSpace 69 = .ok (.if_icmp .ne 7, 3) := by decide +kernel
theorem dX12_isLikeSpace_72 : decode cX12_isLikeSpace 72 = .ok (.iconst 1, 1) := by decide +kernel
theorem dX12_isLikeSpace_73 : decode cX12_isLikeSpace 73 = .ok (.goto 4, 3) := by decide +kernel
theorem dX12_isLikeSpace_76 : decode cX12_isLikeSpace 76 = .ok (.iconst 0, 1) := by decide +kernel
theorem dX12_isLikeSpace_77 : decode cX12_isLikeSpace 77 = .ok (.istore_n 1, 1) := by decide +kernel
theorem dX12_isLikeSpace_78 : decode cX12_isLikeSpace 78 = .ok (.iconst 0, 1) := by decide +kernel
theorem dX12_isLikeSpace_79 : decode cX12_isLikeSpace 79 = .ok (.istore_n 2, 1) := by decide +kernel
theorem dX12_isLikeSpace_80 : decode cX12_isLikeSpace 80 = .ok (.iload_n 2, 1) := by decide +kernel
theorem dX12_isLikeSpace_81 : decode cX12_isLikeSpace 81 = .ok (.aload_n 0, 1) := by decide +kernel
theorem dX12_isLikeSpace_82 : decode cX12_isLikeSpace 82 = .ok (.getfield 9, 3) := by decide +kernel
theorem dX12_isLikeSpace_85 : decode cX12_isLikeSpace 85 = .ok (.if_icmp .ge 34, 3) := by decide +kernel
theorem dX12_isLikeSpace_88 : decode cX12_isLikeSpace 88 = .ok (.iload_n 1, 1) := by decide +kernel
theorem dX12_isLikeSpace_89 : decode cX12_isLikeSpace 89 = .ok (.ifCond .eq 30, 3) := by decide +kernel
theorem dX12_isLikeSpace_92 : decode cX12_isLikeSpace 92 = .ok (.aload_n 0, 1) := by decide +kernel
theorem dX12_isLikeSpace_93 : decode cX12_isLikeSpace 93 = .ok (.getfield 23, 3) := by decide +kernel
theorem dX12_isLikeSpace_96 : decode cX12_isLikeSpace 96 = .ok (.iload_n 2, 1) := by decide +kernel
theorem dX12_isLikeSpace_97 : decode cX12_isLikeSpace 97 = .ok (.iaload, 1) := by decide +kernel
theorem dX12_isLikeSpace_98 : decode cX12_isLikeSpace 98 = .ok (.aload_n 0, 1) := by decide +kernel
theorem dX12_isLikeSpace_99 : decode cX12_isLikeSpace 99 = .ok (.getfield 150, 3) := by decide +kernel
theorem dX12_isLikeSpace_102 : decode cX12_isLikeSpace 102 = .ok (.iload_n 2, 1) := by decide +kernel
theorem dX12_isLikeSpace_103 : decode cX12_isLikeSpace 103 = .ok (.iaload, 1) := by decide +kernel
theorem dX12_isLikeSpace_104 : decode cX12_isLikeSpace 104 = .ok (.if_icmp .ne 7, 3) := by decide +kernel
theorem dX12_isLikeSpace_107 : decode cX12_isLikeSpace 107 = .ok (.iconst 1, 1) := by decide +kernel
theorem dX12_isLikeSpace_108 : decode cX12_isLikeSpace 108 = .ok (.goto 4, 3) := by decide +kernel
theorem dX12_isLikeSpace_111 : decode cX12_isLikeSpace 111 = .ok (.iconst 0, 1) := by decide +kernel
theorem dX12_isLikeSpace_112 : decode cX12_isLikeSpace 112 = .ok (.istore_n 1, 1) := by decide +kernel
theorem dX12_isLikeSpace_113 : decode cX12_isLikeSpace 113 = .ok (.iinc 2 1, 3) := by decide +kernel
theorem dX12_isLikeSpace_116 : decode cX12_isLikeSpace 116 = .ok (.goto (-36), 3) := by decide +kernel
theorem dX12_isLikeSpace_119 : decode cX12_isLikeSpace 119 = .ok (.iload_n 1, 1) := by decide +kernel
theorem dX12_isLikeSpace_120 : decode cX12_isLikeSpace 120 = .ok (.ifCond .eq 84, 3) := by decide +kernel
theorem dX12_isLikeSpace_123 : decode cX12_isLikeSpace 123 = .ok (.aload_n 0, 1) := by decide +kernel
theorem dX12_isLikeSpace_124 : decode cX12_isLikeSpace 124 = .ok (.getfield 3, 3) := by decide +kernel
theorem dX12_isLikeSpace_127 : decode cX12_isLikeSpace 127 = .ok (.iconst 1, 1) := by decide +kernel
theorem dX12_isLikeSpace_128 : decode cX12_isLikeSpace 128 = .ok (.if_icmp .ne 76, 3) := by decide +kernel
theorem dX12_isLikeSpace_131 : decode cX12_isLikeSpace 131 = .ok (.aload_n 0, 1) := by decide +kernel
theorem dX12_isLikeSpace_132 : decode cX12_isLikeSpace 132 = .ok (.getfield 12, 3) := by decide +kernel
theorem dX12_isLikeSpace_135 : decode cX12_isLikeSpace 135 = .ok (.aload_n 0, 1) := by decide +kernel
theorem dX12_isLikeSpace_136 : decode cX12_isLikeSpace 136 = .ok (.getfield 456, 3) := by decide +kernel
theorem dX12_isLikeSpace_139 : decode cX12_isLikeSpace 139 = .ok (.if_icmp .ne 7, 3) := by decide +kernel
theorem dX12_isLikeSpace_142 : decode cX12_isLikeSpace 142 = .ok (.iconst 1, 1) := by decide +kernel
theorem dX12_isLikeSpace_143 : decode cX12_isLikeSpace 143 = .ok (.goto 4, 3) := by decide +kernel
theorem dX12_isLikeSpace_146 : decode cX12_isLikeSpace 146 = .ok (.iconst 0, 1) := by decide +kernel
theorem dX12_isLikeSpace_147 : decode cX12_isLikeSpace 147 = .ok (.istore_n 1, 1) := by decide +kernel
theorem dX12_isLikeSpace_148 : decode cX12_isLikeSpace 148 = .ok (.iconst 0, 1) := by decide +kernel
theorem dX12_isLikeSpace_149 : decode cX12_isLikeSpace 149 = .ok (.istore_n 2, 1) := by decide +kernel
theorem dX12_isLikeSpace_150 : decode cX12_isLikeSpace 150 = .ok (.iload_n 2, 1) := by decide +kernel
theorem dX12_isLikeSpace_151 : decode cX12_isLikeSpace 151 = .ok (.aload_n 0, 1) := by decide +kernel
theorem dX12_isLikeSpace_152 : decode cX12_isLikeSpace 152 = .ok (.getfield 12, 3) := by decide +kernel
theorem dX12_isLikeSpace_155 : decode cX12_isLikeSpace 155 = .ok (.if_icmp .ge 49, 3) := by decide +kernel
theorem dX12_isLikeSpace_158 : decode cX12_isLikeSpace 158 = .ok (.iload_n 1, 1) := by decide +kernel
theorem dX12_isLikeSpace_159 : decode cX12_isLikeSpace 159 = .ok (.ifCond .eq 45, 3) := by decide +kernel
theorem dX12_isLikeSpace_162 : decode cX12_isLikeSpace 162 = .ok (.aload_n 0, 1) := by decide +kernel
theorem dX12_isLikeSpace_163 : decode cX12_isLikeSpace 163 = .ok (.getfield 32, 3) := by decide +kernel
theorem dX12_isLikeSpace_166 : decode cX12_isLikeSpace 166 = .ok (.iload_n 2, 1) := by decide +kernel
theorem dX12_isLikeSpace_167 : decode cX12_isLikeSpace 167 = .ok (.iaload, 1) := by decide +kernel
theorem dX12_isLikeSpace_168 : decode cX12_isLikeSpace 168 = .ok (.aload_n 0, 1) := by decide +kernel
theorem dX12_isLikeSpace_169 : decode cX12_isLikeSpace 169 = .ok (.getfield 153, 3) := by decide +kernel
theorem dX12_isLikeSpace_172 : decode cX12_isLikeSpace 172 = .ok (.iload_n 2, 1) := by decide +kernel
theorem dX12_isLikeSpace_173 : decode cX12_isLikeSpace 173 = .ok (.iaload, 1) := by decide +kernel
theorem dX12_isLikeSpace_174 : decode cX12_isLikeSpace 174 = .ok (.if_icmp .ne 22, 3) := by decide +kernel
theorem dX12_isLikeSpace_177 : decode cX12_isLikeSpace 177 = .ok (.aload_n 0, 1) := by decide +kernel
theorem dX12_isLikeSpace_178 : decode cX12_isLikeSpace 178 = .ok (.getfield 37, 3) := by decide +kernel
theorem dX12_isLikeSpace_181 : decode cX12_isLikeSpace 181 = .ok (.iload_n 2, 1) := by decide +kernel
theorem dX12_isLikeSpace_182 : decode cX12_isLikeSpace 182 = .ok (.iaload, 1) := by decide +kernel
theorem dX12_isLikeSpace_183 : decode cX12_isLikeSpace 183 = .ok (.aload_n 0, 1) := by decide +kernel
theorem dX12_isLikeSpace_184 : decode cX12_isLikeSpace 184 = .ok (.getfield 156, 3) := by decide +kernel
theorem dX12_isLikeSpace_187 : decode cX12_isLikeSpace 187 = .ok (.iload_n 2, 1) := by decide +kernel
theorem dX12_isLikeSpace_188 : decode cX12_isLikeSpace 188 = .ok (.iaload, 1) := by decide +kernel
theorem dX12_isLikeSpace_189 : decode cX12_isLikeSpace 189 = .ok (.if_icmp .ne 7, 3) := by decide +kernel
theorem dX12_isLikeSpace_192 : decode cX12_isLikeSpace 192 = .ok (.iconst 1, 1) := by decide +kernel
theorem dX12_isLikeSpace_193 : decode cX12_isLikeSpace 193 = .ok (.goto 4, 3) := by decide +kernel
theorem dX12_isLikeSpace_196 : decode cX12_isLikeSpace 196 = .ok (.iconst 0, 1) := by decide +kernel
theorem dX12_isLikeSpace_197 : decode cX12_isLikeSpace 197 = .ok (.istore_n 1, 1) := by decide +kernel
theorem dX12_isLikeSpace_198 : decode cX12_isLikeSpace 198 = .ok (.iinc 2 1, 3) := by decide +kernel
theorem dX12_isLikeSpace_201 : decode cX12_isLikeSpace 201 = .ok (.goto (-51), 3) := by decide +kernel
theorem dX12_isLikeSpace_204 : decode cX12_isLikeSpace 204 = .ok (.iload_n 1, 1) := by decide +kernel
theorem dX12_isLikeSpace_205 : decode cX12_isLikeSpace 205 = .ok (.ireturn, 1) := by decide +kernel
set_option maxHeartbeats 4000000 in
set_option maxRecDepth 100000 in
theorem cn_X12_isLikeSpace {l : Launch} {cA : Nat → ClassId} {ad : Nat → Nat} {D : va_G} {E : Nat → Nat} {A : Nat → Prop}  {s0 sr : SS} {rr : Int32} (hf : f_X12_isLikeSpace s0 = some (rr, sr)) : zCon Om Nm cA ad D E l yX12_isLikeSpace cX12_isLikeSpace 3 (some .boolean) 0 A [.ref (ad 0)] s0 (some (.int rr)) sr := by
  refine zstart (own := RX12) hOm (by decide) rfl (Nat.le_of_ble_eq_true rfl) ?_
  intro p e s m args below meth c X hP ls hl
  have hx := X.1
  have hb := X.2.1
  have hl : lv_has ls 3 [(0, .ref (ad 0))] := hl
  have hS : va_S A s.heap s.heap [] := va_S.rf
  have hc_150 : ∀ (n150 : Nat) (x1 : Int32) (x2 : Int32) (s1 : SS) (H : Heap) (locs : List Loc) (ls : Array Slot), lv_has ls 3 [(0, .ref (ad 0)), (1, .int x1), (2, .int x2)] → va_P D ZCL (zw Om Nm cA ad s1) H → va_S A s.heap H locs → f_X12_isLikeSpace_c150 n150 x1 x2 s1 = some (rr, sr) → W p l e (zrm 0) s m args below meth c H locs 0 0 (MQ below (zQc Om Nm cA ad D A (some (.int rr)) sr) args s 0 0 A) (F0 m 150 ls []) := by
    intro n150
    induction n150 with
    | zero =>
      intro x1 x2 s1 H locs ls hl hP hS hf
      rw [f_X12_isLikeSpace_c150] at hf
      cases hf
    | succ n150 ih150 =>
      have hc_197 : ∀ (x2 : Int32) (t0 : Int32) (s1 : SS) (H : Heap) (locs : List Loc) (ls : Array Slot), lv_has ls 3 [(0, .ref (ad 0)), (2, .int x2)] → va_P D ZCL (zw Om Nm cA ad s1) H → va_S A s.heap H locs → f_X12_isLikeSpace_c197 (f_X12_isLikeSpace_c150 n150) x2 t0 s1 = some (rr, sr) → W p l e (zrm 0) s m args below meth c H locs 0 0 (MQ below (zQc Om Nm cA ad D A (some (.int rr)) sr) args s 0 0 A) (F0 m 197 ls [.int t0]) := by
        intro x2 t0 s1 H locs ls hl hP hS hf
        rw [f_X12_isLikeSpace_c197] at hf
        refine lv_istore_n (lv' := [(1, .int t0), (0, .ref (ad 0)), (2, .int x2)]) hx hb dX12_isLikeSpace_197 rfl hl (by decide) rfl (fun ls hl => ?_)
        refine lv_iinc (v := (x2 + 1)) (lv' := [(2, .int (x2 + 1)), (1, .int t0), (0, .ref (ad 0))]) hx hb dX12_isLikeSpace_198 hl (k := 2) rfl rfl (by decide) rfl (fun ls hl => ?_)
        refine lv_goto (tgt := 150) hx hb dX12_isLikeSpace_201 (by decide) ?_
        exact ih150 t0 (x2 + 1) s1 _ _ _ (lv_sub hl [2, 1, 0] rfl) hP hS hf
      have hc_196 : ∀ (x2 : Int32) (s1 : SS) (H : Heap) (locs : List Loc) (ls : Array Slot), lv_has ls 3 [(0, .ref (ad 0)), (2, .int x2)] → va_P D ZCL (zw Om Nm cA ad s1) H → va_S A s.heap H locs → f_X12_isLikeSpace_c196 (f_X12_isLikeSpace_c150 n150) x2 s1 = some (rr, sr) → W p l e (zrm 0) s m args below meth c H locs 0 0 (MQ below (zQc Om Nm cA ad D A (some (.int rr)) sr) args s 0 0 A) (F0 m 196 ls []) := by
        intro x2 s1 H locs ls hl hP hS hf
        rw [f_X12_isLikeSpace_c196] at hf
        refine lv_iconst (v := 0) hx hb dX12_isLikeSpace_196 (by decide) ?_
        exact hc_197 x2 0 s1 _ _ _ (lv_sub hl [0, 1] rfl) hP hS hf
      intro x1 x2 s1 H locs ls hl hP hS hf
      rw [f_X12_isLikeSpace_c150] at hf
      refine lv_iload_n hx hb dX12_isLikeSpace_150 rfl (lv_at hl 2 rfl) ?_
      refine lv_aload_n hx hb dX12_isLikeSpace_151 rfl (lv_at hl 0 rfl) ?_
      refine gf_X12_12 X hP (k := 0) rfl dX12_isLikeSpace_152 ?_
      refine zicmp_ge (tgt := 204) hx hb dX12_isLikeSpace_155 (by decide) hf (fun hf => ?_) (fun hf => ?_)
      · refine lv_iload_n hx hb dX12_isLikeSpace_204 rfl (lv_at hl 1 rfl) ?_
        obtain ⟨b3, hf⟩ := zgd hf
        exact zret_i X hP hS hf (znar_of (by decide) b3) dX12_isLikeSpace_205
      · refine lv_iload_n hx hb dX12_isLikeSpace_158 rfl (lv_at hl 1 rfl) ?_
        refine zif_eq (tgt := 204) hx hb dX12_isLikeSpace_159 (by decide) hf (fun hf => ?_) (fun hf => ?_)
        · refine lv_iload_n hx hb dX12_isLikeSpace_204 rfl (lv_at hl 1 rfl) ?_
          obtain ⟨b4, hf⟩ := zgd hf
          exact zret_i X hP hS hf (znar_of (by decide) b4) dX12_isLikeSpace_205
        · refine lv_aload_n hx hb dX12_isLikeSpace_162 rfl (lv_at hl 0 rfl) ?_
          refine gf_X12_32 X hP (k := 0) (q := 2) rfl dX12_isLikeSpace_163 rfl ?_
          refine lv_iload_n hx hb dX12_isLikeSpace_166 rfl (lv_at hl 2 rfl) ?_
          obtain ⟨g5, hf⟩ := zgd hf
          refine zald_i X hP (k := 2) (n := 3) (rs := []) rfl g5 dX12_isLikeSpace_167 ?_
          refine lv_aload_n hx hb dX12_isLikeSpace_168 rfl (lv_at hl 0 rfl) ?_
          refine gf_X12_153 X hP (k := 0) (q := 27) rfl dX12_isLikeSpace_169 rfl ?_
          refine lv_iload_n hx hb dX12_isLikeSpace_172 rfl (lv_at hl 2 rfl) ?_
          obtain ⟨g6, hf⟩ := zgd hf
          refine zald_i X hP (k := 27) (n := 3) (rs := []) rfl g6 dX12_isLikeSpace_173 ?_
          refine zicmp_ne (tgt := 196) hx hb dX12_isLikeSpace_174 (by decide) hf (fun hf => ?_) (fun hf => ?_)
          · exact hc_196 x2 s1 _ _ _ (lv_sub hl [0, 2] rfl) hP hS hf
          · refine lv_aload_n hx hb dX12_isLikeSpace_177 rfl (lv_at hl 0 rfl) ?_
            refine gf_X12_37 X hP (k := 0) (q := 3) rfl dX12_isLikeSpace_178 rfl ?_
            refine lv_iload_n hx hb dX12_isLikeSpace_181 rfl (lv_at hl 2 rfl) ?_
            obtain ⟨g7, hf⟩ := zgd hf
            refine zald_i X hP (k := 3) (n := 3) (rs := []) rfl g7 dX12_isLikeSpace_182 ?_
            refine lv_aload_n hx hb dX12_isLikeSpace_183 rfl (lv_at hl 0 rfl) ?_
            refine gf_X12_156 X hP (k := 0) (q := 28) rfl dX12_isLikeSpace_184 rfl ?_
            refine lv_iload_n hx hb dX12_isLikeSpace_187 rfl (lv_at hl 2 rfl) ?_
            obtain ⟨g8, hf⟩ := zgd hf
            refine zald_i X hP (k := 28) (n := 3) (rs := []) rfl g8 dX12_isLikeSpace_188 ?_
            refine zicmp_ne (tgt := 196) hx hb dX12_isLikeSpace_189 (by decide) hf (fun hf => ?_) (fun hf => ?_)
            · exact hc_196 x2 s1 _ _ _ (lv_sub hl [0, 2] rfl) hP hS hf
            · refine lv_iconst (v := 1) hx hb dX12_isLikeSpace_192 (by decide) ?_
              refine lv_goto (tgt := 197) hx hb dX12_isLikeSpace_193 (by decide) ?_
              exact hc_197 x2 1 s1 _ _ _ (lv_sub hl [0, 2] rfl) hP hS hf
  have hc_147 : ∀ (t0 : Int32) (s1 : SS) (H : Heap) (locs : List Loc) (ls : Array Slot), lv_has ls 3 [(0, .ref (ad 0))] → va_P D ZCL (zw Om Nm cA ad s1) H → va_S A s.heap H locs → f_X12_isLikeSpace_c147 t0 s1 = some (rr, sr) → W p l e (zrm 0) s m args below meth c H locs 0 0 (MQ below (zQc Om Nm cA ad D A (some (.int rr)) sr) args s 0 0 A) (F0 m 147 ls [.int t0]) := by
    intro t0 s1 H locs ls hl hP hS hf
    rw [f_X12_isLikeSpace_c147] at hf
    refine lv_istore_n (lv' := [(1, .int t0), (0, .ref (ad 0))]) hx hb dX12_isLikeSpace_147 rfl hl (by decide) rfl (fun ls hl => ?_)
    refine lv_iconst (v := 0) hx hb dX12_isLikeSpace_148 (by decide) ?_
    refine lv_istore_n (lv' := [(2, .int 0), (1, .int t0), (0, .ref (ad 0))]) hx hb dX12_isLikeSpace_149 rfl hl (by decide) rfl (fun ls hl => ?_)
    exact hc_150 ZF t0 0 s1 _ _ _ (lv_sub hl [2, 1, 0] rfl) hP hS hf
  have hc_119 : ∀ (x1 : Int32) (s1 : SS) (H : Heap) (locs : List Loc) (ls : Array Slot), lv_has ls 3 [(0, .ref (ad 0)), (1, .int x1)] → va_P D ZCL (zw Om Nm cA ad s1) H → va_S A s.heap H locs → f_X12_isLikeSpace_c119 x1 s1 = some (rr, sr) → W p l e (zrm 0) s m args below meth c H locs 0 0 (MQ below (zQc Om Nm cA ad D A (some (.int rr)) sr) args s 0 0 A) (F0 m 119 ls []) := by
    intro x1 s1 H locs ls hl hP hS hf
    rw [f_X12_isLikeSpace_c119] at hf
    refine lv_iload_n hx hb dX12_isLikeSpace_119 rfl (lv_at hl 1 rfl) ?_
    refine zif_eq (tgt := 204) hx hb dX12_isLikeSpace_120 (by decide) hf (fun hf => ?_) (fun hf => ?_)
    · refine lv_iload_n hx hb dX12_isLikeSpace_204 rfl (lv_at hl 1 rfl) ?_
      obtain ⟨b1, hf⟩ := zgd hf
      exact zret_i X hP hS hf (znar_of (by decide) b1) dX12_isLikeSpace_205
    · refine lv_aload_n hx hb dX12_isLikeSpace_123 rfl (lv_at hl 0 rfl) ?_
      refine gf_X12_3 X hP (k := 0) rfl dX12_isLikeSpace_124 ?_
      refine lv_iconst (v := 1) hx hb dX12_isLikeSpace_127 (by decide) ?_
      refine zicmp_ne (tgt := 204) hx hb dX12_isLikeSpace_128 (by decide) hf (fun hf => ?_) (fun hf => ?_)
      · refine lv_iload_n hx hb dX12_isLikeSpace_204 rfl (lv_at hl 1 rfl) ?_
        obtain ⟨b2, hf⟩ := zgd hf
        exact zret_i X hP hS hf (znar_of (by decide) b2) dX12_isLikeSpace_205
      · refine lv_aload_n hx hb dX12_isLikeSpace_131 rfl (lv_at hl 0 rfl) ?_
        refine gf_X12_12 X hP (k := 0) rfl dX12_isLikeSpace_132 ?_
        refine lv_aload_n hx hb dX12_isLikeSpace_135 rfl (lv_at hl 0 rfl) ?_
        refine gf_X12_456 X hP (k := 0) rfl dX12_isLikeSpace_136 ?_
        refine zicmp_ne (tgt := 146) hx hb dX12_isLikeSpace_139 (by decide) hf (fun hf => ?_) (fun hf => ?_)
        · refine lv_iconst (v := 0) hx hb dX12_isLikeSpace_146 (by decide) ?_
          exact hc_147 0 s1 _ _ _ (lv_sub hl [0] rfl) hP hS hf
        · refine lv_iconst (v := 1) hx hb dX12_isLikeSpace_142 (by decide) ?_
          refine lv_goto (tgt := 147) hx hb dX12_isLikeSpace_143 (by decide) ?_
          exact hc_147 1 s1 _ _ _ (lv_sub hl [0] rfl) hP hS hf
  have hc_80 : ∀ (n80 : Nat) (x1 : Int32) (x2 : Int32) (s1 : SS) (H : Heap) (locs : List Loc) (ls : Array Slot), lv_has ls 3 [(0, .ref (ad 0)), (1, .int x1), (2, .int x2)] → va_P D ZCL (zw Om Nm cA ad s1) H → va_S A s.heap H locs → f_X12_isLikeSpace_c80 n80 x1 x2 s1 = some (rr, sr) → W p l e (zrm 0) s m args below meth c H locs 0 0 (MQ below (zQc Om Nm cA ad D A (some (.int rr)) sr) args s 0 0 A) (F0 m 80 ls []) := by
    intro n80
    induction n80 with
    | zero =>
      intro x1 x2 s1 H locs ls hl hP hS hf
      rw [f_X12_isLikeSpace_c80] at hf
      cases hf
    | succ n80 ih80 =>
      have hc_112 : ∀ (x2 : Int32) (t0 : Int32) (s1 : SS) (H : Heap) (locs : List Loc) (ls : Array Slot), lv_has ls 3 [(0, .ref (ad 0)), (2, .int x2)] → va_P D ZCL (zw Om Nm cA ad s1) H → va_S A s.heap H locs → f_X12_isLikeSpace_c112 (f_X12_isLikeSpace_c80 n80) x2 t0 s1 = some (rr, sr) → W p l e (zrm 0) s m args below meth c H locs 0 0 (MQ below (zQc Om Nm cA ad D A (some (.int rr)) sr) args s 0 0 A) (F0 m 112 ls [.int t0]) := by
        intro x2 t0 s1 H locs ls hl hP hS hf
        rw [f_X12_isLikeSpace_c112] at hf
        refine lv_istore_n (lv' := [(1, .int t0), (0, .ref (ad 0)), (2, .int x2)]) hx hb dX12_isLikeSpace_112 rfl hl (by decide) rfl (fun ls hl => ?_)
        refine lv_iinc (v := (x2 + 1)) (lv' := [(2, .int (x2 + 1)), (1, .int t0), (0, .ref (ad 0))]) hx hb dX12_isLikeSpace_113 hl (k := 2) rfl rfl (by decide) rfl (fun ls hl => ?_)
        refine lv_goto (tgt := 80) hx hb dX12_isLikeSpace_116 (by decide) ?_
        exact ih80 t0 (x2 + 1) s1 _ _ _ (lv_sub hl [2, 1, 0] rfl) hP hS hf
      intro x1 x2 s1 H locs ls hl hP hS hf
      rw [f_X12_isLikeSpace_c80] at hf
      refine lv_iload_n hx hb dX12_isLikeSpace_80 rfl (lv_at hl 2 rfl) ?_
      refine lv_aload_n hx hb dX12_isLikeSpace_81 rfl (lv_at hl 0 rfl) ?_
      refine gf_X12_9 X hP (k := 0) rfl dX12_isLikeSpace_82 ?_
      refine zicmp_ge (tgt := 119) hx hb dX12_isLikeSpace_85 (by decide) hf (fun hf => ?_) (fun hf => ?_)
      · exact hc_119 x1 s1 _ _ _ (lv_sub hl [0, 1] rfl) hP hS hf
      · refine lv_iload_n hx hb dX12_isLikeSpace_88 rfl (lv_at hl 1 rfl) ?_
        refine zif_eq (tgt := 119) hx hb dX12_isLikeSpace_89 (by decide) hf (fun hf => ?_) (fun hf => ?_)
        · exact hc_119 x1 s1 _ _ _ (lv_sub hl [0, 1] rfl) hP hS hf
        · refine lv_aload_n hx hb dX12_isLikeSpace_92 rfl (lv_at hl 0 rfl) ?_
          refine gf_X12_23 X hP (k := 0) (q := 1) rfl dX12_isLikeSpace_93 rfl ?_
          refine lv_iload_n hx hb dX12_isLikeSpace_96 rfl (lv_at hl 2 rfl) ?_
          obtain ⟨g9, hf⟩ := zgd hf
          refine zald_i X hP (k := 1) (n := 3) (rs := []) rfl g9 dX12_isLikeSpace_97 ?_
          refine lv_aload_n hx hb dX12_isLikeSpace_98 rfl (lv_at hl 0 rfl) ?_
          refine gf_X12_150 X hP (k := 0) (q := 26) rfl dX12_isLikeSpace_99 rfl ?_
          refine lv_iload_n hx hb dX12_isLikeSpace_102 rfl (lv_at hl 2 rfl) ?_
          obtain ⟨g10, hf⟩ := zgd hf
          refine zald_i X hP (k := 26) (n := 3) (rs := []) rfl g10 dX12_isLikeSpace_103 ?_
          refine zicmp_ne (tgt := 111) hx hb dX12_isLikeSpace_104 (by decide) hf (fun hf => ?_) (fun hf => ?_)
          · refine lv_iconst (v := 0) hx hb dX12_isLikeSpace_111 (by decide) ?_
            exact hc_112 x2 0 s1 _ _ _ (lv_sub hl [0, 2] rfl) hP hS hf
          · refine lv_iconst (v := 1) hx hb dX12_isLikeSpace_107 (by decide) ?_
            refine lv_goto (tgt := 112) hx hb dX12_isLikeSpace_108 (by decide) ?_
            exact hc_112 x2 1 s1 _ _ _ (lv_sub hl [0, 2] rfl) hP hS hf
  have hc_77 : ∀ (t0 : Int32) (s1 : SS) (H : Heap) (locs : List Loc) (ls : Array Slot), lv_has ls 3 [(0, .ref (ad 0))] → va_P D ZCL (zw Om Nm cA ad s1) H → va_S A s.heap H locs → f_X12_isLikeSpace_c77 t0 s1 = some (rr, sr) → W p l e (zrm 0) s m args below meth c H locs 0 0 (MQ below (zQc Om Nm cA ad D A (some (.int rr)) sr) args s 0 0 A) (F0 m 77 ls [.int t0]) := by
    intro t0 s1 H locs ls hl hP hS hf
    rw [f_X12_isLikeSpace_c77] at hf
    refine lv_istore_n (lv' := [(1, .int t0), (0, .ref (ad 0))]) hx hb dX12_isLikeSpace_77 rfl hl (by decide) rfl (fun ls hl => ?_)
    refine lv_iconst (v := 0) hx hb dX12_isLikeSpace_78 (by decide) ?_
    refine lv_istore_n (lv' := [(2, .int 0), (1, .int t0), (0, .ref (ad 0))]) hx hb dX12_isLikeSpace_79 rfl hl (by decide) rfl (fun ls hl => ?_)
    exact hc_80 ZF t0 0 s1 _ _ _ (lv_sub hl [2, 1, 0] rfl) hP hS hf
  have hc_76 : ∀  (s1 : SS) (H : Heap) (locs : List Loc) (ls : Array Slot), lv_has ls 3 [(0, .ref (ad 0))] → va_P D ZCL (zw Om Nm cA ad s1) H → va_S A s.heap H locs → f_X12_isLikeSpace_c76  s1 = some (rr, sr) → W p l e (zrm 0) s m args below meth c H locs 0 0 (MQ below (zQc Om Nm cA ad D A (some (.int rr)) sr) args s 0 0 A) (F0 m 76 ls []) := by
    intro  s1 H locs ls hl hP hS hf
    rw [f_X12_isLikeSpace_c76] at hf
    refine lv_iconst (v := 0) hx hb dX12_isLikeSpace_76 (by decide) ?_
    exact hc_77 0 s1 _ _ _ (lv_sub hl [0] rfl) hP hS hf
  have hc_38 : ∀ (t0 : Int32) (s1 : SS) (H : Heap) (locs : List Loc) (ls : Array Slot), lv_has ls 3 [(0, .ref (ad 0))] → va_P D ZCL (zw Om Nm cA ad s1) H → va_S A s.heap H locs → f_X12_isLikeSpace_c38 t0 s1 = some (rr, sr) → W p l e (zrm 0) s m args below meth c H locs 0 0 (MQ below (zQc Om Nm cA ad D A (some (.int rr)) sr) args s 0 0 A) (F0 m 38 ls [.int t0]) := by
    intro t0 s1 H locs ls hl hP hS hf
    rw [f_X12_isLikeSpace_c38] at hf
    refine lv_istore_n (lv' := [(1, .int t0), (0, .ref (ad 0))]) hx hb dX12_isLikeSpace_38 rfl hl (by decide) rfl (fun ls hl => ?_)
    refine lv_iload_n hx hb dX12_isLikeSpace_39 rfl (lv_at hl 0 rfl) ?_
    refine zif_eq (tgt := 119) hx hb dX12_isLikeSpace_40 (by decide) hf (fun hf => ?_) (fun hf => ?_)
    · exact hc_119 t0 s1 _ _ _ (lv_sub hl [1, 0] rfl) hP hS hf
    · refine lv_aload_n hx hb dX12_isLikeSpace_43 rfl (lv_at hl 1 rfl) ?_
      refine gf_X12_3 X hP (k := 0) rfl dX12_isLikeSpace_44 ?_
      refine zif_ne (tgt := 119) hx hb dX12_isLikeSpace_47 (by decide) hf (fun hf => ?_) (fun hf => ?_)
      · exact hc_119 t0 s1 _ _ _ (lv_sub hl [1, 0] rfl) hP hS hf
      · refine lv_aload_n hx hb dX12_isLikeSpace_50 rfl (lv_at hl 1 rfl) ?_
        refine gf_X12_9 X hP (k := 0) rfl dX12_isLikeSpace_51 ?_
        refine lv_aload_n hx hb dX12_isLikeSpace_54 rfl (lv_at hl 1 rfl) ?_
        refine gf_X12_453 X hP (k := 0) rfl dX12_isLikeSpace_55 ?_
        refine zicmp_ne (tgt := 76) hx hb dX12_isLikeSpace_58 (by decide) hf (fun hf => ?_) (fun hf => ?_)
        · exact hc_76  s1 _ _ _ (lv_sub hl [1] rfl) hP hS hf
        · refine lv_aload_n hx hb dX12_isLikeSpace_61 rfl (lv_at hl 1 rfl) ?_
          refine gf_X12_12 X hP (k := 0) rfl dX12_isLikeSpace_62 ?_
          refine lv_aload_n hx hb dX12_isLikeSpace_65 rfl (lv_at hl 1 rfl) ?_
          refine gf_X12_456 X hP (k := 0) rfl dX12_isLikeSpace_66 ?_
          refine zicmp_ne (tgt := 76) hx hb dX12_isLikeSpace_69 (by decide) hf (fun hf => ?_) (fun hf => ?_)
          · exact hc_76  s1 _ _ _ (lv_sub hl [1] rfl) hP hS hf
          · refine lv_iconst (v := 1) hx hb dX12_isLikeSpace_72 (by decide) ?_
            refine lv_goto (tgt := 77) hx hb dX12_isLikeSpace_73 (by decide) ?_
            exact hc_77 1 s1 _ _ _ (lv_sub hl [1] rfl) hP hS hf
  have hc_37 : ∀  (s1 : SS) (H : Heap) (locs : List Loc) (ls : Array Slot), lv_has ls 3 [(0, .ref (ad 0))] → va_P D ZCL (zw Om Nm cA ad s1) H → va_S A s.heap H locs → f_X12_isLikeSpace_c37  s1 = some (rr, sr) → W p l e (zrm 0) s m args below meth c H locs 0 0 (MQ below (zQc Om Nm cA ad D A (some (.int rr)) sr) args s 0 0 A) (F0 m 37 ls []) := by
    intro  s1 H locs ls hl hP hS hf
    rw [f_X12_isLikeSpace_c37] at hf
    refine lv_iconst (v := 0) hx hb dX12_isLikeSpace_37 (by decide) ?_
    exact hc_38 0 s1 _ _ _ (lv_sub hl [0] rfl) hP hS hf
  rw [f_X12_isLikeSpace] at hf
  refine lv_aload_n hx hb dX12_isLikeSpace_0 rfl (lv_at hl 0 rfl) ?_
  refine gf_X12_3 X hP (k := 0) rfl dX12_isLikeSpace_1 ?_
  refine lv_aload_n hx hb dX12_isLikeSpace_4 rfl (lv_at hl 0 rfl) ?_
  refine gf_X12_447 X hP (k := 0) rfl dX12_isLikeSpace_5 ?_
  refine zicmp_ne (tgt := 37) hx hb dX12_isLikeSpace_8 (by decide) hf (fun hf => ?_) (fun hf => ?_)
  · exact hc_37  s0 _ _ _ (lv_sub hl [0] rfl) hP hS hf
  · refine lv_aload_n hx hb dX12_isLikeSpace_11 rfl (lv_at hl 0 rfl) ?_
    refine gf_X12_27 X hP (k := 0) rfl dX12_isLikeSpace_12 ?_
    refine lv_aload_n hx hb dX12_isLikeSpace_15 rfl (lv_at hl 0 rfl) ?_
    refine gf_X12_450 X hP (k := 0) rfl dX12_isLikeSpace_16 ?_
    refine zicmp_ne (tgt := 37) hx hb dX12_isLikeSpace_19 (by decide) hf (fun hf => ?_) (fun hf => ?_)
    · exact hc_37  s0 _ _ _ (lv_sub hl [0] rfl) hP hS hf
    · refine lv_aload_n hx hb dX12_isLikeSpace_22 rfl (lv_at hl 0 rfl) ?_
      refine gf_X12_89 X hP (k := 0) rfl dX12_isLikeSpace_23 ?_
      refine lv_aload_n hx hb dX12_isLikeSpace_26 rfl (lv_at hl 0 rfl) ?_
      refine gf_X12_459 X hP (k := 0) rfl dX12_isLikeSpace_27 ?_
      refine zicmp_ne (tgt := 37) hx hb dX12_isLikeSpace_30 (by decide) hf (fun hf => ?_) (fun hf => ?_)
      · exact hc_37  s0 _ _ _ (lv_sub hl [0] rfl) hP hS hf
      · refine lv_iconst (v := 1) hx hb dX12_isLikeSpace_33 (by decide) ?_
        refine lv_goto (tgt := 38) hx hb dX12_isLikeSpace_34 (by decide) ?_
        exact hc_38 1 s0 _ _ _ (lv_sub hl [0] rfl) hP hS hf
theorem dX12_alike_0 : decode cX12_alike 0 = .ok (.aload_n 0, 1) := by decide +kernel
theorem dX12_alike_1 : decode cX12_alike 1 = .ok (.getfield 444, 3) := by decide +kernel
theorem dX12_alike_4 : decode cX12_alike 4 = .ok (.ifCond .ne 6, 3) := by decide +kernel
theorem dX12_alike_7 : decode cX12_alike 7 = .ok (.bipush (-5), 2) := by decide +kernel
theorem dX12_alike_9 : decode cX12_alike 9 = .ok (.ireturn, 1) := by decide +kernel
theorem dX12_alike_10 : decode cX12_alike 10 = .ok (.aload_n 0, 1) := by decide +kernel
theorem dX12_alike_11 : decode cX12_alike 11 = .ok (.invokevirtual 462, 3) := by decide +kernel
theorem dX12_alike_14 : decode cX12_alike 14 = .ok (.istore_n 1, 1) := by decide +kernel
theorem dX12_alike_15 : decode cX12_alike 15 = .ok (.iconst 0, 1) := by decide +kernel
theorem dX12_alike_16 : decode cX12_alike 16 = .ok (.istore_n 2, 1) := by decide +kernel
theorem dX12_alike_17 : decode cX12_alike 17 = .ok (.iload_n 2, 1) := by decide +kernel
theorem dX12_alike_18 : decode cX12_alike 18 = .ok (.aload_n 0, 1) := by decide +kernel
theorem dX12_alike_19 : decode cX12_alike 19 = .ok (.getfield 89, 3) := by decide +kernel
theorem dX12_alike_22 : decode cX12_alike 22 = .ok (.if_icmp .ge 103, 3) := by decide +kernel
theorem dX12_alike_25 : decode cX12_alike 25 = .ok (.iload_n 1, 1) := by decide +kernel
theorem dX12_alike_26 : decode cX12_alike 26 = .ok (.ifCond .eq 99, 3) := by decide +kernel
theorem dX12_alike_29 : decode cX12_alike 29 = .ok (.aload_n 0, 1) := by decide +kernel
theorem dX12_alike_30 : decode cX12_alike 30 = .ok (.getfield 105, 3) := by decide +kernel
theorem dX12_alike_33 : decode cX12_alike 33 = .ok (.iload_n 2, 1) := by decide +kernel
theorem dX12_alike_34 : decode cX12_alike 34 = .ok (.iaload, 1) := by decide +kernel
theorem dX12_alike_35 : decode cX12_alike 35 = .ok (.aload_n 0, 1) := by decide +kernel
theorem dX12_alike_36 : decode cX12_alike 36 = .ok (.getfield 159, 3) := by decide +kernel
theorem dX12_alike_39 : decode cX12_alike 39 = .ok (.iload_n 2, 1) := by decide +kernel
theorem dX12_alike_40 : decode cX12_alike 40 = .ok (.iaload, 1) := by decide +kernel
theorem dX12_alike_41 : decode cX12_alike 41 = .ok (.if_icmp .ne 22, 3) := by decide +kernel
theorem dX12_alike_44 : decode cX12_alike 44 = .ok (.aload_n 0, 1) := by decide +kernel
theorem dX12_alike_45 : decode cX12_alike 45 = .ok (.getfield 108, 3) := by decide +kernel
theorem dX12_alike_48 : decode cX12_alike 48 = .ok (.iload_n 2, 1) := by decide +kernel
theorem dX12_alike_49 : decode cX12_alike 49 = .ok (.iaload, 1) := by decide +kernel
theorem dX12_alike_50 : decode cX12_alike 50 = .ok (.aload_n 0, 1) := by decide +kernel
theorem dX12_alike_51 : decode cX12_alike 51 = .ok (.getfield 162, 3) := by decide +kernel
theorem dX12_alike_54 : decode cX12_alike 54 = .ok (.iload_n 2, 1) := by decide +kernel
theorem dX12_alike_55 : decode cX12_alike 55 = .ok (.iaload, 1) := by decide +kernel
theorem dX12_alike_56 : decode cX12_alike 56 = .ok (.if_icmp .ne 7, 3) := by decide +kernel
theorem dX12_alike_59 : decode cX12_alike 59 = .ok (.iconst 1, 1) := by decide +kernel
theorem dX12_alike_60 : decode cX12_alike 60 = .ok (.goto 4, 3) := by decide +kernel
theorem dX12_alike_63 : decode cX12_alike 63 = .ok (.iconst 0, 1) := by decide +kernel
theorem dX12_alike_64 : decode cX12_alike 64 = .ok (.istore_n 1, 1) := by decide +kernel
theorem dX12_alike_65 : decode cX12_alike 65 = .ok (.iconst 0, 1) := by decide +kernel
theorem dX12_alike_66 : decode cX12_alike 66 = .ok (.istore_n 3, 1) := by decide +kernel
theorem dX12_alike_67 : decode cX12_alike 67 = .ok (.iload_n 3, 1) := by decide +kernel
theorem dX12_alike_68 : decode cX12_alike 68 = .ok (.aload_n 0, 1) := by decide +kernel
theorem dX12_alike_69 : decode cX12_alike 69 = .ok (.getfield 56, 3) := by decide +kernel
theorem dX12_alike_72 : decode cX12_alike 72 = .ok (.if_icmp .ge 47, 3) := by decide +kernel
theorem dX12_alike_75 : decode cX12_alike 75 = .ok (.iload_n 1, 1) := by decide +kernel
theorem dX12_alike_76 : decode cX12_alike 76 = .ok (.ifCond .eq 43, 3) := by decide +kernel
theorem dX12_alike_79 : decode cX12_alike 79 = .ok (.aload_n 0, 1) := by decide +kernel
theorem dX12_alike_80 : decode cX12_alike 80 = .ok (.getfield 95, 3) := by decide +kernel
theorem dX12_alike_83 : decode cX12_alike 83 = .ok (.sipush 462, 3) := by decide +kernel
theorem dX12_alike_86 : decode cX12_alike 86 = .ok (.iload_n 2, 1) := by decide +kernel
theorem dX12_alike_87 : decode cX12_alike 87 = .ok (.imul, 1) := by decide +kernel
theorem dX12_alike_88 : decode cX12_alike 88 = .ok (.iload_n 3, 1) := by decide +kernel
theorem dX12_alike_89 : decode cX12_alike 89 = .ok (.iadd, 1) := by decide +kernel
theorem dX12_alike_90 : decode cX12_alike 90 = .ok (.laload, 1) := by decide +kernel
theorem dX12_alike_91 : decode cX12_alike 91 = .ok (.aload_n 0, 1) := by decide +kernel
theorem dX12_alike_92 : decode cX12_alike 92 = .ok (.getfield 165, 3) := by decide +kernel
theorem dX12_alike_95 : decode cX12_alike 95 = .ok (.sipush 462, 3) := by decide +kernel
theorem dX12_alike_98 : decode cX12_alike 98 = .ok (.iload_n 2, 1) := by decide +kernel
theorem dX12_alike_99 : decode cX12_alike 99 = .ok (.imul, 1) := by decide +kernel
theorem dX12_alike_100 : decode cX12_alike 100 = .ok (.iload_n 3, 1) := by decide +kernel
theorem dX12_alike_101 : decode cX12_alike 101 = .ok (.iadd, 1) := by decide +kernel
theorem dX12_alike_102 : decode cX12_alike 102 = .ok (.laload, 1) := by decide +kernel
theorem dX12_alike_103 : decode cX12_alike 103 = .ok (.lcmp, 1) := by decide +kernel
theorem dX12_alike_104 : decode cX12_alike 104 = .ok (.ifCond .ne 7, 3) := by decide +kernel
theorem dX12_alike_107 : decode cX12_alike 107 = .ok (.iconst 1, 1) := by decide +kernel
theorem dX12_alike_108 : decode cX12_alike 108 = .ok (.goto 4, 3) := by decide +kernel
theorem dX12_alike_111 : decode cX12_alike 111 = .ok (.iconst 0, 1) := by decide +kernel
theorem dX12_alike_112 : decode cX12_alike 112 = .ok (.istore_n 1, 1) := by decide +kernel
theorem dX12_alike_113 : decode cX12_alike 113 = .ok (.iinc 3 1, 3) := by decide +kernel
theorem dX12_alike_116 : decode cX12_alike 116 = .ok (.goto (-49), 3) := by decide +kernel
theorem dX12_alike_119 : decode cX12_alike 119 = .ok (.iinc 2 1, 3) := by decide +kernel
theorem dX12_alike_122 : decode cX12_alike 122 = .ok (.goto (-105), 3) := by decide +kernel
theorem dX12_alike_125 : decode cX12_alike 125 = .ok (.iload_n 1, 1) := by decide +kernel
theorem dX12_alike_126 : decode cX12_alike 126 = .ok (.ifCond .eq 7, 3) := by decide +kernel
theorem dX12_alike_129 : decode cX12_alike 129 = .ok (.iconst 1, 1) := by decide +kernel
theorem dX12_alike_130 : decode cX12_alike 130 = .ok (.goto 4, 3) := by decide +kernel
theorem dX12_alike_133 : decode cX12_alike 133 = .ok (.iconst 0, 1) := by decide +kernel
theorem dX12_alike_134 : decode cX12_alike 134 = .ok (.ireturn, 1) := by decide +kernel
set_option maxHeartbeats 4000000 in
set_option maxRecDepth 100000 in
theorem cn_X12_alike {l : Launch} {cA : Nat → ClassId} {ad : Nat → Nat} {D : va_G} {E : Nat → Nat} {A : Nat → Prop}  {s0 sr : SS} {rr : Int32} (hf : f_X12_alike s0 = some (rr, sr)) : zCon Om Nm cA ad D E l yX12_alike cX12_alike 4 (some .int) 1 A [.ref (ad 0)] s0 (some (.int rr)) sr := by
  refine zstart (own := RX12) hOm (by decide) rfl (Nat.le_of_ble_eq_true rfl) ?_
  intro p e s m args below meth c X hP ls hl
  have hx := X.1
  have hb := X.2.1
  have hl : lv_has ls 4 [(0, .ref (ad 0))] := hl
  have hS : va_S A s.heap s.heap [] := va_S.rf
  have hc_17 : ∀ (n17 : Nat) (x1 : Int32) (x2 : Int32) (s1 : SS) (H : Heap) (locs : List Loc) (ls : Array Slot), lv_has ls 4 [(0, .ref (ad 0)), (1, .int x1), (2, .int x2)] → va_P D ZCL (zw Om Nm cA ad s1) H → va_S A s.heap H locs → f_X12_alike_c17 n17 x1 x2 s1 = some (rr, sr) → W p l e (zrm 1) s m args below meth c H locs 0 0 (MQ below (zQc Om Nm cA ad D A (some (.int rr)) sr) args s 0 0 A) (F0 m 17 ls []) := by
    intro n17
    induction n17 with
    | zero =>
      intro x1 x2 s1 H locs ls hl hP hS hf
      rw [f_X12_alike_c17] at hf
      cases hf
    | succ n17 ih17 =>
      have hc_125 : ∀ (x1 : Int32) (s1 : SS) (H : Heap) (locs : List Loc) (ls : Array Slot), lv_has ls 4 [(1, .int x1)] → va_P D ZCL (zw Om Nm cA ad s1) H → va_S A s.heap H locs → f_X12_alike_c125 x1 s1 = some (rr, sr) → W p l e (zrm 1) s m args below meth c H locs 0 0 (MQ below (zQc Om Nm cA ad D A (some (.int rr)) sr) args s 0 0 A) (F0 m 125 ls []) := by
        intro x1 s1 H locs ls hl hP hS hf
        rw [f_X12_alike_c125] at hf
        refine lv_iload_n hx hb dX12_alike_125 rfl (lv_at hl 0 rfl) ?_
        refine zif_eq (tgt := 133) hx hb dX12_alike_126 (by decide) hf (fun hf => ?_) (fun hf => ?_)
        · refine lv_iconst (v := 0) hx hb dX12_alike_133 (by decide) ?_
          exact zret_i X hP hS hf rfl dX12_alike_134
        · refine lv_iconst (v := 1) hx hb dX12_alike_129 (by decide) ?_
          refine lv_goto (tgt := 134) hx hb dX12_alike_130 (by decide) ?_
          exact zret_i X hP hS hf rfl dX12_alike_134
      have hc_67 : ∀ (n67 : Nat) (x1 : Int32) (x2 : Int32) (x3 : Int32) (s1 : SS) (H : Heap) (locs : List Loc) (ls : Array Slot), lv_has ls 4 [(0, .ref (ad 0)), (1, .int x1), (2, .int x2), (3, .int x3)] → va_P D ZCL (zw Om Nm cA ad s1) H → va_S A s.heap H locs → f_X12_alike_c67 (f_X12_alike_c17 n17) n67 x1 x2 x3 s1 = some (rr, sr) → W p l e (zrm 1) s m args below meth c H locs 0 0 (MQ below (zQc Om Nm cA ad D A (some (.int rr)) sr) args s 0 0 A) (F0 m 67 ls []) := by
        intro n67
        induction n67 with
        | zero =>
          intro x1 x2 x3 s1 H locs ls hl hP hS hf
          rw [f_X12_alike_c67] at hf
          cases hf
        | succ n67 ih67 =>
          have hc_119 : ∀ (x1 : Int32) (x2 : Int32) (s1 : SS) (H : Heap) (locs : List Loc) (ls : Array Slot), lv_has ls 4 [(0, .ref (ad 0)), (1, .int x1), (2, .int x2)] → va_P D ZCL (zw Om Nm cA ad s1) H → va_S A s.heap H locs → f_X12_alike_c119 (f_X12_alike_c17 n17) x1 x2 s1 = some (rr, sr) → W p l e (zrm 1) s m args below meth c H locs 0 0 (MQ below (zQc Om Nm cA ad D A (some (.int rr)) sr) args s 0 0 A) (F0 m 119 ls []) := by
            intro x1 x2 s1 H locs ls hl hP hS hf
            rw [f_X12_alike_c119] at hf
            refine lv_iinc (v := (x2 + 1)) (lv' := [(2, .int (x2 + 1)), (0, .ref (ad 0)), (1, .int x1)]) hx hb dX12_alike_119 hl (k := 2) rfl rfl (by decide) rfl (fun ls hl => ?_)
            refine lv_goto (tgt := 17) hx hb dX12_alike_122 (by decide) ?_
            exact ih17 x1 (x2 + 1) s1 _ _ _ (lv_sub hl [1, 2, 0] rfl) hP hS hf
          have hc_112 : ∀ (x2 : Int32) (x3 : Int32) (t0 : Int32) (s1 : SS) (H : Heap) (locs : List Loc) (ls : Array Slot), lv_has ls 4 [(0, .ref (ad 0)), (2, .int x2), (3, .int x3)] → va_P D ZCL (zw Om Nm cA ad s1) H → va_S A s.heap H locs → f_X12_alike_c112 (f_X12_alike_c67 (f_X12_alike_c17 n17) n67) (f_X12_alike_c17 n17) x2 x3 t0 s1 = some (rr, sr) → W p l e (zrm 1) s m args below meth c H locs 0 0 (MQ below (zQc Om Nm cA ad D A (some (.int rr)) sr) args s 0 0 A) (F0 m 112 ls [.int t0]) := by
            intro x2 x3 t0 s1 H locs ls hl hP hS hf
            rw [f_X12_alike_c112] at hf
            refine lv_istore_n (lv' := [(1, .int t0), (0, .ref (ad 0)), (2, .int x2), (3, .int x3)]) hx hb dX12_alike_112 rfl hl (by decide) rfl (fun ls hl => ?_)
            refine lv_iinc (v := (x3 + 1)) (lv' := [(3, .int (x3 + 1)), (1, .int t0), (0, .ref (ad 0)), (2, .int x2)]) hx hb dX12_alike_113 hl (k := 3) rfl rfl (by decide) rfl (fun ls hl => ?_)
            refine lv_goto (tgt := 67) hx hb dX12_alike_116 (by decide) ?_
            exact ih67 t0 x2 (x3 + 1) s1 _ _ _ (lv_sub hl [2, 1, 3, 0] rfl) hP hS hf
          intro x1 x2 x3 s1 H locs ls hl hP hS hf
          rw [f_X12_alike_c67] at hf
          refine lv_iload_n hx hb dX12_alike_67 rfl (lv_at hl 3 rfl) ?_
          refine lv_aload_n hx hb dX12_alike_68 rfl (lv_at hl 0 rfl) ?_
          refine gf_X12_56 X hP (k := 0) rfl dX12_alike_69 ?_
          refine zicmp_ge (tgt := 119) hx hb dX12_alike_72 (by decide) hf (fun hf => ?_) (fun hf => ?_)
          · exact hc_119 x1 x2 s1 _ _ _ (lv_sub hl [0, 1, 2] rfl) hP hS hf
          · refine lv_iload_n hx hb dX12_alike_75 rfl (lv_at hl 1 rfl) ?_
            refine zif_eq (tgt := 119) hx hb dX12_alike_76 (by decide) hf (fun hf => ?_) (fun hf => ?_)
            · exact hc_119 x1 x2 s1 _ _ _ (lv_sub hl [0, 1, 2] rfl) hP hS hf
            · refine lv_aload_n hx hb dX12_alike_79 rfl (lv_at hl 0 rfl) ?_
              refine gf_X12_95 X hP (k := 0) (q := 10) rfl dX12_alike_80 rfl ?_
              refine lv_sipush (v := 462) hx hb dX12_alike_83 (by decide) ?_
              refine lv_iload_n hx hb dX12_alike_86 rfl (lv_at hl 2 rfl) ?_
              refine lv_imul hx hb dX12_alike_87 ?_
              refine lv_iload_n hx hb dX12_alike_88 rfl (lv_at hl 3 rfl) ?_
              refine lv_iadd hx hb dX12_alike_89 ?_
              obtain ⟨g6, hf⟩ := zgd hf
              refine zald_l X hP (k := 10) (n := 3696) (rs := []) rfl g6 dX12_alike_90 ?_
              refine lv_aload_n hx hb dX12_alike_91 rfl (lv_at hl 0 rfl) ?_
              refine gf_X12_165 X hP (k := 0) (q := 31) rfl dX12_alike_92 rfl ?_
              refine lv_sipush (v := 462) hx hb dX12_alike_95 (by decide) ?_
              refine lv_iload_n hx hb dX12_alike_98 rfl (lv_at hl 2 rfl) ?_
              refine lv_imul hx hb dX12_alike_99 ?_
              refine lv_iload_n hx hb dX12_alike_100 rfl (lv_at hl 3 rfl) ?_
              refine lv_iadd hx hb dX12_alike_101 ?_
              obtain ⟨g7, hf⟩ := zgd hf
              refine zald_l X hP (k := 31) (n := 3696) (rs := []) rfl g7 dX12_alike_102 ?_
              refine W.lcmp hx hb dX12_alike_103 ?_
              refine zif_ne (tgt := 111) hx hb dX12_alike_104 (by decide) hf (fun hf => ?_) (fun hf => ?_)
              · refine lv_iconst (v := 0) hx hb dX12_alike_111 (by decide) ?_
                exact hc_112 x2 x3 0 s1 _ _ _ (lv_sub hl [0, 2, 3] rfl) hP hS hf
              · refine lv_iconst (v := 1) hx hb dX12_alike_107 (by decide) ?_
                refine lv_goto (tgt := 112) hx hb dX12_alike_108 (by decide) ?_
                exact hc_112 x2 x3 1 s1 _ _ _ (lv_sub hl [0, 2, 3] rfl) hP hS hf
      have hc_64 : ∀ (x2 : Int32) (t0 : Int32) (s1 : SS) (H : Heap) (locs : List Loc) (ls : Array Slot), lv_has ls 4 [(0, .ref (ad 0)), (2, .int x2)] → va_P D ZCL (zw Om Nm cA ad s1) H → va_S A s.heap H locs → f_X12_alike_c64 (f_X12_alike_c17 n17) x2 t0 s1 = some (rr, sr) → W p l e (zrm 1) s m args below meth c H locs 0 0 (MQ below (zQc Om Nm cA ad D A (some (.int rr)) sr) args s 0 0 A) (F0 m 64 ls [.int t0]) := by
        intro x2 t0 s1 H locs ls hl hP hS hf
        rw [f_X12_alike_c64] at hf
        refine lv_istore_n (lv' := [(1, .int t0), (0, .ref (ad 0)), (2, .int x2)]) hx hb dX12_alike_64 rfl hl (by decide) rfl (fun ls hl => ?_)
        refine lv_iconst (v := 0) hx hb dX12_alike_65 (by decide) ?_
        refine lv_istore_n (lv' := [(3, .int 0), (1, .int t0), (0, .ref (ad 0)), (2, .int x2)]) hx hb dX12_alike_66 rfl hl (by decide) rfl (fun ls hl => ?_)
        exact hc_67 ZF t0 x2 0 s1 _ _ _ (lv_sub hl [2, 1, 3, 0] rfl) hP hS hf
      have hc_63 : ∀ (x2 : Int32) (s1 : SS) (H : Heap) (locs : List Loc) (ls : Array Slot), lv_has ls 4 [(0, .ref (ad 0)), (2, .int x2)] → va_P D ZCL (zw Om Nm cA ad s1) H → va_S A s.heap H locs → f_X12_alike_c63 (f_X12_alike_c17 n17) x2 s1 = some (rr, sr) → W p l e (zrm 1) s m args below meth c H locs 0 0 (MQ below (zQc Om Nm cA ad D A (some (.int rr)) sr) args s 0 0 A) (F0 m 63 ls []) := by
        intro x2 s1 H locs ls hl hP hS hf
        rw [f_X12_alike_c63] at hf
        refine lv_iconst (v := 0) hx hb dX12_alike_63 (by decide) ?_
        exact hc_64 x2 0 s1 _ _ _ (lv_sub hl [0, 1] rfl) hP hS hf
      intro x1 x2 s1 H locs ls hl hP hS hf
      rw [f_X12_alike_c17] at hf
      refine lv_iload_n hx hb dX12_alike_17 rfl (lv_at hl 2 rfl) ?_
      refine lv_aload_n hx hb dX12_alike_18 rfl (lv_at hl 0 rfl) ?_
      refine gf_X12_89 X hP (k := 0) rfl dX12_alike_19 ?_
      refine zicmp_ge (tgt := 125) hx hb dX12_alike_22 (by decide) hf (fun hf => ?_) (fun hf => ?_)
      · exact hc_125 x1 s1 _ _ _ (lv_sub hl [1] rfl) hP hS hf
      · refine lv_iload_n hx hb dX12_alike_25 rfl (lv_at hl 1 rfl) ?_
        refine zif_eq (tgt := 125) hx hb dX12_alike_26 (by decide) hf (fun hf => ?_) (fun hf => ?_)
        · exact hc_125 x1 s1 _ _ _ (lv_sub hl [1] rfl) hP hS hf
        · refine lv_aload_n hx hb dX12_alike_29 rfl (lv_at hl 0 rfl) ?_
          refine gf_X12_105 X hP (k := 0) (q := 8) rfl dX12_alike_30 rfl ?_
          refine lv_iload_n hx hb dX12_alike_33 rfl (lv_at hl 2 rfl) ?_
          obtain ⟨g4, hf⟩ := zgd hf
          refine zald_i X hP (k := 8) (n := 8) (rs := []) rfl g4 dX12_alike_34 ?_
          refine lv_aload_n hx hb dX12_alike_35 rfl (lv_at hl 0 rfl) ?_
          refine gf_X12_159 X hP (k := 0) (q := 29) rfl dX12_alike_36 rfl ?_
          refine lv_iload_n hx hb dX12_alike_39 rfl (lv_at hl 2 rfl) ?_
          obtain ⟨g5, hf⟩ := zgd hf
          refine zald_i X hP (k := 29) (n := 8) (rs := []) rfl g5 dX12_alike_40 ?_
          refine zicmp_ne (tgt := 63) hx hb dX12_alike_41 (by decide) hf (fun hf => ?_) (fun hf => ?_)
          · exact hc_63 x2 s1 _ _ _ (lv_sub hl [0, 2] rfl) hP hS hf
          · refine lv_aload_n hx hb dX12_alike_44 rfl (lv_at hl 0 rfl) ?_
            refine gf_X12_108 X hP (k := 0) (q := 9) rfl dX12_alike_45 rfl ?_
            refine lv_iload_n hx hb dX12_alike_48 rfl (lv_at hl 2 rfl) ?_
            obtain ⟨g8, hf⟩ := zgd hf
            refine zald_i X hP (k := 9) (n := 8) (rs := []) rfl g8 dX12_alike_49 ?_
            refine lv_aload_n hx hb dX12_alike_50 rfl (lv_at hl 0 rfl) ?_
            refine gf_X12_162 X hP (k := 0) (q := 30) rfl dX12_alike_51 rfl ?_
            refine lv_iload_n hx hb dX12_alike_54 rfl (lv_at hl 2 rfl) ?_
            obtain ⟨g9, hf⟩ := zgd hf
            refine zald_i X hP (k := 30) (n := 8) (rs := []) rfl g9 dX12_alike_55 ?_
            refine zicmp_ne (tgt := 63) hx hb dX12_alike_56 (by decide) hf (fun hf => ?_) (fun hf => ?_)
            · exact hc_63 x2 s1 _ _ _ (lv_sub hl [0, 2] rfl) hP hS hf
            · refine lv_iconst (v := 1) hx hb dX12_alike_59 (by decide) ?_
              refine lv_goto (tgt := 64) hx hb dX12_alike_60 (by decide) ?_
              exact hc_64 x2 1 s1 _ _ _ (lv_sub hl [0, 2] rfl) hP hS hf
  rw [f_X12_alike] at hf
  refine lv_aload_n hx hb dX12_alike_0 rfl (lv_at hl 0 rfl) ?_
  refine gf_X12_444 X hP (k := 0) rfl dX12_alike_1 ?_
  refine zif_ne (tgt := 10) hx hb dX12_alike_4 (by decide) hf (fun hf => ?_) (fun hf => ?_)
  · refine lv_aload_n hx hb dX12_alike_10 rfl (lv_at hl 0 rfl) ?_
    obtain ⟨r1, s2, h3, hf⟩ := zbd_some hf
    refine zcallV X hP hS hl.1 (k := 0) (As := []) (rest := []) (cn_X12_isLikeSpace h3) cw_X12_isLikeSpace zp_12 rfl (by decide) rfl ml_X12_462 (by decide) rfl rfl (Nat.le_of_ble_eq_true rfl) dX12_alike_11 (fun H locs hP hS => ?_)
    refine lv_istore_n (lv' := [(1, .int r1), (0, .ref (ad 0))]) hx hb dX12_alike_14 rfl hl (by decide) rfl (fun ls hl => ?_)
    refine lv_iconst (v := 0) hx hb dX12_alike_15 (by decide) ?_
    refine lv_istore_n (lv' := [(2, .int 0), (1, .int r1), (0, .ref (ad 0))]) hx hb dX12_alike_16 rfl hl (by decide) rfl (fun ls hl => ?_)
    exact hc_17 ZF r1 0 s2 _ _ _ (lv_sub hl [2, 1, 0] rfl) hP hS hf
  · refine lv_bipush (v := (-5)) hx hb dX12_alike_7 (by decide) ?_
    exact zret_i X hP hS hf rfl dX12_alike_9
theorem dX12_back_0 : decode cX12_back 0 = .ok (.aload_n 0, 1) := by decide +kernel
theorem dX12_back_1 : decode cX12_back 1 = .ok (.getfield 444, 3) := by decide +kernel
theorem dX12_back_4 : decode cX12_back 4 = .ok (.ifCond .ne 6, 3) := by decide +kernel
theorem dX12_back_7 : decode cX12_back 7 = .ok (.bipush (-5), 2) := by decide +kernel
theorem dX12_back_9 : decode cX12_back 9 = .ok (.ireturn, 1) := by decide +kernel
theorem dX12_back_10 : decode cX12_back 10 = .ok (.aload_n 0, 1) := by decide +kernel
theorem dX12_back_11 : decode cX12_back 11 = .ok (.aload_n 0, 1) := by decide +kernel
theorem dX12_back_12 : decode cX12_back 12 = .ok (.getfield 447, 3) := by decide +kernel
theorem dX12_back_15 : decode cX12_back 15 = .ok (.putfield 3, 3) := by decide +kernel
theorem dX12_back_18 : decode cX12_back 18 = .ok (.aload_n 0, 1) := by decide +kernel
theorem dX12_back_19 : decode cX12_back 19 = .ok (.aload_n 0, 1) := by decide +kernel
theorem dX12_back_20 : decode cX12_back 20 = .ok (.getfield 450, 3) := by decide +kernel
theorem dX12_back_23 : decode cX12_back 23 = .ok (.putfield 27, 3) := by decide +kernel
theorem dX12_back_26 : decode cX12_back 26 = .ok (.aload_n 0, 1) := by decide +kernel
theorem dX12_back_27 : decode cX12_back 27 = .ok (.aload_n 0, 1) := by decide +kernel
theorem dX12_back_28 : decode cX12_back 28 = .ok (.getfield 453, 3) := by decide +kernel
theorem dX12_back_31 : decode cX12_back 31 = .ok (.putfield 9, 3) := by decide +kernel
theorem dX12_back_34 : decode cX12_back 34 = .ok (.aload_n 0, 1) := by decide +kernel
theorem dX12_back_35 : decode cX12_back 35 = .ok (.aload_n 0, 1) := by decide +kernel
theorem dX12_back_36 : decode cX12_back 36 = .ok (.getfield 456, 3) := by decide +kernel
theorem dX12_back_39 : decode cX12_back 39 = .ok (.putfield 12, 3) := by decide +kernel
theorem dX12_back_42 : decode cX12_back 42 = .ok (.iconst 0, 1) := by decide +kernel
theorem dX12_back_43 : decode cX12_back 43 = .ok (.istore_n 1, 1) := by decide +kernel
theorem dX12_back_44 : decode cX12_back 44 = .ok (.iload_n 1, 1) := by decide +kernel
theorem dX12_back_45 : decode cX12_back 45 = .ok (.iconst 3, 1) := by decide +kernel
theorem dX12_back_46 : decode cX12_back 46 = .ok (.if_icmp .ge 45, 3) := by decide +kernel
theorem dX12_back_49 : decode cX12_back 49 = .ok (.aload_n 0, 1) := by decide +kernel
theorem dX12_back_50 : decode cX12_back 50 = .ok (.getfield 23, 3) := by decide +kernel
theorem dX12_back_53 : decode cX12_back 53 = .ok (.iload_n 1, 1) := by decide +kernel
theorem dX12_back_54 : decode cX12_back 54 = .ok (.aload_n 0, 1) := by decide +kernel
theorem dX12_back_55 : decode cX12_back 55 = .ok (.getfield 150, 3) := by decide +kernel
theorem dX12_back_58 : decode cX12_back 58 = .ok (.iload_n 1, 1) := by decide +kernel
theorem dX12_back_59 : decode cX12_back 59 = .ok (.iaload, 1) := by decide +kernel
theorem dX12_back_60 : decode cX12_back 60 = .ok (.iastore, 1) := by decide +kernel
theorem dX12_back_61 : decode cX12_back 61 = .ok (.aload_n 0, 1) := by decide +kernel
theorem dX12_back_62 : decode cX12_back 62 = .ok (.getfield 32, 3) := by decide +kernel
theorem dX12_back_65 : decode cX12_back 65 = .ok (.iload_n 1, 1) := by decide +kernel
theorem dX12_back_66 : decode cX12_back 66 = .ok (.aload_n 0, 1) := by decide +kernel
theorem dX12_back_67 : decode cX12_back 67 = .ok (.getfield 153, 3) := by decide +kernel
theorem dX12_back_70 : decode cX12_back 70 = .ok (.iload_n 1, 1) := by decide +kernel
theorem dX12_back_71 : decode cX12_back 71 = .ok (.iaload, 1) := by decide +kernel
theorem dX12_back_72 : decode cX12_back 72 = .ok (.iastore, 1) := by decide +kernel
theorem dX12_back_73 : decode cX12_back 73 = .ok (.aload_n 0, 1) := by decide +kernel
theorem dX12_back_74 : decode cX12_back 74 = .ok (.getfield 37, 3) := by decide +kernel
theorem dX12_back_77 : decode cX12_back 77 = .ok (.iload_n 1, 1) := by decide +kernel
theorem dX12_back_78 : decode cX12_back 78 = .ok (.aload_n 0, 1) := by decide +kernel
theorem dX12_back_79 : decode cX12_back 79 = .ok (.getfield 156, 3) := by decide +kernel
theorem dX12_back_82 : decode cX12_back 82 = .ok (.iload_n 1, 1) := by decide +kernel
theorem dX12_back_83 : decode cX12_back 83 = .ok (.iaload, 1) := by decide +kernel
theorem dX12_back_84 : decode cX12_back 84 = .ok (.iastore, 1) := by decide +kernel
theorem dX12_back_85 : decode cX12_back 85 = .ok (.iinc 1 1, 3) := by decide +kernel
theorem dX12_back_88 : decode cX12_back 88 = .ok (.goto (-44), 3) := by decide +kernel
theorem dX12_back_91 : decode cX12_back 91 = .ok (.aload_n 0, 1) := by decide +kernel
theorem dX12_back_92 : decode cX12_back 92 = .ok (.iconst 0, 1) := by decide +kernel
theorem dX12_back_93 : decode cX12_back 93 = .ok (.putfield 89, 3) := by decide +kernel
theorem dX12_back_96 : decode cX12_back 96 = .ok (.aload_n 0, 1) := by decide +kernel
theorem dX12_back_97 : decode cX12_back 97 = .ok (.invokevirtual 189, 3) := by decide +kernel
theorem dX12_back_100 : decode cX12_back 100 = .ok (.aload_n 0, 1) := by decide +kernel
theorem dX12_back_101 : decode cX12_back 101 = .ok (.aload_n 0, 1) := by decide +kernel
theorem dX12_back_102 : decode cX12_back 102 = .ok (.getfield 459, 3) := by decide +kernel
theorem dX12_back_105 : decode cX12_back 105 = .ok (.putfield 89, 3) := by decide +kernel
theorem dX12_back_108 : decode cX12_back 108 = .ok (.iconst 0, 1) := by decide +kernel
theorem dX12_back_109 : decode cX12_back 109 = .ok (.istore_n 1, 1) := by decide +kernel
theorem dX12_back_110 : decode cX12_back 110 = .ok (.iload_n 1, 1) := by decide +kernel
theorem dX12_back_111 : decode cX12_back 111 = .ok (.aload_n 0, 1) := by decide +kernel
theorem dX12_back_112 : decode cX12_back 112 = .ok (.getfield 89, 3) := by decide +kernel
theorem dX12_back_115 : decode cX12_back 115 = .ok (.if_icmp .ge 73, 3) := by decide +kernel
theorem dX12_back_118 : decode cX12_back 118 = .ok (.aload_n 0, 1) := by decide +kernel
theorem dX12_back_119 : decode cX12_back 119 = .ok (.getfield 105, 3) := by decide +kernel
theorem dX12_back_122 : decode cX12_back 122 = .ok (.iload_n 1, 1) := by decide +kernel
theorem dX12_back_123 : decode cX12_back 123 = .ok (.aload_n 0, 1) := by decide +kernel
theorem dX12_back_124 : decode cX12_back 124 = .ok (.getfield 159, 3) := by decide +kernel
theorem dX12_back_127 : decode cX12_back 127 = .ok (.iload_n 1, 1) := by decide +kernel
theorem dX12_back_128 : decode cX12_back 128 = .ok (.iaload, 1) := by decide +kernel
theorem dX12_back_129 : decode cX12_back 129 = .ok (.iastore, 1) := by decide +kernel
theorem dX12_back_130 : decode cX12_back 130 = .ok (.aload_n 0, 1) := by decide +kernel
theorem dX12_back_131 : decode cX12_back 131 = .ok (.getfield 108, 3) := by decide +kernel
theorem dX12_back_134 : decode cX12_back 134 = .ok (.iload_n 1, 1) := by decide +kernel
theorem dX12_back_135 : decode cX12_back 135 = .ok (.aload_n 0, 1) := by decide +kernel
theorem dX12_back_136 : decode cX12_back 136 = .ok (.getfield 162, 3) := by decide +kernel
theorem dX12_back_139 : decode cX12_back 139 = .ok (.iload_n 1, 1) := by decide +kernel
theorem dX12_back_140 : decode cX12_back 140 = .ok (.iaload, 1) := by decide +kernel
theorem dX12_back_141 : decode cX12_back 141 = .ok (.iastore, 1) := by decide +kernel
theorem dX12_back_142 : decode cX12_back 142 = .ok (.iconst 0, 1) := by decide +kernel
theorem dX12_back_143 : decode cX12_back 143 = .ok (.istore_n 2, 1) := by decide +kernel
theorem dX12_back_144 : decode cX12_back 144 = .ok (.iload_n 2, 1) := by decide +kernel
theorem dX12_back_145 : decode cX12_back 145 = .ok (.aload_n 0, 1) := by decide +kernel
theorem dX12_back_146 : decode cX12_back 146 = .ok (.getfield 56, 3) := by decide +kernel
theorem dX12_back_149 : decode cX12_back 149 = .ok (.if_icmp .ge 33, 3) := by decide +kernel
theorem dX12_back_152 : decode cX12_back 152 = .ok (.aload_n 0, 1) := by decide +kernel
theorem dX12_back_153 : decode cX12_back 153 = .ok (.getfield 95, 3) := by decide +kernel
theorem dX12_back_156 : decode cX12_back 156 = .ok (.sipush 462, 3) := by decide +kernel
theorem dX12_back_159 : decode cX12_back 159 = .ok (.iload_n 1, 1) := by decide +kernel
theorem dX12_back_160 : decode cX12_back 160 = .ok (.imul, 1) := by decide +kernel
theorem dX12_back_161 : decode cX12_back 161 = .ok (.iload_n 2, 1) := by decide +kernel
theorem dX12_back_162 : decode cX12_back 162 = .ok (.iadd, 1) := by decide +kernel
theorem dX12_back_163 : decode cX12_back 163 = .ok (.aload_n 0, 1) := by decide +kernel
theorem dX12_back_164 : decode cX12_back 164 = .ok (.getfield 165, 3) := by decide +kernel
theorem dX12_back_167 : decode cX12_back 167 = .ok (.sipush 462, 3) := by decide +kernel
theorem dX12_back_170 : decode cX12_back 170 = .ok (.iload_n 1, 1) := by decide +kernel
theorem dX12_back_171 : decode cX12_back 171 = .ok (.imul, 1) := by decide +kernel
theorem dX12_back_172 : decode cX12_back 172 = .ok (.iload_n 2, 1) := by decide +kernel
theorem dX12_back_173 : decode cX12_back 173 = .ok (.iadd, 1) := by decide +kernel
theorem dX12_back_174 : decode cX12_back 174 = .ok (.laload, 1) := by decide +kernel
theorem dX12_back_175 : decode cX12_back 175 = .ok (.lastore, 1) := by decide +kernel
theorem dX12_back_176 : decode cX12_back 176 = .ok (.iinc 2 1, 3) := by decide +kernel
theorem dX12_back_179 : decode cX12_back 179 = .ok (.goto (-35), 3) := by decide +kernel
theorem dX12_back_182 : decode cX12_back 182 = .ok (.iinc 1 1, 3) := by decide +kernel
theorem dX12_back_185 : decode cX12_back 185 = .ok (.goto (-75), 3) := by decide +kernel
theorem dX12_back_188 : decode cX12_back 188 = .ok (.aload_n 0, 1) := by decide +kernel
theorem dX12_back_189 : decode cX12_back 189 = .ok (.invokevirtual 198, 3) := by decide +kernel
theorem dX12_back_192 : decode cX12_back 192 = .ok (.aload_n 0, 1) := by decide +kernel
theorem dX12_back_193 : decode cX12_back 193 = .ok (.getfield 89, 3) := by decide +kernel
theorem dX12_back_196 : decode cX12_back 196 = .ok (.ireturn, 1) := by decide +kernel
set_option maxHeartbeats 4000000 in
set_option maxRecDepth 100000 in
theorem cn_X12_back {l : Launch} {cA : Nat → ClassId} {ad : Nat → Nat} {D : va_G} {E : Nat → Nat} {A : Nat → Prop}  {s0 sr : SS} {rr : Int32} (hf : f_X12_back s0 = some (rr, sr)) : zCon Om Nm cA ad D E l yX12_back cX12_back 3 (some .int) 5 A [.ref (ad 0)] s0 (some (.int rr)) sr := by
  refine zstart (own := RX12) hOm (by decide) rfl (Nat.le_of_ble_eq_true rfl) ?_
  intro p e s m args below meth c X hP ls hl
  have hx := X.1
  have hb := X.2.1
  have hl : lv_has ls 3 [(0, .ref (ad 0))] := hl
  have hS : va_S A s.heap s.heap [] := va_S.rf
  have hc_44 : ∀ (n44 : Nat) (x1 : Int32) (s1 : SS) (H : Heap) (locs : List Loc) (ls : Array Slot), lv_has ls 3 [(0, .ref (ad 0)), (1, .int x1)] → va_P D ZCL (zw Om Nm cA ad s1) H → va_S A s.heap H locs → f_X12_back_c44 n44 x1 s1 = some (rr, sr) → W p l e (zrm 5) s m args below meth c H locs 0 0 (MQ below (zQc Om Nm cA ad D A (some (.int rr)) sr) args s 0 0 A) (F0 m 44 ls []) := by
    intro n44
    induction n44 with
    | zero =>
      intro x1 s1 H locs ls hl hP hS hf
      rw [f_X12_back_c44] at hf
      cases hf
    | succ n44 ih44 =>
      have hc_110 : ∀ (n110 : Nat) (x1 : Int32) (s1 : SS) (H : Heap) (locs : List Loc) (ls : Array Slot), lv_has ls 3 [(0, .ref (ad 0)), (1, .int x1)] → va_P D ZCL (zw Om Nm cA ad s1) H → va_S A s.heap H locs → f_X12_back_c110 n110 x1 s1 = some (rr, sr) → W p l e (zrm 5) s m args below meth c H locs 0 0 (MQ below (zQc Om Nm cA ad D A (some (.int rr)) sr) args s 0 0 A) (F0 m 110 ls []) := by
        intro n110
        induction n110 with
        | zero =>
          intro x1 s1 H locs ls hl hP hS hf
          rw [f_X12_back_c110] at hf
          cases hf
        | succ n110 ih110 =>
          have hc_144 : ∀ (n144 : Nat) (x1 : Int32) (x2 : Int32) (s1 : SS) (H : Heap) (locs : List Loc) (ls : Array Slot), lv_has ls 3 [(0, .ref (ad 0)), (1, .int x1), (2, .int x2)] → va_P D ZCL (zw Om Nm cA ad s1) H → va_S A s.heap H locs → f_X12_back_c144 (f_X12_back_c110 n110) n144 x1 x2 s1 = some (rr, sr) → W p l e (zrm 5) s m args below meth c H locs 0 0 (MQ below (zQc Om Nm cA ad D A (some (.int rr)) sr) args s 0 0 A) (F0 m 144 ls []) := by
            intro n144
            induction n144 with
            | zero =>
              intro x1 x2 s1 H locs ls hl hP hS hf
              rw [f_X12_back_c144] at hf
              cases hf
            | succ n144 ih144 =>
              intro x1 x2 s1 H locs ls hl hP hS hf
              rw [f_X12_back_c144] at hf
              refine lv_iload_n hx hb dX12_back_144 rfl (lv_at hl 2 rfl) ?_
              refine lv_aload_n hx hb dX12_back_145 rfl (lv_at hl 0 rfl) ?_
              refine gf_X12_56 X hP (k := 0) rfl dX12_back_146 ?_
              refine zicmp_ge (tgt := 182) hx hb dX12_back_149 (by decide) hf (fun hf => ?_) (fun hf => ?_)
              · refine lv_iinc (v := (x1 + 1)) (lv' := [(1, .int (x1 + 1)), (0, .ref (ad 0)), (2, .int x2)]) hx hb dX12_back_182 hl (k := 1) rfl rfl (by decide) rfl (fun ls hl => ?_)
                refine lv_goto (tgt := 110) hx hb dX12_back_185 (by decide) ?_
                exact ih110 (x1 + 1) s1 _ _ _ (lv_sub hl [1, 0] rfl) hP hS hf
              · refine lv_aload_n hx hb dX12_back_152 rfl (lv_at hl 0 rfl) ?_
                refine gf_X12_95 X hP (k := 0) (q := 10) rfl dX12_back_153 rfl ?_
                refine lv_sipush (v := 462) hx hb dX12_back_156 (by decide) ?_
                refine lv_iload_n hx hb dX12_back_159 rfl (lv_at hl 1 rfl) ?_
                refine lv_imul hx hb dX12_back_160 ?_
                refine lv_iload_n hx hb dX12_back_161 rfl (lv_at hl 2 rfl) ?_
                refine lv_iadd hx hb dX12_back_162 ?_
                refine lv_aload_n hx hb dX12_back_163 rfl (lv_at hl 0 rfl) ?_
                refine gf_X12_165 X hP (k := 0) (q := 31) rfl dX12_back_164 rfl ?_
                refine lv_sipush (v := 462) hx hb dX12_back_167 (by decide) ?_
                refine lv_iload_n hx hb dX12_back_170 rfl (lv_at hl 1 rfl) ?_
                refine lv_imul hx hb dX12_back_171 ?_
                refine lv_iload_n hx hb dX12_back_172 rfl (lv_at hl 2 rfl) ?_
                refine lv_iadd hx hb dX12_back_173 ?_
                obtain ⟨g11, hf⟩ := zgd hf
                refine zald_l X hP (k := 31) (n := 3696) (rs := []) rfl g11 dX12_back_174 ?_
                obtain ⟨g12, hf⟩ := zgd hf
                refine zast_l X hP hS (k := 10) (n := 3696) (rs := []) rfl g12 dX12_back_175 (fun H locs hP hS => ?_)
                refine lv_iinc (v := (x2 + 1)) (lv' := [(2, .int (x2 + 1)), (0, .ref (ad 0)), (1, .int x1)]) hx hb dX12_back_176 hl (k := 2) rfl rfl (by decide) rfl (fun ls hl => ?_)
                refine lv_goto (tgt := 144) hx hb dX12_back_179 (by decide) ?_
                exact ih144 x1 (x2 + 1) (zSL s1 10 ((((462 : Int32) * x1) + x2)).toNatClampNeg (s1.2 31 ((((462 : Int32) * x1) + x2)).toNatClampNeg)) _ _ _ (lv_sub hl [1, 2, 0] rfl) hP hS hf
          intro x1 s1 H locs ls hl hP hS hf
          rw [f_X12_back_c110] at hf
          refine lv_iload_n hx hb dX12_back_110 rfl (lv_at hl 1 rfl) ?_
          refine lv_aload_n hx hb dX12_back_111 rfl (lv_at hl 0 rfl) ?_
          refine gf_X12_89 X hP (k := 0) rfl dX12_back_112 ?_
          refine zicmp_ge (tgt := 188) hx hb dX12_back_115 (by decide) hf (fun hf => ?_) (fun hf => ?_)
          · refine lv_aload_n hx hb dX12_back_188 rfl (lv_at hl 0 rfl) ?_
            obtain ⟨r4, s5, h6, hf⟩ := zbd_some hf
            refine zcallV X hP hS hl.1 (k := 0) (As := []) (rest := []) (cn_X12_forget h6) cw_X12_forget zp_12 rfl (by decide) rfl ml_X12_198 (by decide) rfl rfl (Nat.le_of_ble_eq_true rfl) dX12_back_189 (fun H locs hP hS => ?_)
            refine lv_aload_n hx hb dX12_back_192 rfl (lv_at hl 0 rfl) ?_
            refine gf_X12_89 X hP (k := 0) rfl dX12_back_193 ?_
            exact zret_i X hP hS hf rfl dX12_back_196
          · refine lv_aload_n hx hb dX12_back_118 rfl (lv_at hl 0 rfl) ?_
            refine gf_X12_105 X hP (k := 0) (q := 8) rfl dX12_back_119 rfl ?_
            refine lv_iload_n hx hb dX12_back_122 rfl (lv_at hl 1 rfl) ?_
            refine lv_aload_n hx hb dX12_back_123 rfl (lv_at hl 0 rfl) ?_
            refine gf_X12_159 X hP (k := 0) (q := 29) rfl dX12_back_124 rfl ?_
            refine lv_iload_n hx hb dX12_back_127 rfl (lv_at hl 1 rfl) ?_
            obtain ⟨g7, hf⟩ := zgd hf
            refine zald_i X hP (k := 29) (n := 8) (rs := []) rfl g7 dX12_back_128 ?_
            obtain ⟨g8, hf⟩ := zgd hf
            refine zast_i X hP hS (k := 8) (n := 8) (rs := []) rfl g8 dX12_back_129 (fun H locs hP hS => ?_)
            refine lv_aload_n hx hb dX12_back_130 rfl (lv_at hl 0 rfl) ?_
            refine gf_X12_108 X hP (k := 0) (q := 9) rfl dX12_back_131 rfl ?_
            refine lv_iload_n hx hb dX12_back_134 rfl (lv_at hl 1 rfl) ?_
            refine lv_aload_n hx hb dX12_back_135 rfl (lv_at hl 0 rfl) ?_
            refine gf_X12_162 X hP (k := 0) (q := 30) rfl dX12_back_136 rfl ?_
            refine lv_iload_n hx hb dX12_back_139 rfl (lv_at hl 1 rfl) ?_
            obtain ⟨g9, hf⟩ := zgd hf
            refine zald_i X hP (k := 30) (n := 8) (rs := []) rfl g9 dX12_back_140 ?_
            obtain ⟨g10, hf⟩ := zgd hf
            refine zast_i X hP hS (k := 9) (n := 8) (rs := []) rfl g10 dX12_back_141 (fun H locs hP hS => ?_)
            refine lv_iconst (v := 0) hx hb dX12_back_142 (by decide) ?_
            refine lv_istore_n (lv' := [(2, .int 0), (0, .ref (ad 0)), (1, .int x1)]) hx hb dX12_back_143 rfl hl (by decide) rfl (fun ls hl => ?_)
            exact hc_144 ZF x1 0 (zS (zS s1 8 (x1).toNatClampNeg (s1.1 29 (x1).toNatClampNeg)) 9 (x1).toNatClampNeg (((zS s1 8 (x1).toNatClampNeg (s1.1 29 (x1).toNatClampNeg)).1 30 (x1).toNatClampNeg))) _ _ _ (lv_sub hl [1, 2, 0] rfl) hP hS hf
      intro x1 s1 H locs ls hl hP hS hf
      rw [f_X12_back_c44] at hf
      refine lv_iload_n hx hb dX12_back_44 rfl (lv_at hl 1 rfl) ?_
      refine lv_iconst (v := 3) hx hb dX12_back_45 (by decide) ?_
      refine zicmp_ge (tgt := 91) hx hb dX12_back_46 (by decide) hf (fun hf => ?_) (fun hf => ?_)
      · refine lv_aload_n hx hb dX12_back_91 rfl (lv_at hl 0 rfl) ?_
        refine lv_iconst (v := 0) hx hb dX12_back_92 (by decide) ?_
        refine pf_X12_89 X hP hS (k := 0) rfl dX12_back_93 (fun H locs hP hS => ?_)
        refine lv_aload_n hx hb dX12_back_96 rfl (lv_at hl 0 rfl) ?_
        obtain ⟨r1, s2, h3, hf⟩ := zbd_some hf
        refine zcallV X hP hS hl.1 (k := 0) (As := []) (rest := []) (cn_X12_layTerms h3) cw_X12_layTerms zp_12 rfl (by decide) rfl ml_X12_189 (by decide) rfl rfl (Nat.le_of_ble_eq_true rfl) dX12_back_97 (fun H locs hP hS => ?_)
        refine lv_aload_n hx hb dX12_back_100 rfl (lv_at hl 0 rfl) ?_
        refine lv_aload_n hx hb dX12_back_101 rfl (lv_at hl 0 rfl) ?_
        refine gf_X12_459 X hP (k := 0) rfl dX12_back_102 ?_
        refine pf_X12_89 X hP hS (k := 0) rfl dX12_back_105 (fun H locs hP hS => ?_)
        refine lv_iconst (v := 0) hx hb dX12_back_108 (by decide) ?_
        refine lv_istore_n (lv' := [(1, .int 0), (0, .ref (ad 0))]) hx hb dX12_back_109 rfl hl (by decide) rfl (fun ls hl => ?_)
        exact hc_110 ZF 0 (zS s2 0 12 (s2.1 0 44)) _ _ _ (lv_sub hl [1, 0] rfl) hP hS hf
      · refine lv_aload_n hx hb dX12_back_49 rfl (lv_at hl 0 rfl) ?_
        refine gf_X12_23 X hP (k := 0) (q := 1) rfl dX12_back_50 rfl ?_
        refine lv_iload_n hx hb dX12_back_53 rfl (lv_at hl 1 rfl) ?_
        refine lv_aload_n hx hb dX12_back_54 rfl (lv_at hl 0 rfl) ?_
        refine gf_X12_150 X hP (k := 0) (q := 26) rfl dX12_back_55 rfl ?_
        refine lv_iload_n hx hb dX12_back_58 rfl (lv_at hl 1 rfl) ?_
        obtain ⟨g13, hf⟩ := zgd hf
        refine zald_i X hP (k := 26) (n := 3) (rs := []) rfl g13 dX12_back_59 ?_
        obtain ⟨g14, hf⟩ := zgd hf
        refine zast_i X hP hS (k := 1) (n := 3) (rs := []) rfl g14 dX12_back_60 (fun H locs hP hS => ?_)
        refine lv_aload_n hx hb dX12_back_61 rfl (lv_at hl 0 rfl) ?_
        refine gf_X12_32 X hP (k := 0) (q := 2) rfl dX12_back_62 rfl ?_
        refine lv_iload_n hx hb dX12_back_65 rfl (lv_at hl 1 rfl) ?_
        refine lv_aload_n hx hb dX12_back_66 rfl (lv_at hl 0 rfl) ?_
        refine gf_X12_153 X hP (k := 0) (q := 27) rfl dX12_back_67 rfl ?_
        refine lv_iload_n hx hb dX12_back_70 rfl (lv_at hl 1 rfl) ?_
        obtain ⟨g15, hf⟩ := zgd hf
        refine zald_i X hP (k := 27) (n := 3) (rs := []) rfl g15 dX12_back_71 ?_
        obtain ⟨g16, hf⟩ := zgd hf
        refine zast_i X hP hS (k := 2) (n := 3) (rs := []) rfl g16 dX12_back_72 (fun H locs hP hS => ?_)
        refine lv_aload_n hx hb dX12_back_73 rfl (lv_at hl 0 rfl) ?_
        refine gf_X12_37 X hP (k := 0) (q := 3) rfl dX12_back_74 rfl ?_
        refine lv_iload_n hx hb dX12_back_77 rfl (lv_at hl 1 rfl) ?_
        refine lv_aload_n hx hb dX12_back_78 rfl (lv_at hl 0 rfl) ?_
        refine gf_X12_156 X hP (k := 0) (q := 28) rfl dX12_back_79 rfl ?_
        refine lv_iload_n hx hb dX12_back_82 rfl (lv_at hl 1 rfl) ?_
        obtain ⟨g17, hf⟩ := zgd hf
        refine zald_i X hP (k := 28) (n := 3) (rs := []) rfl g17 dX12_back_83 ?_
        obtain ⟨g18, hf⟩ := zgd hf
        refine zast_i X hP hS (k := 3) (n := 3) (rs := []) rfl g18 dX12_back_84 (fun H locs hP hS => ?_)
        refine lv_iinc (v := (x1 + 1)) (lv' := [(1, .int (x1 + 1)), (0, .ref (ad 0))]) hx hb dX12_back_85 hl (k := 1) rfl rfl (by decide) rfl (fun ls hl => ?_)
        refine lv_goto (tgt := 44) hx hb dX12_back_88 (by decide) ?_
        exact ih44 (x1 + 1) (zS (zS (zS s1 1 (x1).toNatClampNeg (s1.1 26 (x1).toNatClampNeg)) 2 (x1).toNatClampNeg (((zS s1 1 (x1).toNatClampNeg (s1.1 26 (x1).toNatClampNeg)).1 27 (x1).toNatClampNeg))) 3 (x1).toNatClampNeg (((zS (zS s1 1 (x1).toNatClampNeg (s1.1 26 (x1).toNatClampNeg)) 2 (x1).toNatClampNeg (((zS s1 1 (x1).toNatClampNeg (s1.1 26 (x1).toNatClampNeg)).1 27 (x1).toNatClampNeg))).1 28 (x1).toNatClampNeg))) _ _ _ (lv_sub hl [1, 0] rfl) hP hS hf
  rw [f_X12_back] at hf
  refine lv_aload_n hx hb dX12_back_0 rfl (lv_at hl 0 rfl) ?_
  refine gf_X12_444 X hP (k := 0) rfl dX12_back_1 ?_
  refine zif_ne (tgt := 10) hx hb dX12_back_4 (by decide) hf (fun hf => ?_) (fun hf => ?_)
  · refine lv_aload_n hx hb dX12_back_10 rfl (lv_at hl 0 rfl) ?_
    refine lv_aload_n hx hb dX12_back_11 rfl (lv_at hl 0 rfl) ?_
    refine gf_X12_447 X hP (k := 0) rfl dX12_back_12 ?_
    refine pf_X12_3 X hP hS (k := 0) rfl dX12_back_15 (fun H locs hP hS => ?_)
    refine lv_aload_n hx hb dX12_back_18 rfl (lv_at hl 0 rfl) ?_
    refine lv_aload_n hx hb dX12_back_19 rfl (lv_at hl 0 rfl) ?_
    refine gf_X12_450 X hP (k := 0) rfl dX12_back_20 ?_
    refine pf_X12_27 X hP hS (k := 0) rfl dX12_back_23 (fun H locs hP hS => ?_)
    refine lv_aload_n hx hb dX12_back_26 rfl (lv_at hl 0 rfl) ?_
    refine lv_aload_n hx hb dX12_back_27 rfl (lv_at hl 0 rfl) ?_
    refine gf_X12_453 X hP (k := 0) rfl dX12_back_28 ?_
    refine pf_X12_9 X hP hS (k := 0) rfl dX12_back_31 (fun H locs hP hS => ?_)
    refine lv_aload_n hx hb dX12_back_34 rfl (lv_at hl 0 rfl) ?_
    refine lv_aload_n hx hb dX12_back_35 rfl (lv_at hl 0 rfl) ?_
    refine gf_X12_456 X hP (k := 0) rfl dX12_back_36 ?_
    refine pf_X12_12 X hP hS (k := 0) rfl dX12_back_39 (fun H locs hP hS => ?_)
    refine lv_iconst (v := 0) hx hb dX12_back_42 (by decide) ?_
    refine lv_istore_n (lv' := [(1, .int 0), (0, .ref (ad 0))]) hx hb dX12_back_43 rfl hl (by decide) rfl (fun ls hl => ?_)
    exact hc_44 ZF 0 (zS (zS (zS (zS s0 0 0 (s0.1 0 37)) 0 1 ((zS s0 0 0 (s0.1 0 37)).1 0 38)) 0 2 ((zS (zS s0 0 0 (s0.1 0 37)) 0 1 ((zS s0 0 0 (s0.1 0 37)).1 0 38)).1 0 39)) 0 4 ((zS (zS (zS s0 0 0 (s0.1 0 37)) 0 1 ((zS s0 0 0 (s0.1 0 37)).1 0 38)) 0 2 ((zS (zS s0 0 0 (s0.1 0 37)) 0 1 ((zS s0 0 0 (s0.1 0 37)).1 0 38)).1 0 39)).1 0 41)) _ _ _ (lv_sub hl [1, 0] rfl) hP hS hf
  · refine lv_bipush (v := (-5)) hx hb dX12_back_7 (by decide) ?_
    exact zret_i X hP hS hf rfl dX12_back_9
theorem dX12_count_0 : decode cX12_count 0 = .ok (.iconst 0, 1) := by decide +kernel
theorem dX12_count_1 : decode cX12_count 1 = .ok (.istore_n 2, 1) := by decide +kernel
theorem dX12_count_2 : decode cX12_count 2 = .ok (.iconst 0, 1) := by decide +kernel
theorem dX12_count_3 : decode cX12_count 3 = .ok (.istore_n 3, 1) := by decide +kernel
theorem dX12_count_4 : decode cX12_count 4 = .ok (.iload_n 3, 1) := by decide +kernel
theorem dX12_count_5 : decode cX12_count 5 = .ok (.iconst 3, 1) := by decide +kernel
theorem dX12_count_6 : decode cX12_count 6 = .ok (.if_icmp .ge 26, 3) := by decide +kernel
theorem dX12_count_9 : decode cX12_count 9 = .ok (.iload_n 2, 1) := by decide +kernel
theorem dX12_count_10 : decode cX12_count 10 = .ok (.aload_n 0, 1) := by decide +kernel
theorem dX12_count_11 : decode cX12_count 11 = .ok (.getfield 138, 3) := by decide +kernel
theorem dX12_count_14 : decode cX12_count 14 = .ok (.iload_n 3, 1) := by decide +kernel
theorem dX12_count_15 : decode cX12_count 15 = .ok (.iaload, 1) := by decide +kernel
theorem dX12_count_16 : decode cX12_count 16 = .ok (.ifCond .lt 7, 3) := by decide +kernel
theorem dX12_count_19 : decode cX12_count 19 = .ok (.iconst 1, 1) := by decide +kernel
theorem dX12_count_20 : decode cX12_count 20 = .ok (.goto 4, 3) := by decide +kernel
theorem dX12_count_23 : decode cX12_count 23 = .ok (.iconst 0, 1) := by decide +kernel
theorem dX12_count_24 : decode cX12_count 24 = .ok (.iadd, 1) := by decide +kernel
theorem dX12_count_25 : decode cX12_count 25 = .ok (.istore_n 2, 1) := by decide +kernel
theorem dX12_count_26 : decode cX12_count 26 = .ok (.iinc 3 1, 3) := by decide +kernel
theorem dX12_count_29 : decode cX12_count 29 = .ok (.goto (-25), 3) := by decide +kernel
theorem dX12_count_32 : decode cX12_count 32 = .ok (.iload_n 1, 1) := by decide +kernel
theorem dX12_count_33 : decode cX12_count 33 = .ok (.tableswitch 66 0 5 #[39, 44, 49, 54, 59, 64], 39) := by decide +kernel
theorem dX12_count_72 : decode cX12_count 72 = .ok (.aload_n 0, 1) := by decide +kernel
theorem dX12_count_73 : decode cX12_count 73 = .ok (.getfield 89, 3) := by decide +kernel
theorem dX12_count_76 : decode cX12_count 76 = .ok (.ireturn, 1) := by decide +kernel
theorem dX12_count_77 : decode cX12_count 77 = .ok (.aload_n 0, 1) := by decide +kernel
theorem dX12_count_78 : decode cX12_count 78 = .ok (.getfield 192, 3) := by decide +kernel
theorem dX12_count_81 : decode cX12_count 81 = .ok (.ireturn, 1) := by decide +kernel
theorem dX12_count_82 : decode cX12_count 82 = .ok (.aload_n 0, 1) := by decide +kernel
theorem dX12_count_83 : decode cX12_count 83 = .ok (.getfield 195, 3) := by decide +kernel
theorem dX12_count_86 : decode cX12_count 86 = .ok (.ireturn, 1) := by decide +kernel
theorem dX12_count_87 : decode cX12_count 87 = .ok (.aload_n 0, 1) := by decide +kernel
theorem dX12_count_88 : decode cX12_count 88 = .ok (.getfield 336, 3) := by decide +kernel
theorem dX12_count_91 : decode cX12_count 91 = .ok (.ireturn, 1) := by decide +kernel
theorem dX12_count_92 : decode cX12_count 92 = .ok (.aload_n 0, 1) := by decide +kernel
theorem dX12_count_93 : decode cX12_count 93 = .ok (.getfield 426, 3) := by decide +kernel
theorem dX12_count_96 : decode cX12_count 96 = .ok (.ireturn, 1) := by decide +kernel
theorem dX12_count_97 : decode cX12_count 97 = .ok (.iload_n 2, 1) := by decide +kernel
theorem dX12_count_98 : decode cX12_count 98 = .ok (.ireturn, 1) := by decide +kernel
theorem dX12_count_99 : decode cX12_count 99 = .ok (.iconst (-1), 1) := by decide +kernel
theorem dX12_count_100 : decode cX12_count 100 = .ok (.ireturn, 1) := by decide +kernel
set_option maxHeartbeats 4000000 in
set_option maxRecDepth 100000 in
theorem cn_X12_count {l : Launch} {cA : Nat → ClassId} {ad : Nat → Nat} {D : va_G} {E : Nat → Nat} {A : Nat → Prop} {x1 : Int32} {s0 sr : SS} {rr : Int32} (hf : f_X12_count x1 s0 = some (rr, sr)) : zCon Om Nm cA ad D E l yX12_count cX12_count 4 (some .int) 0 A [.ref (ad 0), .int x1] s0 (some (.int rr)) sr := by
  refine zstart (own := RX12) hOm (by decide) rfl (Nat.le_of_ble_eq_true rfl) ?_
  intro p e s m args below meth c X hP ls hl
  have hx := X.1
  have hb := X.2.1
  have hl : lv_has ls 4 [(0, .ref (ad 0)), (1, .int x1)] := hl
  have hS : va_S A s.heap s.heap [] := va_S.rf
  have hc_4 : ∀ (n4 : Nat) (x1 : Int32) (x2 : Int32) (x3 : Int32) (s1 : SS) (H : Heap) (locs : List Loc) (ls : Array Slot), lv_has ls 4 [(0, .ref (ad 0)), (1, .int x1), (2, .int x2), (3, .int x3)] → va_P D ZCL (zw Om Nm cA ad s1) H → va_S A s.heap H locs → f_X12_count_c4 n4 x1 x2 x3 s1 = some (rr, sr) → W p l e (zrm 0) s m args below meth c H locs 0 0 (MQ below (zQc Om Nm cA ad D A (some (.int rr)) sr) args s 0 0 A) (F0 m 4 ls []) := by
    intro n4
    induction n4 with
    | zero =>
      intro x1 x2 x3 s1 H locs ls hl hP hS hf
      rw [f_X12_count_c4] at hf
      cases hf
    | succ n4 ih4 =>
      have hc_24 : ∀ (x1 : Int32) (x3 : Int32) (t0 : Int32) (t1 : Int32) (s1 : SS) (H : Heap) (locs : List Loc) (ls : Array Slot), lv_has ls 4 [(0, .ref (ad 0)), (1, .int x1), (3, .int x3)] → va_P D ZCL (zw Om Nm cA ad s1) H → va_S A s.heap H locs → f_X12_count_c24 (f_X12_count_c4 n4) x1 x3 t0 t1 s1 = some (rr, sr) → W p l e (zrm 0) s m args below meth c H locs 0 0 (MQ below (zQc Om Nm cA ad D A (some (.int rr)) sr) args s 0 0 A) (F0 m 24 ls [.int t0, .int t1]) := by
        intro x1 x3 t0 t1 s1 H locs ls hl hP hS hf
        rw [f_X12_count_c24] at hf
        refine lv_iadd hx hb dX12_count_24 ?_
        refine lv_istore_n (lv' := [(2, .int (t1 + t0)), (0, .ref (ad 0)), (1, .int x1), (3, .int x3)]) hx hb dX12_count_25 rfl hl (by decide) rfl (fun ls hl => ?_)
        refine lv_iinc (v := (x3 + 1)) (lv' := [(3, .int (x3 + 1)), (2, .int (t1 + t0)), (0, .ref (ad 0)), (1, .int x1)]) hx hb dX12_count_26 hl (k := 3) rfl rfl (by decide) rfl (fun ls hl => ?_)
        refine lv_goto (tgt := 4) hx hb dX12_count_29 (by decide) ?_
        exact ih4 x1 (t1 + t0) (x3 + 1) s1 _ _ _ (lv_sub hl [2, 3, 1, 0] rfl) hP hS hf
      intro x1 x2 x3 s1 H locs ls hl hP hS hf
      rw [f_X12_count_c4] at hf
      refine lv_iload_n hx hb dX12_count_4 rfl (lv_at hl 3 rfl) ?_
      refine lv_iconst (v := 3) hx hb dX12_count_5 (by decide) ?_
      refine zicmp_ge (tgt := 32) hx hb dX12_count_6 (by decide) hf (fun hf => ?_) (fun hf => ?_)
      · refine lv_iload_n hx hb dX12_count_32 rfl (lv_at hl 1 rfl) ?_
        by_cases e1 : x1 = 0
        · rw [if_pos e1] at hf
          refine lv_tableIn (tgt := 72) (off := 39) hx hb dX12_count_33 (by rw [e1]; decide) (by rw [e1]; decide) (by rw [e1]; decide +kernel) (by decide) ?_
          refine lv_aload_n hx hb dX12_count_72 rfl (lv_at hl 0 rfl) ?_
          refine gf_X12_89 X hP (k := 0) rfl dX12_count_73 ?_
          exact zret_i X hP hS hf rfl dX12_count_76
        · rw [if_neg e1] at hf
          by_cases e2 : x1 = 1
          · rw [if_pos e2] at hf
            refine lv_tableIn (tgt := 77) (off := 44) hx hb dX12_count_33 (by rw [e2]; decide) (by rw [e2]; decide) (by rw [e2]; decide +kernel) (by decide) ?_
            refine lv_aload_n hx hb dX12_count_77 rfl (lv_at hl 0 rfl) ?_
            refine gf_X12_192 X hP (k := 0) rfl dX12_count_78 ?_
            exact zret_i X hP hS hf rfl dX12_count_81
          · rw [if_neg e2] at hf
            by_cases e3 : x1 = 2
            · rw [if_pos e3] at hf
              refine lv_tableIn (tgt := 82) (off := 49) hx hb dX12_count_33 (by rw [e3]; decide) (by rw [e3]; decide) (by rw [e3]; decide +kernel) (by decide) ?_
              refine lv_aload_n hx hb dX12_count_82 rfl (lv_at hl 0 rfl) ?_
              refine gf_X12_195 X hP (k := 0) rfl dX12_count_83 ?_
              exact zret_i X hP hS hf rfl dX12_count_86
            · rw [if_neg e3] at hf
              by_cases e4 : x1 = 3
              · rw [if_pos e4] at hf
                refine lv_tableIn (tgt := 87) (off := 54) hx hb dX12_count_33 (by rw [e4]; decide) (by rw [e4]; decide) (by rw [e4]; decide +kernel) (by decide) ?_
                refine lv_aload_n hx hb dX12_count_87 rfl (lv_at hl 0 rfl) ?_
                refine gf_X12_336 X hP (k := 0) rfl dX12_count_88 ?_
                exact zret_i X hP hS hf rfl dX12_count_91
              · rw [if_neg e4] at hf
                by_cases e5 : x1 = 4
                · rw [if_pos e5] at hf
                  refine lv_tableIn (tgt := 92) (off := 59) hx hb dX12_count_33 (by rw [e5]; decide) (by rw [e5]; decide) (by rw [e5]; decide +kernel) (by decide) ?_
                  refine lv_aload_n hx hb dX12_count_92 rfl (lv_at hl 0 rfl) ?_
                  refine gf_X12_426 X hP (k := 0) rfl dX12_count_93 ?_
                  exact zret_i X hP hS hf rfl dX12_count_96
                · rw [if_neg e5] at hf
                  by_cases e6 : x1 = 5
                  · rw [if_pos e6] at hf
                    refine lv_tableIn (tgt := 97) (off := 64) hx hb dX12_count_33 (by rw [e6]; decide) (by rw [e6]; decide) (by rw [e6]; decide +kernel) (by decide) ?_
                    refine lv_iload_n hx hb dX12_count_97 rfl (lv_at hl 2 rfl) ?_
                    exact zret_i X hP hS hf rfl dX12_count_98
                  · rw [if_neg e6] at hf
                    have ye1 := zne e1 (v := 0) (by decide)
                    have ye2 := zne e2 (v := 1) (by decide)
                    have ye3 := zne e3 (v := 2) (by decide)
                    have ye4 := zne e4 (v := 3) (by decide)
                    have ye5 := zne e5 (v := 4) (by decide)
                    have ye6 := zne e6 (v := 5) (by decide)
                    refine lv_tableOut (tgt := 99) hx hb dX12_count_33 (by omega) (by decide) ?_
                    refine lv_iconst (v := (-1)) hx hb dX12_count_99 (by decide) ?_
                    exact zret_i X hP hS hf rfl dX12_count_100
      · refine lv_iload_n hx hb dX12_count_9 rfl (lv_at hl 2 rfl) ?_
        refine lv_aload_n hx hb dX12_count_10 rfl (lv_at hl 0 rfl) ?_
        refine gf_X12_138 X hP (k := 0) (q := 22) rfl dX12_count_11 rfl ?_
        refine lv_iload_n hx hb dX12_count_14 rfl (lv_at hl 3 rfl) ?_
        obtain ⟨g7, hf⟩ := zgd hf
        refine zald_i X hP (k := 22) (n := 3) (rs := []) rfl g7 dX12_count_15 ?_
        refine zif_lt (tgt := 23) hx hb dX12_count_16 (by decide) hf (fun hf => ?_) (fun hf => ?_)
        · refine lv_iconst (v := 0) hx hb dX12_count_23 (by decide) ?_
          exact hc_24 x1 x3 0 x2 s1 _ _ _ (lv_sub hl [0, 1, 3] rfl) hP hS hf
        · refine lv_iconst (v := 1) hx hb dX12_count_19 (by decide) ?_
          refine lv_goto (tgt := 24) hx hb dX12_count_20 (by decide) ?_
          exact hc_24 x1 x3 1 x2 s1 _ _ _ (lv_sub hl [0, 1, 3] rfl) hP hS hf
  rw [f_X12_count] at hf
  refine lv_iconst (v := 0) hx hb dX12_count_0 (by decide) ?_
  refine lv_istore_n (lv' := [(2, .int 0), (0, .ref (ad 0)), (1, .int x1)]) hx hb dX12_count_1 rfl hl (by decide) rfl (fun ls hl => ?_)
  refine lv_iconst (v := 0) hx hb dX12_count_2 (by decide) ?_
  refine lv_istore_n (lv' := [(3, .int 0), (2, .int 0), (0, .ref (ad 0)), (1, .int x1)]) hx hb dX12_count_3 rfl hl (by decide) rfl (fun ls hl => ?_)
  exact hc_4 ZF x1 0 0 s0 _ _ _ (lv_sub hl [2, 3, 1, 0] rfl) hP hS hf
