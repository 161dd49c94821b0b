theorem dX12_chern_0 : decode cX12_chern 0 = .ok (.aload_n 0, 1) := by decide +kernel
theorem dX12_chern_1 : decode cX12_chern 1 = .ok (.iload_n 1, 1) := by decide +kernel
theorem dX12_chern_2 : decode cX12_chern 2 = .ok (.invokevirtual 217, 3) := by decide +kernel
theorem dX12_chern_5 : decode cX12_chern 5 = .ok (.ifCond .ge 7, 3) := by decide +kernel
theorem dX12_chern_8 : decode cX12_chern 8 = .ok (.ldc2_w 220, 3) := by decide +kernel
theorem dX12_chern_11 : decode cX12_chern 11 = .ok (.lreturn, 1) := by decide +kernel
theorem dX12_chern_12 : decode cX12_chern 12 = .ok (.aload_n 0, 1) := by decide +kernel
theorem dX12_chern_13 : decode cX12_chern 13 = .ok (.invokevirtual 298, 3) := by decide +kernel
theorem dX12_chern_16 : decode cX12_chern 16 = .ok (.ifCond .ne 7, 3) := by decide +kernel
theorem dX12_chern_19 : decode cX12_chern 19 = .ok (.ldc2_w 287, 3) := by decide +kernel
theorem dX12_chern_22 : decode cX12_chern 22 = .ok (.lreturn, 1) := by decide +kernel
theorem dX12_chern_23 : decode cX12_chern 23 = .ok (.aload_n 0, 1) := by decide +kernel
theorem dX12_chern_24 : decode cX12_chern 24 = .ok (.aload_n 0, 1) := by decide +kernel
theorem dX12_chern_25 : decode cX12_chern 25 = .ok (.getfield 117, 3) := by decide +kernel
theorem dX12_chern_28 : decode cX12_chern 28 = .ok (.invokevirtual 302, 3) := by decide +kernel
theorem dX12_chern_31 : decode cX12_chern 31 = .ok (.aload_n 0, 1) := by decide +kernel
theorem dX12_chern_32 : decode cX12_chern 32 = .ok (.getfield 117, 3) := by decide +kernel
theorem dX12_chern_35 : decode cX12_chern 35 = .ok (.aload_n 0, 1) := by decide +kernel
theorem dX12_chern_36 : decode cX12_chern 36 = .ok (.iload_n 1, 1) := by decide +kernel
theorem dX12_chern_37 : decode cX12_chern 37 = .ok (.invokevirtual 217, 3) := by decide +kernel
theorem dX12_chern_40 : decode cX12_chern 40 = .ok (.laload, 1) := by decide +kernel
theorem dX12_chern_41 : decode cX12_chern 41 = .ok (.lreturn, 1) := by decide +kernel
set_option maxHeartbeats 4000000 in
set_option maxRecDepth 100000 in
theorem cn_X12_chern {l : Launch} {cA : Nat → ClassId} {ad : Nat → Nat} {D : va_G} {E : Nat → Nat} {A : Nat → Prop} {x1 : Int32} {s0 sr : SS} {rr : Int64} (hf : f_X12_chern x1 s0 = some (rr, sr)) : zCon Om Nm cA ad D E l yX12_chern cX12_chern 2 (some .long) 3 A [.ref (ad 0), .int x1] s0 (some (.long rr)) sr := by
  refine zstart (own := RX12) hOm (by decide) rfl (Nat.le_of_ble_eq_true rfl) ?_
  intro p e s m args below meth c X hP ls hl
  have hx := X.1
  have hb := X.2.1
  have hl : lv_has ls 2 [(0, .ref (ad 0)), (1, .int x1)] := hl
  have hS : va_S A s.heap s.heap [] := va_S.rf
  rw [f_X12_chern] at hf
  refine lv_aload_n hx hb dX12_chern_0 rfl (lv_at hl 0 rfl) ?_
  refine lv_iload_n hx hb dX12_chern_1 rfl (lv_at hl 1 rfl) ?_
  obtain ⟨r1, s2, h3, hf⟩ := zbd_some hf
  refine zcallV X hP hS hl.1 (k := 0) (As := [.int x1]) (rest := []) (cn_X12_termOf h3) cw_X12_termOf zp_12 rfl (by decide) rfl ml_X12_217 (by decide) rfl rfl (Nat.le_of_ble_eq_true rfl) dX12_chern_2 (fun H locs hP hS => ?_)
  refine zif_ge (tgt := 12) hx hb dX12_chern_5 (by decide) hf (fun hf => ?_) (fun hf => ?_)
  · refine lv_aload_n hx hb dX12_chern_12 rfl (lv_at hl 0 rfl) ?_
    obtain ⟨r4, s5, h6, hf⟩ := zbd_some hf
    refine zcallV X hP hS hl.1 (k := 0) (As := []) (rest := []) (cn_X12_isBare h6) cw_X12_isBare zp_12 rfl (by decide) rfl ml_X12_298 (by decide) rfl rfl (Nat.le_of_ble_eq_true rfl) dX12_chern_13 (fun H locs hP hS => ?_)
    refine zif_ne (tgt := 23) hx hb dX12_chern_16 (by decide) hf (fun hf => ?_) (fun hf => ?_)
    · refine lv_aload_n hx hb dX12_chern_23 rfl (lv_at hl 0 rfl) ?_
      refine lv_aload_n hx hb dX12_chern_24 rfl (lv_at hl 0 rfl) ?_
      refine gf_X12_117 X hP (k := 0) (q := 15) rfl dX12_chern_25 rfl ?_
      obtain ⟨r7, s8, h9, hf⟩ := zbd_some hf
      refine zcallV X hP hS hl.1 (k := 0) (As := [.ref (ad 15)]) (rest := []) (cn_X12_layChern h9) cw_X12_layChern zp_12 rfl (by decide) rfl ml_X12_302 (by decide) rfl rfl (Nat.le_of_ble_eq_true rfl) dX12_chern_28 (fun H locs hP hS => ?_)
      refine lv_aload_n hx hb dX12_chern_31 rfl (lv_at hl 0 rfl) ?_
      refine gf_X12_117 X hP (k := 0) (q := 15) rfl dX12_chern_32 rfl ?_
      refine lv_aload_n hx hb dX12_chern_35 rfl (lv_at hl 0 rfl) ?_
      refine lv_iload_n hx hb dX12_chern_36 rfl (lv_at hl 1 rfl) ?_
      obtain ⟨r10, s11, h12, hf⟩ := zbd_some hf
      refine zcallV X hP hS hl.1 (k := 0) (As := [.int x1]) (rest := [.ref (ad 15)]) (cn_X12_termOf h12) cw_X12_termOf zp_12 rfl (by decide) rfl ml_X12_217 (by decide) rfl rfl (Nat.le_of_ble_eq_true rfl) dX12_chern_37 (fun H locs hP hS => ?_)
      obtain ⟨g13, hf⟩ := zgd hf
      refine zald_l X hP (k := 15) (n := 462) (rs := []) rfl g13 dX12_chern_40 ?_
      exact zret_l X hP hS hf dX12_chern_41
    · refine zldc2 X co_X12_287 dX12_chern_19 ?_
      exact zret_l X hP hS hf dX12_chern_22
  · refine zldc2 X co_X12_220 dX12_chern_8 ?_
    exact zret_l X hP hS hf dX12_chern_11
theorem dX12_isOfOne_0 : decode cX12_isOfOne 0 = .ok (.iconst 0, 1) := by decide +kernel
theorem dX12_isOfOne_1 : decode cX12_isOfOne 1 = .ok (.istore_n 2, 1) := by decide +kernel
theorem dX12_isOfOne_2 : decode cX12_isOfOne 2 = .ok (.iload_n 2, 1) := by decide +kernel
theorem dX12_isOfOne_3 : decode cX12_isOfOne 3 = .ok (.aload_n 0, 1) := by decide +kernel
theorem dX12_isOfOne_4 : decode cX12_isOfOne 4 = .ok (.getfield 56, 3) := by decide +kernel
theorem dX12_isOfOne_7 : decode cX12_isOfOne 7 = .ok (.if_icmp .ge 32, 3) := by decide +kernel
theorem dX12_isOfOne_10 : decode cX12_isOfOne 10 = .ok (.aload_n 0, 1) := by decide +kernel
theorem dX12_isOfOne_11 : decode cX12_isOfOne 11 = .ok (.getfield 75, 3) := by decide +kernel
theorem dX12_isOfOne_14 : decode cX12_isOfOne 14 = .ok (.iload_n 2, 1) := by decide +kernel
theorem dX12_isOfOne_15 : decode cX12_isOfOne 15 = .ok (.iaload, 1) := by decide +kernel
theorem dX12_isOfOne_16 : decode cX12_isOfOne 16 = .ok (.iconst 1, 1) := by decide +kernel
theorem dX12_isOfOne_17 : decode cX12_isOfOne 17 = .ok (.if_icmp .eq 16, 3) := by decide +kernel
theorem dX12_isOfOne_20 : decode cX12_isOfOne 20 = .ok (.aload_n 0, 1) := by decide +kernel
theorem dX12_isOfOne_21 : decode cX12_isOfOne 21 = .ok (.iload_n 1, 1) := by decide +kernel
theorem dX12_isOfOne_22 : decode cX12_isOfOne 22 = .ok (.iload_n 2, 1) := by decide +kernel
theorem dX12_isOfOne_23 : decode cX12_isOfOne 23 = .ok (.invokevirtual 233, 3) := by decide +kernel
theorem dX12_isOfOne_26 : decode cX12_isOfOne 26 = .ok (.lconst 0, 1) := by decide +kernel
theorem dX12_isOfOne_27 : decode cX12_isOfOne 27 = .ok (.lcmp, 1) := by decide +kernel
theorem dX12_isOfOne_28 : decode cX12_isOfOne 28 = .ok (.ifCond .eq 5, 3) := by decide +kernel
theorem dX12_isOfOne_31 : decode cX12_isOfOne 31 = .ok (.iconst 0, 1) := by decide +kernel
theorem dX12_isOfOne_32 : decode cX12_isOfOne 32 = .ok (.ireturn, 1) := by decide +kernel
theorem dX12_isOfOne_33 : decode cX12_isOfOne 33 = .ok (.iinc 2 1, 3) := by decide +kernel
theorem dX12_isOfOne_36 : decode cX12_isOfOne 36 = .ok (.goto (-34), 3) := by decide +kernel
theorem dX12_isOfOne_39 : decode cX12_isOfOne 39 = .ok (.iconst 1, 1) := by decide +kernel
theorem dX12_isOfOne_40 : decode cX12_isOfOne 40 = .ok (.ireturn, 1) := by decide +kernel
set_option maxHeartbeats 4000000 in
set_option maxRecDepth 100000 in
theorem cn_X12_isOfOne {l : Launch} {cA : Nat → ClassId} {ad : Nat → Nat} {D : va_G} {E : Nat → Nat} {A : Nat → Prop} {x1 : Int32} {s0 sr : SS} {rr : Int32} (hf : f_X12_isOfOne x1 s0 = some (rr, sr)) : zCon Om Nm cA ad D E l yX12_isOfOne cX12_isOfOne 3 (some .boolean) 4 A [.ref (ad 0), .int x1] s0 (some (.int rr)) sr := by
  refine zstart (own := RX12) hOm (by decide) rfl (Nat.le_of_ble_eq_true rfl) ?_
  intro p e s m args below meth c X hP ls hl
  have hx := X.1
  have hb := X.2.1
  have hl : lv_has ls 3 [(0, .ref (ad 0)), (1, .int x1)] := hl
  have hS : va_S A s.heap s.heap [] := va_S.rf
  have hc_2 : ∀ (n2 : Nat) (x1 : Int32) (x2 : Int32) (s1 : SS) (H : Heap) (locs : List Loc) (ls : Array Slot), lv_has ls 3 [(0, .ref (ad 0)), (1, .int x1), (2, .int x2)] → va_P D ZCL (zw Om Nm cA ad s1) H → va_S A s.heap H locs → f_X12_isOfOne_c2 n2 x1 x2 s1 = some (rr, sr) → W p l e (zrm 4) s m args below meth c H locs 0 0 (MQ below (zQc Om Nm cA ad D A (some (.int rr)) sr) args s 0 0 A) (F0 m 2 ls []) := by
    intro n2
    induction n2 with
    | zero =>
      intro x1 x2 s1 H locs ls hl hP hS hf
      rw [f_X12_isOfOne_c2] at hf
      cases hf
    | succ n2 ih2 =>
      have hc_33 : ∀ (x1 : Int32) (x2 : Int32) (s1 : SS) (H : Heap) (locs : List Loc) (ls : Array Slot), lv_has ls 3 [(0, .ref (ad 0)), (1, .int x1), (2, .int x2)] → va_P D ZCL (zw Om Nm cA ad s1) H → va_S A s.heap H locs → f_X12_isOfOne_c33 (f_X12_isOfOne_c2 n2) x1 x2 s1 = some (rr, sr) → W p l e (zrm 4) s m args below meth c H locs 0 0 (MQ below (zQc Om Nm cA ad D A (some (.int rr)) sr) args s 0 0 A) (F0 m 33 ls []) := by
        intro x1 x2 s1 H locs ls hl hP hS hf
        rw [f_X12_isOfOne_c33] at hf
        refine lv_iinc (v := (x2 + 1)) (lv' := [(2, .int (x2 + 1)), (0, .ref (ad 0)), (1, .int x1)]) hx hb dX12_isOfOne_33 hl (k := 2) rfl rfl (by decide) rfl (fun ls hl => ?_)
        refine lv_goto (tgt := 2) hx hb dX12_isOfOne_36 (by decide) ?_
        exact ih2 x1 (x2 + 1) s1 _ _ _ (lv_sub hl [1, 2, 0] rfl) hP hS hf
      intro x1 x2 s1 H locs ls hl hP hS hf
      rw [f_X12_isOfOne_c2] at hf
      refine lv_iload_n hx hb dX12_isOfOne_2 rfl (lv_at hl 2 rfl) ?_
      refine lv_aload_n hx hb dX12_isOfOne_3 rfl (lv_at hl 0 rfl) ?_
      refine gf_X12_56 X hP (k := 0) rfl dX12_isOfOne_4 ?_
      refine zicmp_ge (tgt := 39) hx hb dX12_isOfOne_7 (by decide) hf (fun hf => ?_) (fun hf => ?_)
      · refine lv_iconst (v := 1) hx hb dX12_isOfOne_39 (by decide) ?_
        exact zret_i X hP hS hf rfl dX12_isOfOne_40
      · refine lv_aload_n hx hb dX12_isOfOne_10 rfl (lv_at hl 0 rfl) ?_
        refine gf_X12_75 X hP (k := 0) (q := 5) rfl dX12_isOfOne_11 rfl ?_
        refine lv_iload_n hx hb dX12_isOfOne_14 rfl (lv_at hl 2 rfl) ?_
        obtain ⟨g1, hf⟩ := zgd hf
        refine zald_i X hP (k := 5) (n := 462) (rs := []) rfl g1 dX12_isOfOne_15 ?_
        refine lv_iconst (v := 1) hx hb dX12_isOfOne_16 (by decide) ?_
        refine zicmp_eq (tgt := 33) hx hb dX12_isOfOne_17 (by decide) hf (fun hf => ?_) (fun hf => ?_)
        · exact hc_33 x1 x2 s1 _ _ _ (lv_sub hl [0, 1, 2] rfl) hP hS hf
        · refine lv_aload_n hx hb dX12_isOfOne_20 rfl (lv_at hl 0 rfl) ?_
          refine lv_iload_n hx hb dX12_isOfOne_21 rfl (lv_at hl 1 rfl) ?_
          refine lv_iload_n hx hb dX12_isOfOne_22 rfl (lv_at hl 2 rfl) ?_
          obtain ⟨r2, s3, h4, hf⟩ := zbd_some hf
          refine zcallV X hP hS hl.1 (k := 0) (As := [.int x1, .int x2]) (rest := []) (cn_X12_numberAt h4) cw_X12_numberAt zp_12 rfl (by decide) rfl ml_X12_233 (by decide) rfl rfl (Nat.le_of_ble_eq_true rfl) dX12_isOfOne_23 (fun H locs hP hS => ?_)
          refine lv_lconst (v := 0) hx hb dX12_isOfOne_26 (by decide) ?_
          refine W.lcmp hx hb dX12_isOfOne_27 ?_
          refine zif_eq (tgt := 33) hx hb dX12_isOfOne_28 (by decide) hf (fun hf => ?_) (fun hf => ?_)
          · exact hc_33 x1 x2 s3 _ _ _ (lv_sub hl [0, 1, 2] rfl) hP hS hf
          · refine lv_iconst (v := 0) hx hb dX12_isOfOne_31 (by decide) ?_
            exact zret_i X hP hS hf rfl dX12_isOfOne_32
  rw [f_X12_isOfOne] at hf
  refine lv_iconst (v := 0) hx hb dX12_isOfOne_0 (by decide) ?_
  refine lv_istore_n (lv' := [(2, .int 0), (0, .ref (ad 0)), (1, .int x1)]) hx hb dX12_isOfOne_1 rfl hl (by decide) rfl (fun ls hl => ?_)
  exact hc_2 ZF x1 0 s0 _ _ _ (lv_sub hl [1, 2, 0] rfl) hP hS hf
theorem dX12_layCut_0 : decode cX12_layCut 0 = .ok (.aload_n 0, 1) := by decide +kernel
theorem dX12_layCut_1 : decode cX12_layCut 1 = .ok (.aload_n 0, 1) := by decide +kernel
theorem dX12_layCut_2 : decode cX12_layCut 2 = .ok (.getfield 117, 3) := by decide +kernel
theorem dX12_layCut_5 : decode cX12_layCut 5 = .ok (.invokevirtual 302, 3) := by decide +kernel
theorem dX12_layCut_8 : decode cX12_layCut 8 = .ok (.iconst 0, 1) := by decide +kernel
theorem dX12_layCut_9 : decode cX12_layCut 9 = .ok (.istore_n 3, 1) := by decide +kernel
theorem dX12_layCut_10 : decode cX12_layCut 10 = .ok (.iload_n 3, 1) := by decide +kernel
theorem dX12_layCut_11 : decode cX12_layCut 11 = .ok (.aload_n 0, 1) := by decide +kernel
theorem dX12_layCut_12 : decode cX12_layCut 12 = .ok (.getfield 141, 3) := by decide +kernel
theorem dX12_layCut_15 : decode cX12_layCut 15 = .ok (.iload_n 1, 1) := by decide +kernel
theorem dX12_layCut_16 : decode cX12_layCut 16 = .ok (.iaload, 1) := by decide +kernel
theorem dX12_layCut_17 : decode cX12_layCut 17 = .ok (.if_icmp .ge 155, 3) := by decide +kernel
theorem dX12_layCut_20 : decode cX12_layCut 20 = .ok (.aload_n 0, 1) := by decide +kernel
theorem dX12_layCut_21 : decode cX12_layCut 21 = .ok (.aload_n 0, 1) := by decide +kernel
theorem dX12_layCut_22 : decode cX12_layCut 22 = .ok (.getfield 144, 3) := by decide +kernel
theorem dX12_layCut_25 : decode cX12_layCut 25 = .ok (.bipush 20, 2) := by decide +kernel
theorem dX12_layCut_27 : decode cX12_layCut 27 = .ok (.iload_n 1, 1) := by decide +kernel
theorem dX12_layCut_28 : decode cX12_layCut 28 = .ok (.imul, 1) := by decide +kernel
theorem dX12_layCut_29 : decode cX12_layCut 29 = .ok (.iload_n 3, 1) := by decide +kernel
theorem dX12_layCut_30 : decode cX12_layCut 30 = .ok (.iadd, 1) := by decide +kernel
theorem dX12_layCut_31 : decode cX12_layCut 31 = .ok (.laload, 1) := by decide +kernel
theorem dX12_layCut_32 : decode cX12_layCut 32 = .ok (.l2i, 1) := by decide +kernel
theorem dX12_layCut_33 : decode cX12_layCut 33 = .ok (.aload_n 0, 1) := by decide +kernel
theorem dX12_layCut_34 : decode cX12_layCut 34 = .ok (.getfield 114, 3) := by decide +kernel
theorem dX12_layCut_37 : decode cX12_layCut 37 = .ok (.invokevirtual 264, 3) := by decide +kernel
theorem dX12_layCut_40 : decode cX12_layCut 40 = .ok (.iconst 0, 1) := by decide +kernel
theorem dX12_layCut_41 : decode cX12_layCut 41 = .ok (.istore 4, 2) := by decide +kernel
theorem dX12_layCut_43 : decode cX12_layCut 43 = .ok (.iload 4, 2) := by decide +kernel
theorem dX12_layCut_45 : decode cX12_layCut 45 = .ok (.aload_n 0, 1) := by decide +kernel
theorem dX12_layCut_46 : decode cX12_layCut 46 = .ok (.getfield 56, 3) := by decide +kernel
theorem dX12_layCut_49 : decode cX12_layCut 49 = .ok (.if_icmp .ge 24, 3) := by decide +kernel
theorem dX12_layCut_52 : decode cX12_layCut 52 = .ok (.aload_n 0, 1) := by decide +kernel
theorem dX12_layCut_53 : decode cX12_layCut 53 = .ok (.getfield 114, 3) := by decide +kernel
theorem dX12_layCut_56 : decode cX12_layCut 56 = .ok (.iload 4, 2) := by decide +kernel
theorem dX12_layCut_58 : decode cX12_layCut 58 = .ok (.aload_n 0, 1) := by decide +kernel
theorem dX12_layCut_59 : decode cX12_layCut 59 = .ok (.getfield 114, 3) := by decide +kernel
theorem dX12_layCut_62 : decode cX12_layCut 62 = .ok (.iload 4, 2) := by decide +kernel
theorem dX12_layCut_64 : decode cX12_layCut 64 = .ok (.laload, 1) := by decide +kernel
theorem dX12_layCut_65 : decode cX12_layCut 65 = .ok (.lneg, 1) := by decide +kernel
theorem dX12_layCut_66 : decode cX12_layCut 66 = .ok (.lastore, 1) := by decide +kernel
theorem dX12_layCut_67 : decode cX12_layCut 67 = .ok (.iinc 4 1, 3) := by decide +kernel
theorem dX12_layCut_70 : decode cX12_layCut 70 = .ok (.goto (-27), 3) := by decide +kernel
theorem dX12_layCut_73 : decode cX12_layCut 73 = .ok (.aload_n 0, 1) := by decide +kernel
theorem dX12_layCut_74 : decode cX12_layCut 74 = .ok (.aload_n 0, 1) := by decide +kernel
theorem dX12_layCut_75 : decode cX12_layCut 75 = .ok (.getfield 171, 3) := by decide +kernel
theorem dX12_layCut_78 : decode cX12_layCut 78 = .ok (.invokevirtual 278, 3) := by decide +kernel
theorem dX12_layCut_81 : decode cX12_layCut 81 = .ok (.aload_n 0, 1) := by decide +kernel
theorem dX12_layCut_82 : decode cX12_layCut 82 = .ok (.aload_n 0, 1) := by decide +kernel
theorem dX12_layCut_83 : decode cX12_layCut 83 = .ok (.getfield 111, 3) := by decide +kernel
theorem dX12_layCut_86 : decode cX12_layCut 86 = .ok (.invokevirtual 278, 3) := by decide +kernel
theorem dX12_layCut_89 : decode cX12_layCut 89 = .ok (.iconst 0, 1) := by decide +kernel
theorem dX12_layCut_90 : decode cX12_layCut 90 = .ok (.istore 4, 2) := by decide +kernel
theorem dX12_layCut_92 : decode cX12_layCut 92 = .ok (.iload 4, 2) := by decide +kernel
theorem dX12_layCut_94 : decode cX12_layCut 94 = .ok (.aload_n 0, 1) := by decide +kernel
theorem dX12_layCut_95 : decode cX12_layCut 95 = .ok (.getfield 27, 3) := by decide +kernel
theorem dX12_layCut_98 : decode cX12_layCut 98 = .ok (.if_icmp .ge 56, 3) := by decide +kernel
theorem dX12_layCut_101 : decode cX12_layCut 101 = .ok (.aload_n 0, 1) := by decide +kernel
theorem dX12_layCut_102 : decode cX12_layCut 102 = .ok (.aload_n 0, 1) := by decide +kernel
theorem dX12_layCut_103 : decode cX12_layCut 103 = .ok (.getfield 111, 3) := by decide +kernel
theorem dX12_layCut_106 : decode cX12_layCut 106 = .ok (.aload_n 0, 1) := by decide +kernel
theorem dX12_layCut_107 : decode cX12_layCut 107 = .ok (.getfield 114, 3) := by decide +kernel
theorem dX12_layCut_110 : decode cX12_layCut 110 = .ok (.invokevirtual 272, 3) := by decide +kernel
theorem dX12_layCut_113 : decode cX12_layCut 113 = .ok (.iconst 0, 1) := by decide +kernel
theorem dX12_layCut_114 : decode cX12_layCut 114 = .ok (.istore 5, 2) := by decide +kernel
theorem dX12_layCut_116 : decode cX12_layCut 116 = .ok (.iload 5, 2) := by decide +kernel
theorem dX12_layCut_118 : decode cX12_layCut 118 = .ok (.aload_n 0, 1) := by decide +kernel
theorem dX12_layCut_119 : decode cX12_layCut 119 = .ok (.getfield 56, 3) := by decide +kernel
theorem dX12_layCut_122 : decode cX12_layCut 122 = .ok (.if_icmp .ge 26, 3) := by decide +kernel
theorem dX12_layCut_125 : decode cX12_layCut 125 = .ok (.aload_n 0, 1) := by decide +kernel
theorem dX12_layCut_126 : decode cX12_layCut 126 = .ok (.getfield 171, 3) := by decide +kernel
theorem dX12_layCut_129 : decode cX12_layCut 129 = .ok (.iload 5, 2) := by decide +kernel
theorem dX12_layCut_131 : decode cX12_layCut 131 = .ok (.dup2, 1) := by decide +kernel
theorem dX12_layCut_132 : decode cX12_layCut 132 = .ok (.laload, 1) := by decide +kernel
theorem dX12_layCut_133 : decode cX12_layCut 133 = .ok (.aload_n 0, 1) := by decide +kernel
theorem dX12_layCut_134 : decode cX12_layCut 134 = .ok (.getfield 111, 3) := by decide +kernel
theorem dX12_layCut_137 : decode cX12_layCut 137 = .ok (.iload 5, 2) := by decide +kernel
theorem dX12_layCut_139 : decode cX12_layCut 139 = .ok (.laload, 1) := by decide +kernel
theorem dX12_layCut_140 : decode cX12_layCut 140 = .ok (.ladd, 1) := by decide +kernel
theorem dX12_layCut_141 : decode cX12_layCut 141 = .ok (.lastore, 1) := by decide +kernel
theorem dX12_layCut_142 : decode cX12_layCut 142 = .ok (.iinc 5 1, 3) := by decide +kernel
theorem dX12_layCut_145 : decode cX12_layCut 145 = .ok (.goto (-29), 3) := by decide +kernel
theorem dX12_layCut_148 : decode cX12_layCut 148 = .ok (.iinc 4 1, 3) := by decide +kernel
theorem dX12_layCut_151 : decode cX12_layCut 151 = .ok (.goto (-59), 3) := by decide +kernel
theorem dX12_layCut_154 : decode cX12_layCut 154 = .ok (.aload_n 0, 1) := by decide +kernel
theorem dX12_layCut_155 : decode cX12_layCut 155 = .ok (.aload_n 0, 1) := by decide +kernel
theorem dX12_layCut_156 : decode cX12_layCut 156 = .ok (.getfield 117, 3) := by decide +kernel
theorem dX12_layCut_159 : decode cX12_layCut 159 = .ok (.aload_n 0, 1) := by decide +kernel
theorem dX12_layCut_160 : decode cX12_layCut 160 = .ok (.getfield 171, 3) := by decide +kernel
theorem dX12_layCut_163 : decode cX12_layCut 163 = .ok (.invokevirtual 272, 3) := by decide +kernel
theorem dX12_layCut_166 : decode cX12_layCut 166 = .ok (.iinc 3 1, 3) := by decide +kernel
theorem dX12_layCut_169 : decode cX12_layCut 169 = .ok (.goto (-159), 3) := by decide +kernel
theorem dX12_layCut_172 : decode cX12_layCut 172 = .ok (.iconst 0, 1) := by decide +kernel
theorem dX12_layCut_173 : decode cX12_layCut 173 = .ok (.istore_n 3, 1) := by decide +kernel
theorem dX12_layCut_174 : decode cX12_layCut 174 = .ok (.iload_n 3, 1) := by decide +kernel
theorem dX12_layCut_175 : decode cX12_layCut 175 = .ok (.aload_n 0, 1) := by decide +kernel
theorem dX12_layCut_176 : decode cX12_layCut 176 = .ok (.getfield 56, 3) := by decide +kernel
theorem dX12_layCut_179 : decode cX12_layCut 179 = .ok (.if_icmp .ge 35, 3) := by decide +kernel
theorem dX12_layCut_182 : decode cX12_layCut 182 = .ok (.aload_n 0, 1) := by decide +kernel
theorem dX12_layCut_183 : decode cX12_layCut 183 = .ok (.getfield 117, 3) := by decide +kernel
theorem dX12_layCut_186 : decode cX12_layCut 186 = .ok (.iload_n 3, 1) := by decide +kernel
theorem dX12_layCut_187 : decode cX12_layCut 187 = .ok (.aload_n 0, 1) := by decide +kernel
theorem dX12_layCut_188 : decode cX12_layCut 188 = .ok (.getfield 75, 3) := by decide +kernel
theorem dX12_layCut_191 : decode cX12_layCut 191 = .ok (.iload_n 3, 1) := by decide +kernel
theorem dX12_layCut_192 : decode cX12_layCut 192 = .ok (.iaload, 1) := by decide +kernel
theorem dX12_layCut_193 : decode cX12_layCut 193 = .ok (.iload_n 2, 1) := by decide +kernel
theorem dX12_layCut_194 : decode cX12_layCut 194 = .ok (.if_icmp .ne 12, 3) := by decide +kernel
theorem dX12_layCut_197 : decode cX12_layCut 197 = .ok (.aload_n 0, 1) := by decide +kernel
theorem dX12_layCut_198 : decode cX12_layCut 198 = .ok (.getfield 117, 3) := by decide +kernel
theorem dX12_layCut_201 : decode cX12_layCut 201 = .ok (.iload_n 3, 1) := by decide +kernel
theorem dX12_layCut_202 : decode cX12_layCut 202 = .ok (.laload, 1) := by decide +kernel
theorem dX12_layCut_203 : decode cX12_layCut 203 = .ok (.goto 4, 3) := by decide +kernel
theorem dX12_layCut_206 : decode cX12_layCut 206 = .ok (.lconst 0, 1) := by decide +kernel
theorem dX12_layCut_207 : decode cX12_layCut 207 = .ok (.lastore, 1) := by decide +kernel
theorem dX12_layCut_208 : decode cX12_layCut 208 = .ok (.iinc 3 1, 3) := by decide +kernel
theorem dX12_layCut_211 : decode cX12_layCut 211 = .ok (.goto (-37), 3) := by decide +kernel
theorem dX12_layCut_214 : decode cX12_layCut 214 = .ok (.return_, 1) := by decide +kernel
set_option maxHeartbeats 4000000 in
set_option maxRecDepth 100000 in
theorem cn_X12_layCut {l : Launch} {cA : Nat → ClassId} {ad : Nat → Nat} {D : va_G} {E : Nat → Nat} {A : Nat → Prop} {x1 : Int32} {x2 : Int32} {s0 sr : SS} {rr : Unit} (hf : f_X12_layCut x1 x2 s0 = some (rr, sr)) : zCon Om Nm cA ad D E l yX12_layCut cX12_layCut 6 none 5 A [.ref (ad 0), .int x1, .int x2] s0 none sr := by
  refine zstart (own := RX12) hOm (by decide) rfl (Nat.le_of_ble_eq_true rfl) ?_
  intro p e s m args below meth c X hP ls hl
  have hx := X.1
  have hb := X.2.1
  have hl : lv_has ls 6 [(0, .ref (ad 0)), (1, .int x1), (2, .int x2)] := hl
  have hS : va_S A s.heap s.heap [] := va_S.rf
  have hc_10 : ∀ (n10 : Nat) (x1 : Int32) (x2 : Int32) (x3 : Int32) (s1 : SS) (H : Heap) (locs : List Loc) (ls : Array Slot), lv_has ls 6 [(0, .ref (ad 0)), (1, .int x1), (2, .int x2), (3, .int x3)] → va_P D ZCL (zw Om Nm cA ad s1) H → va_S A s.heap H locs → f_X12_layCut_c10 n10 x1 x2 x3 s1 = some (rr, sr) → W p l e (zrm 5) s m args below meth c H locs 0 0 (MQ below (zQc Om Nm cA ad D A none sr) args s 0 0 A) (F0 m 10 ls []) := by
    intro n10
    induction n10 with
    | zero =>
      intro x1 x2 x3 s1 H locs ls hl hP hS hf
      rw [f_X12_layCut_c10] at hf
      cases hf
    | succ n10 ih10 =>
      have hc_174 : ∀ (n174 : Nat) (x2 : Int32) (x3 : Int32) (s1 : SS) (H : Heap) (locs : List Loc) (ls : Array Slot), lv_has ls 6 [(0, .ref (ad 0)), (2, .int x2), (3, .int x3)] → va_P D ZCL (zw Om Nm cA ad s1) H → va_S A s.heap H locs → f_X12_layCut_c174 n174 x2 x3 s1 = some (rr, sr) → W p l e (zrm 5) s m args below meth c H locs 0 0 (MQ below (zQc Om Nm cA ad D A none sr) args s 0 0 A) (F0 m 174 ls []) := by
        intro n174
        induction n174 with
        | zero =>
          intro x2 x3 s1 H locs ls hl hP hS hf
          rw [f_X12_layCut_c174] at hf
          cases hf
        | succ n174 ih174 =>
          have hc_207 : ∀ (x2 : Int32) (x3 : Int32) (t0 : Int64) (t1 : Int32) (s1 : SS) (H : Heap) (locs : List Loc) (ls : Array Slot), lv_has ls 6 [(0, .ref (ad 0)), (2, .int x2), (3, .int x3)] → va_P D ZCL (zw Om Nm cA ad s1) H → va_S A s.heap H locs → f_X12_layCut_c207 (f_X12_layCut_c174 n174) x2 x3 t0 t1 s1 = some (rr, sr) → W p l e (zrm 5) s m args below meth c H locs 0 0 (MQ below (zQc Om Nm cA ad D A none sr) args s 0 0 A) (F0 m 207 ls [.long t0, .int t1, .ref (ad 15)]) := by
            intro x2 x3 t0 t1 s1 H locs ls hl hP hS hf
            rw [f_X12_layCut_c207] at hf
            obtain ⟨g6, hf⟩ := zgd hf
            refine zast_l X hP hS (k := 15) (n := 462) (rs := []) rfl g6 dX12_layCut_207 (fun H locs hP hS => ?_)
            refine lv_iinc (v := (x3 + 1)) (lv' := [(3, .int (x3 + 1)), (0, .ref (ad 0)), (2, .int x2)]) hx hb dX12_layCut_208 hl (k := 2) rfl rfl (by decide) rfl (fun ls hl => ?_)
            refine lv_goto (tgt := 174) hx hb dX12_layCut_211 (by decide) ?_
            exact ih174 x2 (x3 + 1) (zSL s1 15 (t1).toNatClampNeg t0) _ _ _ (lv_sub hl [1, 2, 0] rfl) hP hS hf
          intro x2 x3 s1 H locs ls hl hP hS hf
          rw [f_X12_layCut_c174] at hf
          refine lv_iload_n hx hb dX12_layCut_174 rfl (lv_at hl 2 rfl) ?_
          refine lv_aload_n hx hb dX12_layCut_175 rfl (lv_at hl 0 rfl) ?_
          refine gf_X12_56 X hP (k := 0) rfl dX12_layCut_176 ?_
          refine zicmp_ge (tgt := 214) hx hb dX12_layCut_179 (by decide) hf (fun hf => ?_) (fun hf => ?_)
          · exact zret_v X hP hS hf dX12_layCut_214
          · refine lv_aload_n hx hb dX12_layCut_182 rfl (lv_at hl 0 rfl) ?_
            refine gf_X12_117 X hP (k := 0) (q := 15) rfl dX12_layCut_183 rfl ?_
            refine lv_iload_n hx hb dX12_layCut_186 rfl (lv_at hl 2 rfl) ?_
            refine lv_aload_n hx hb dX12_layCut_187 rfl (lv_at hl 0 rfl) ?_
            refine gf_X12_75 X hP (k := 0) (q := 5) rfl dX12_layCut_188 rfl ?_
            refine lv_iload_n hx hb dX12_layCut_191 rfl (lv_at hl 2 rfl) ?_
            obtain ⟨g5, hf⟩ := zgd hf
            refine zald_i X hP (k := 5) (n := 462) (rs := []) rfl g5 dX12_layCut_192 ?_
            refine lv_iload_n hx hb dX12_layCut_193 rfl (lv_at hl 1 rfl) ?_
            refine zicmp_ne (tgt := 206) hx hb dX12_layCut_194 (by decide) hf (fun hf => ?_) (fun hf => ?_)
            · refine lv_lconst (v := 0) hx hb dX12_layCut_206 (by decide) ?_
              exact hc_207 x2 x3 0 x3 s1 _ _ _ (lv_sub hl [0, 1, 2] rfl) hP hS hf
            · refine lv_aload_n hx hb dX12_layCut_197 rfl (lv_at hl 0 rfl) ?_
              refine gf_X12_117 X hP (k := 0) (q := 15) rfl dX12_layCut_198 rfl ?_
              refine lv_iload_n hx hb dX12_layCut_201 rfl (lv_at hl 2 rfl) ?_
              obtain ⟨g7, hf⟩ := zgd hf
              refine zald_l X hP (k := 15) (n := 462) (rs := []) rfl g7 dX12_layCut_202 ?_
              refine lv_goto (tgt := 207) hx hb dX12_layCut_203 (by decide) ?_
              exact hc_207 x2 x3 (s1.2 15 (x3).toNatClampNeg) x3 s1 _ _ _ (lv_sub hl [0, 1, 2] rfl) hP hS hf
      have hc_43 : ∀ (n43 : Nat) (x1 : Int32) (x2 : Int32) (x3 : Int32) (x4 : Int32) (s1 : SS) (H : Heap) (locs : List Loc) (ls : Array Slot), lv_has ls 6 [(0, .ref (ad 0)), (1, .int x1), (2, .int x2), (3, .int x3), (4, .int x4)] → va_P D ZCL (zw Om Nm cA ad s1) H → va_S A s.heap H locs → f_X12_layCut_c43 (f_X12_layCut_c10 n10) n43 x1 x2 x3 x4 s1 = some (rr, sr) → W p l e (zrm 5) s m args below meth c H locs 0 0 (MQ below (zQc Om Nm cA ad D A none sr) args s 0 0 A) (F0 m 43 ls []) := by
        intro n43
        induction n43 with
        | zero =>
          intro x1 x2 x3 x4 s1 H locs ls hl hP hS hf
          rw [f_X12_layCut_c43] at hf
          cases hf
        | succ n43 ih43 =>
          have hc_92 : ∀ (n92 : Nat) (x1 : Int32) (x2 : Int32) (x3 : Int32) (x4 : Int32) (s1 : SS) (H : Heap) (locs : List Loc) (ls : Array Slot), lv_has ls 6 [(0, .ref (ad 0)), (1, .int x1), (2, .int x2), (3, .int x3), (4, .int x4)] → va_P D ZCL (zw Om Nm cA ad s1) H → va_S A s.heap H locs → f_X12_layCut_c92 (f_X12_layCut_c10 n10) n92 x1 x2 x3 x4 s1 = some (rr, sr) → W p l e (zrm 5) s m args below meth c H locs 0 0 (MQ below (zQc Om Nm cA ad D A none sr) args s 0 0 A) (F0 m 92 ls []) := by
            intro n92
            induction n92 with
            | zero =>
              intro x1 x2 x3 x4 s1 H locs ls hl hP hS hf
              rw [f_X12_layCut_c92] at hf
              cases hf
            | succ n92 ih92 =>
              have hc_116 : ∀ (n116 : Nat) (x1 : Int32) (x2 : Int32) (x3 : Int32) (x4 : Int32) (x5 : Int32) (s1 : SS) (H : Heap) (locs : List Loc) (ls : Array Slot), lv_has ls 6 [(0, .ref (ad 0)), (1, .int x1), (2, .int x2), (3, .int x3), (4, .int x4), (5, .int x5)] → va_P D ZCL (zw Om Nm cA ad s1) H → va_S A s.heap H locs → f_X12_layCut_c116 (f_X12_layCut_c92 (f_X12_layCut_c10 n10) n92) (f_X12_layCut_c10 n10) n116 x1 x2 x3 x4 x5 s1 = some (rr, sr) → W p l e (zrm 5) s m args below meth c H locs 0 0 (MQ below (zQc Om Nm cA ad D A none sr) args s 0 0 A) (F0 m 116 ls []) := by
                intro n116
                induction n116 with
                | zero =>
                  intro x1 x2 x3 x4 x5 s1 H locs ls hl hP hS hf
                  rw [f_X12_layCut_c116] at hf
                  cases hf
                | succ n116 ih116 =>
                  intro x1 x2 x3 x4 x5 s1 H locs ls hl hP hS hf
                  rw [f_X12_layCut_c116] at hf
                  refine lv_iload hx hb dX12_layCut_116 (lv_at hl 5 rfl) ?_
                  refine lv_aload_n hx hb dX12_layCut_118 rfl (lv_at hl 0 rfl) ?_
                  refine gf_X12_56 X hP (k := 0) rfl dX12_layCut_119 ?_
                  refine zicmp_ge (tgt := 148) hx hb dX12_layCut_122 (by decide) hf (fun hf => ?_) (fun hf => ?_)
                  · refine lv_iinc (v := (x4 + 1)) (lv' := [(4, .int (x4 + 1)), (0, .ref (ad 0)), (1, .int x1), (2, .int x2), (3, .int x3), (5, .int x5)]) hx hb dX12_layCut_148 hl (k := 4) rfl rfl (by decide) rfl (fun ls hl => ?_)
                    refine lv_goto (tgt := 92) hx hb dX12_layCut_151 (by decide) ?_
                    exact ih92 x1 x2 x3 (x4 + 1) s1 _ _ _ (lv_sub hl [1, 2, 3, 4, 0] rfl) hP hS hf
                  · refine lv_aload_n hx hb dX12_layCut_125 rfl (lv_at hl 0 rfl) ?_
                    refine gf_X12_171 X hP (k := 0) (q := 34) rfl dX12_layCut_126 rfl ?_
                    refine lv_iload hx hb dX12_layCut_129 (lv_at hl 5 rfl) ?_
                    refine lv_dup2_11 hx hb dX12_layCut_131 rfl rfl ?_
                    obtain ⟨g24, hf⟩ := zgd hf
                    refine zald_l X hP (k := 34) (n := 462) (rs := []) rfl g24 dX12_layCut_132 ?_
                    refine lv_aload_n hx hb dX12_layCut_133 rfl (lv_at hl 0 rfl) ?_
                    refine gf_X12_111 X hP (k := 0) (q := 13) rfl dX12_layCut_134 rfl ?_
                    refine lv_iload hx hb dX12_layCut_137 (lv_at hl 5 rfl) ?_
                    obtain ⟨g25, hf⟩ := zgd hf
                    refine zald_l X hP (k := 13) (n := 462) (rs := []) rfl g25 dX12_layCut_139 ?_
                    refine lv_ladd hx hb dX12_layCut_140 ?_
                    obtain ⟨g26, hf⟩ := zgd hf
                    refine zast_l X hP hS (k := 34) (n := 462) (rs := []) rfl g26 dX12_layCut_141 (fun H locs hP hS => ?_)
                    refine lv_iinc (v := (x5 + 1)) (lv' := [(5, .int (x5 + 1)), (0, .ref (ad 0)), (1, .int x1), (2, .int x2), (3, .int x3), (4, .int x4)]) hx hb dX12_layCut_142 hl (k := 5) rfl rfl (by decide) rfl (fun ls hl => ?_)
                    refine lv_goto (tgt := 116) hx hb dX12_layCut_145 (by decide) ?_
                    exact ih116 x1 x2 x3 x4 (x5 + 1) (zSL s1 34 (x5).toNatClampNeg (((s1.2 34 (x5).toNatClampNeg) + (s1.2 13 (x5).toNatClampNeg)))) _ _ _ (lv_sub hl [1, 2, 3, 4, 5, 0] rfl) hP hS hf
              intro x1 x2 x3 x4 s1 H locs ls hl hP hS hf
              rw [f_X12_layCut_c92] at hf
              refine lv_iload hx hb dX12_layCut_92 (lv_at hl 4 rfl) ?_
              refine lv_aload_n hx hb dX12_layCut_94 rfl (lv_at hl 0 rfl) ?_
              refine gf_X12_27 X hP (k := 0) rfl dX12_layCut_95 ?_
              refine zicmp_ge (tgt := 154) hx hb dX12_layCut_98 (by decide) hf (fun hf => ?_) (fun hf => ?_)
              · refine lv_aload_n hx hb dX12_layCut_154 rfl (lv_at hl 0 rfl) ?_
                refine lv_aload_n hx hb dX12_layCut_155 rfl (lv_at hl 0 rfl) ?_
                refine gf_X12_117 X hP (k := 0) (q := 15) rfl dX12_layCut_156 rfl ?_
                refine lv_aload_n hx hb dX12_layCut_159 rfl (lv_at hl 0 rfl) ?_
                refine gf_X12_171 X hP (k := 0) (q := 34) rfl dX12_layCut_160 rfl ?_
                obtain ⟨r18, s19, h20, hf⟩ := zbd_some hf
                refine zcallV X hP hS hl.1 (k := 0) (As := [.ref (ad 15), .ref (ad 34)]) (rest := []) (cn_X12_multiply h20) cw_X12_multiply zp_12 rfl (by decide) rfl ml_X12_272 (by decide) rfl rfl (Nat.le_of_ble_eq_true rfl) dX12_layCut_163 (fun H locs hP hS => ?_)
                refine lv_iinc (v := (x3 + 1)) (lv' := [(3, .int (x3 + 1)), (0, .ref (ad 0)), (1, .int x1), (2, .int x2), (4, .int x4)]) hx hb dX12_layCut_166 hl (k := 3) rfl rfl (by decide) rfl (fun ls hl => ?_)
                refine lv_goto (tgt := 10) hx hb dX12_layCut_169 (by decide) ?_
                exact ih10 x1 x2 (x3 + 1) s19 _ _ _ (lv_sub hl [1, 2, 3, 0] rfl) hP hS hf
              · refine lv_aload_n hx hb dX12_layCut_101 rfl (lv_at hl 0 rfl) ?_
                refine lv_aload_n hx hb dX12_layCut_102 rfl (lv_at hl 0 rfl) ?_
                refine gf_X12_111 X hP (k := 0) (q := 13) rfl dX12_layCut_103 rfl ?_
                refine lv_aload_n hx hb dX12_layCut_106 rfl (lv_at hl 0 rfl) ?_
                refine gf_X12_114 X hP (k := 0) (q := 14) rfl dX12_layCut_107 rfl ?_
                obtain ⟨r21, s22, h23, hf⟩ := zbd_some hf
                refine zcallV X hP hS hl.1 (k := 0) (As := [.ref (ad 13), .ref (ad 14)]) (rest := []) (cn_X12_multiply h23) cw_X12_multiply zp_12 rfl (by decide) rfl ml_X12_272 (by decide) rfl rfl (Nat.le_of_ble_eq_true rfl) dX12_layCut_110 (fun H locs hP hS => ?_)
                refine lv_iconst (v := 0) hx hb dX12_layCut_113 (by decide) ?_
                refine lv_istore (lv' := [(5, .int 0), (0, .ref (ad 0)), (1, .int x1), (2, .int x2), (3, .int x3), (4, .int x4)]) hx hb dX12_layCut_114 hl (by decide) rfl (fun ls hl => ?_)
                exact hc_116 ZF x1 x2 x3 x4 0 s22 _ _ _ (lv_sub hl [1, 2, 3, 4, 5, 0] rfl) hP hS hf
          intro x1 x2 x3 x4 s1 H locs ls hl hP hS hf
          rw [f_X12_layCut_c43] at hf
          refine lv_iload hx hb dX12_layCut_43 (lv_at hl 4 rfl) ?_
          refine lv_aload_n hx hb dX12_layCut_45 rfl (lv_at hl 0 rfl) ?_
          refine gf_X12_56 X hP (k := 0) rfl dX12_layCut_46 ?_
          refine zicmp_ge (tgt := 73) hx hb dX12_layCut_49 (by decide) hf (fun hf => ?_) (fun hf => ?_)
          · refine lv_aload_n hx hb dX12_layCut_73 rfl (lv_at hl 0 rfl) ?_
            refine lv_aload_n hx hb dX12_layCut_74 rfl (lv_at hl 0 rfl) ?_
            refine gf_X12_171 X hP (k := 0) (q := 34) rfl dX12_layCut_75 rfl ?_
            obtain ⟨r12, s13, h14, hf⟩ := zbd_some hf
            refine zcallV X hP hS hl.1 (k := 0) (As := [.ref (ad 34)]) (rest := []) (cn_X12_layOne h14) cw_X12_layOne zp_12 rfl (by decide) rfl ml_X12_278 (by decide) rfl rfl (Nat.le_of_ble_eq_true rfl) dX12_layCut_78 (fun H locs hP hS => ?_)
            refine lv_aload_n hx hb dX12_layCut_81 rfl (lv_at hl 0 rfl) ?_
            refine lv_aload_n hx hb dX12_layCut_82 rfl (lv_at hl 0 rfl) ?_
            refine gf_X12_111 X hP (k := 0) (q := 13) rfl dX12_layCut_83 rfl ?_
            obtain ⟨r15, s16, h17, hf⟩ := zbd_some hf
            refine zcallV X hP hS hl.1 (k := 0) (As := [.ref (ad 13)]) (rest := []) (cn_X12_layOne h17) cw_X12_layOne zp_12 rfl (by decide) rfl ml_X12_278 (by decide) rfl rfl (Nat.le_of_ble_eq_true rfl) dX12_layCut_86 (fun H locs hP hS => ?_)
            refine lv_iconst (v := 0) hx hb dX12_layCut_89 (by decide) ?_
            refine lv_istore (lv' := [(4, .int 0), (0, .ref (ad 0)), (1, .int x1), (2, .int x2), (3, .int x3)]) hx hb dX12_layCut_90 hl (by decide) rfl (fun ls hl => ?_)
            exact hc_92 ZF x1 x2 x3 0 s16 _ _ _ (lv_sub hl [1, 2, 3, 4, 0] rfl) hP hS hf
          · refine lv_aload_n hx hb dX12_layCut_52 rfl (lv_at hl 0 rfl) ?_
            refine gf_X12_114 X hP (k := 0) (q := 14) rfl dX12_layCut_53 rfl ?_
            refine lv_iload hx hb dX12_layCut_56 (lv_at hl 4 rfl) ?_
            refine lv_aload_n hx hb dX12_layCut_58 rfl (lv_at hl 0 rfl) ?_
            refine gf_X12_114 X hP (k := 0) (q := 14) rfl dX12_layCut_59 rfl ?_
            refine lv_iload hx hb dX12_layCut_62 (lv_at hl 4 rfl) ?_
            obtain ⟨g27, hf⟩ := zgd hf
            refine zald_l X hP (k := 14) (n := 462) (rs := []) rfl g27 dX12_layCut_64 ?_
            refine lv_lneg hx hb dX12_layCut_65 ?_
            obtain ⟨g28, hf⟩ := zgd hf
            refine zast_l X hP hS (k := 14) (n := 462) (rs := []) rfl g28 dX12_layCut_66 (fun H locs hP hS => ?_)
            refine lv_iinc (v := (x4 + 1)) (lv' := [(4, .int (x4 + 1)), (0, .ref (ad 0)), (1, .int x1), (2, .int x2), (3, .int x3)]) hx hb dX12_layCut_67 hl (k := 4) rfl rfl (by decide) rfl (fun ls hl => ?_)
            refine lv_goto (tgt := 43) hx hb dX12_layCut_70 (by decide) ?_
            exact ih43 x1 x2 x3 (x4 + 1) (zSL s1 14 (x4).toNatClampNeg (-(s1.2 14 (x4).toNatClampNeg))) _ _ _ (lv_sub hl [1, 2, 3, 4, 0] rfl) hP hS hf
      intro x1 x2 x3 s1 H locs ls hl hP hS hf
      rw [f_X12_layCut_c10] at hf
      refine lv_iload_n hx hb dX12_layCut_10 rfl (lv_at hl 3 rfl) ?_
      refine lv_aload_n hx hb dX12_layCut_11 rfl (lv_at hl 0 rfl) ?_
      refine gf_X12_141 X hP (k := 0) (q := 23) rfl dX12_layCut_12 rfl ?_
      refine lv_iload_n hx hb dX12_layCut_15 rfl (lv_at hl 1 rfl) ?_
      obtain ⟨g4, hf⟩ := zgd hf
      refine zald_i X hP (k := 23) (n := 3) (rs := []) rfl g4 dX12_layCut_16 ?_
      refine zicmp_ge (tgt := 172) hx hb dX12_layCut_17 (by decide) hf (fun hf => ?_) (fun hf => ?_)
      · refine lv_iconst (v := 0) hx hb dX12_layCut_172 (by decide) ?_
        refine lv_istore_n (lv' := [(3, .int 0), (0, .ref (ad 0)), (1, .int x1), (2, .int x2)]) hx hb dX12_layCut_173 rfl hl (by decide) rfl (fun ls hl => ?_)
        exact hc_174 ZF x2 0 s1 _ _ _ (lv_sub hl [1, 3, 0] rfl) hP hS hf
      · refine lv_aload_n hx hb dX12_layCut_20 rfl (lv_at hl 0 rfl) ?_
        refine lv_aload_n hx hb dX12_layCut_21 rfl (lv_at hl 0 rfl) ?_
        refine gf_X12_144 X hP (k := 0) (q := 24) rfl dX12_layCut_22 rfl ?_
        refine lv_bipush (v := 20) hx hb dX12_layCut_25 (by decide) ?_
        refine lv_iload_n hx hb dX12_layCut_27 rfl (lv_at hl 1 rfl) ?_
        refine lv_imul hx hb dX12_layCut_28 ?_
        refine lv_iload_n hx hb dX12_layCut_29 rfl (lv_at hl 3 rfl) ?_
        refine lv_iadd hx hb dX12_layCut_30 ?_
        obtain ⟨g8, hf⟩ := zgd hf
        refine zald_l X hP (k := 24) (n := 60) (rs := []) rfl g8 dX12_layCut_31 ?_
        refine lv_l2i hx hb dX12_layCut_32 rfl ?_
        refine lv_aload_n hx hb dX12_layCut_33 rfl (lv_at hl 0 rfl) ?_
        refine gf_X12_114 X hP (k := 0) (q := 14) rfl dX12_layCut_34 rfl ?_
        obtain ⟨r9, s10, h11, hf⟩ := zbd_some hf
        refine zcallV X hP hS hl.1 (k := 0) (As := [.int ((s1.2 24 ((((20 : Int32) * x1) + x3)).toNatClampNeg)).toInt32, .ref (ad 14)]) (rest := []) (cn_X12_layClass h11) cw_X12_layClass zp_12 rfl (by decide) rfl ml_X12_264 (by decide) rfl rfl (Nat.le_of_ble_eq_true rfl) dX12_layCut_37 (fun H locs hP hS => ?_)
        refine lv_iconst (v := 0) hx hb dX12_layCut_40 (by decide) ?_
        refine lv_istore (lv' := [(4, .int 0), (0, .ref (ad 0)), (1, .int x1), (2, .int x2), (3, .int x3)]) hx hb dX12_layCut_41 hl (by decide) rfl (fun ls hl => ?_)
        exact hc_43 ZF x1 x2 x3 0 s10 _ _ _ (lv_sub hl [1, 2, 3, 4, 0] rfl) hP hS hf
  rw [f_X12_layCut] at hf
  refine lv_aload_n hx hb dX12_layCut_0 rfl (lv_at hl 0 rfl) ?_
  refine lv_aload_n hx hb dX12_layCut_1 rfl (lv_at hl 0 rfl) ?_
  refine gf_X12_117 X hP (k := 0) (q := 15) rfl dX12_layCut_2 rfl ?_
  obtain ⟨r1, s2, h3, hf⟩ := zbd_some hf
  refine zcallV X hP hS hl.1 (k := 0) (As := [.ref (ad 15)]) (rest := []) (cn_X12_layChern h3) cw_X12_layChern zp_12 rfl (by decide) rfl ml_X12_302 (by decide) rfl rfl (Nat.le_of_ble_eq_true rfl) dX12_layCut_5 (fun H locs hP hS => ?_)
  refine lv_iconst (v := 0) hx hb dX12_layCut_8 (by decide) ?_
  refine lv_istore_n (lv' := [(3, .int 0), (0, .ref (ad 0)), (1, .int x1), (2, .int x2)]) hx hb dX12_layCut_9 rfl hl (by decide) rfl (fun ls hl => ?_)
  exact hc_10 ZF x1 x2 0 s2 _ _ _ (lv_sub hl [1, 2, 3, 0] rfl) hP hS hf
theorem dX12_eulerOf_0 : decode cX12_eulerOf 0 = .ok (.aload_n 0, 1) := by decide +kernel
theorem dX12_eulerOf_1 : decode cX12_eulerOf 1 = .ok (.iload_n 1, 1) := by decide +kernel
theorem dX12_eulerOf_2 : decode cX12_eulerOf 2 = .ok (.iload_n 2, 1) := by decide +kernel
theorem dX12_eulerOf_3 : decode cX12_eulerOf 3 = .ok (.invokevirtual 305, 3) := by decide +kernel
theorem dX12_eulerOf_6 : decode cX12_eulerOf 6 = .ok (.aload_n 0, 1) := by decide +kernel
theorem dX12_eulerOf_7 : decode cX12_eulerOf 7 = .ok (.iload_n 1, 1) := by decide +kernel
theorem dX12_eulerOf_8 : decode cX12_eulerOf 8 = .ok (.invokevirtual 289, 3) := by decide +kernel
theorem dX12_eulerOf_11 : decode cX12_eulerOf 11 = .ok (.aload_n 0, 1) := by decide +kernel
theorem dX12_eulerOf_12 : decode cX12_eulerOf 12 = .ok (.aload_n 0, 1) := by decide +kernel
theorem dX12_eulerOf_13 : decode cX12_eulerOf 13 = .ok (.getfield 111, 3) := by decide +kernel
theorem dX12_eulerOf_16 : decode cX12_eulerOf 16 = .ok (.aload_n 0, 1) := by decide +kernel
theorem dX12_eulerOf_17 : decode cX12_eulerOf 17 = .ok (.getfield 117, 3) := by decide +kernel
theorem dX12_eulerOf_20 : decode cX12_eulerOf 20 = .ok (.invokevirtual 272, 3) := by decide +kernel
theorem dX12_eulerOf_23 : decode cX12_eulerOf 23 = .ok (.aload_n 0, 1) := by decide +kernel
theorem dX12_eulerOf_24 : decode cX12_eulerOf 24 = .ok (.aload_n 0, 1) := by decide +kernel
theorem dX12_eulerOf_25 : decode cX12_eulerOf 25 = .ok (.getfield 111, 3) := by decide +kernel
theorem dX12_eulerOf_28 : decode cX12_eulerOf 28 = .ok (.invokevirtual 268, 3) := by decide +kernel
theorem dX12_eulerOf_31 : decode cX12_eulerOf 31 = .ok (.lreturn, 1) := by decide +kernel
set_option maxHeartbeats 4000000 in
set_option maxRecDepth 100000 in
theorem cn_X12_eulerOf {l : Launch} {cA : Nat → ClassId} {ad : Nat → Nat} {D : va_G} {E : Nat → Nat} {A : Nat → Prop} {x1 : Int32} {x2 : Int32} {s0 sr : SS} {rr : Int64} (hf : f_X12_eulerOf x1 x2 s0 = some (rr, sr)) : zCon Om Nm cA ad D E l yX12_eulerOf cX12_eulerOf 3 (some .long) 6 A [.ref (ad 0), .int x1, .int x2] s0 (some (.long rr)) sr := by
  refine zstart (own := RX12) hOm (by decide) rfl (Nat.le_of_ble_eq_true rfl) ?_
  intro p e s m args below meth c X hP ls hl
  have hx := X.1
  have hb := X.2.1
  have hl : lv_has ls 3 [(0, .ref (ad 0)), (1, .int x1), (2, .int x2)] := hl
  have hS : va_S A s.heap s.heap [] := va_S.rf
  rw [f_X12_eulerOf] at hf
  refine lv_aload_n hx hb dX12_eulerOf_0 rfl (lv_at hl 0 rfl) ?_
  refine lv_iload_n hx hb dX12_eulerOf_1 rfl (lv_at hl 1 rfl) ?_
  refine lv_iload_n hx hb dX12_eulerOf_2 rfl (lv_at hl 2 rfl) ?_
  obtain ⟨r1, s2, h3, hf⟩ := zbd_some hf
  refine zcallV X hP hS hl.1 (k := 0) (As := [.int x1, .int x2]) (rest := []) (cn_X12_layCut h3) cw_X12_layCut zp_12 rfl (by decide) rfl ml_X12_305 (by decide) rfl rfl (Nat.le_of_ble_eq_true rfl) dX12_eulerOf_3 (fun H locs hP hS => ?_)
  refine lv_aload_n hx hb dX12_eulerOf_6 rfl (lv_at hl 0 rfl) ?_
  refine lv_iload_n hx hb dX12_eulerOf_7 rfl (lv_at hl 1 rfl) ?_
  obtain ⟨r4, s5, h6, hf⟩ := zbd_some hf
  refine zcallV X hP hS hl.1 (k := 0) (As := [.int x1]) (rest := []) (cn_X12_layAll h6) cw_X12_layAll zp_12 rfl (by decide) rfl ml_X12_289 (by decide) rfl rfl (Nat.le_of_ble_eq_true rfl) dX12_eulerOf_8 (fun H locs hP hS => ?_)
  refine lv_aload_n hx hb dX12_eulerOf_11 rfl (lv_at hl 0 rfl) ?_
  refine lv_aload_n hx hb dX12_eulerOf_12 rfl (lv_at hl 0 rfl) ?_
  refine gf_X12_111 X hP (k := 0) (q := 13) rfl dX12_eulerOf_13 rfl ?_
  refine lv_aload_n hx hb dX12_eulerOf_16 rfl (lv_at hl 0 rfl) ?_
  refine gf_X12_117 X hP (k := 0) (q := 15) rfl dX12_eulerOf_17 rfl ?_
  obtain ⟨r7, s8, h9, hf⟩ := zbd_some hf
  refine zcallV X hP hS hl.1 (k := 0) (As := [.ref (ad 13), .ref (ad 15)]) (rest := []) (cn_X12_multiply h9) cw_X12_multiply zp_12 rfl (by decide) rfl ml_X12_272 (by decide) rfl rfl (Nat.le_of_ble_eq_true rfl) dX12_eulerOf_20 (fun H locs hP hS => ?_)
  refine lv_aload_n hx hb dX12_eulerOf_23 rfl (lv_at hl 0 rfl) ?_
  refine lv_aload_n hx hb dX12_eulerOf_24 rfl (lv_at hl 0 rfl) ?_
  refine gf_X12_111 X hP (k := 0) (q := 13) rfl dX12_eulerOf_25 rfl ?_
  obtain ⟨r10, s11, h12, hf⟩ := zbd_some hf
  refine zcallV X hP hS hl.1 (k := 0) (As := [.ref (ad 13)]) (rest := []) (cn_X12_metOf h12) cw_X12_metOf zp_12 rfl (by decide) rfl ml_X12_268 (by decide) rfl rfl (Nat.le_of_ble_eq_true rfl) dX12_eulerOf_28 (fun H locs hP hS => ?_)
  exact zret_l X hP hS hf dX12_eulerOf_31
theorem dX12_cutOut_0 : decode cX12_cutOut 0 = .ok (.iload_n 2, 1) := by decide +kernel
theorem dX12_cutOut_1 : decode cX12_cutOut 1 = .ok (.i2l, 1) := by decide +kernel
theorem dX12_cutOut_2 : decode cX12_cutOut 2 = .ok (.lconst 0, 1) := by decide +kernel
theorem dX12_cutOut_3 : decode cX12_cutOut 3 = .ok (.ldc2_w 309, 3) := by decide +kernel
theorem dX12_cutOut_6 : decode cX12_cutOut 6 = .ok (.invokestatic 203, 3) := by decide +kernel
theorem dX12_cutOut_9 : decode cX12_cutOut 9 = .ok (.ifCond .eq 11, 3) := by decide +kernel
theorem dX12_cutOut_12 : decode cX12_cutOut 12 = .ok (.aload_n 0, 1) := by decide +kernel
theorem dX12_cutOut_13 : decode cX12_cutOut 13 = .ok (.iload_n 1, 1) := by decide +kernel
theorem dX12_cutOut_14 : decode cX12_cutOut 14 = .ok (.invokevirtual 281, 3) := by decide +kernel
theorem dX12_cutOut_17 : decode cX12_cutOut 17 = .ok (.ifCond .ne 7, 3) := by decide +kernel
theorem dX12_cutOut_20 : decode cX12_cutOut 20 = .ok (.ldc2_w 220, 3) := by decide +kernel
theorem dX12_cutOut_23 : decode cX12_cutOut 23 = .ok (.lreturn, 1) := by decide +kernel
theorem dX12_cutOut_24 : decode cX12_cutOut 24 = .ok (.aload_n 0, 1) := by decide +kernel
theorem dX12_cutOut_25 : decode cX12_cutOut 25 = .ok (.invokevirtual 298, 3) := by decide +kernel
theorem dX12_cutOut_28 : decode cX12_cutOut 28 = .ok (.ifCond .eq 24, 3) := by decide +kernel
theorem dX12_cutOut_31 : decode cX12_cutOut 31 = .ok (.aload_n 0, 1) := by decide +kernel
theorem dX12_cutOut_32 : decode cX12_cutOut 32 = .ok (.iload_n 1, 1) := by decide +kernel
theorem dX12_cutOut_33 : decode cX12_cutOut 33 = .ok (.invokevirtual 284, 3) := by decide +kernel
theorem dX12_cutOut_36 : decode cX12_cutOut 36 = .ok (.ifCond .eq 16, 3) := by decide +kernel
theorem dX12_cutOut_39 : decode cX12_cutOut 39 = .ok (.aload_n 0, 1) := by decide +kernel
theorem dX12_cutOut_40 : decode cX12_cutOut 40 = .ok (.getfield 141, 3) := by decide +kernel
theorem dX12_cutOut_43 : decode cX12_cutOut 43 = .ok (.iload_n 1, 1) := by decide +kernel
theorem dX12_cutOut_44 : decode cX12_cutOut 44 = .ok (.iaload, 1) := by decide +kernel
theorem dX12_cutOut_45 : decode cX12_cutOut 45 = .ok (.aload_n 0, 1) := by decide +kernel
theorem dX12_cutOut_46 : decode cX12_cutOut 46 = .ok (.getfield 27, 3) := by decide +kernel
theorem dX12_cutOut_49 : decode cX12_cutOut 49 = .ok (.if_icmp .le 7, 3) := by decide +kernel
theorem dX12_cutOut_52 : decode cX12_cutOut 52 = .ok (.ldc2_w 287, 3) := by decide +kernel
theorem dX12_cutOut_55 : decode cX12_cutOut 55 = .ok (.lreturn, 1) := by decide +kernel
theorem dX12_cutOut_56 : decode cX12_cutOut 56 = .ok (.iconst 0, 1) := by decide +kernel
theorem dX12_cutOut_57 : decode cX12_cutOut 57 = .ok (.istore_n 3, 1) := by decide +kernel
theorem dX12_cutOut_58 : decode cX12_cutOut 58 = .ok (.iload_n 3, 1) := by decide +kernel
theorem dX12_cutOut_59 : decode cX12_cutOut 59 = .ok (.aload_n 0, 1) := by decide +kernel
theorem dX12_cutOut_60 : decode cX12_cutOut 60 = .ok (.getfield 141, 3) := by decide +kernel
theorem dX12_cutOut_63 : decode cX12_cutOut 63 = .ok (.iload_n 1, 1) := by decide +kernel
theorem dX12_cutOut_64 : decode cX12_cutOut 64 = .ok (.iaload, 1) := by decide +kernel
theorem dX12_cutOut_65 : decode cX12_cutOut 65 = .ok (.if_icmp .ge 32, 3) := by decide +kernel
theorem dX12_cutOut_68 : decode cX12_cutOut 68 = .ok (.aload_n 0, 1) := by decide +kernel
theorem dX12_cutOut_69 : decode cX12_cutOut 69 = .ok (.aload_n 0, 1) := by decide +kernel
theorem dX12_cutOut_70 : decode cX12_cutOut 70 = .ok (.getfield 144, 3) := by decide +kernel
theorem dX12_cutOut_73 : decode cX12_cutOut 73 = .ok (.bipush 20, 2) := by decide +kernel
theorem dX12_cutOut_75 : decode cX12_cutOut 75 = .ok (.iload_n 1, 1) := by decide +kernel
theorem dX12_cutOut_76 : decode cX12_cutOut 76 = .ok (.imul, 1) := by decide +kernel
theorem dX12_cutOut_77 : decode cX12_cutOut 77 = .ok (.iload_n 3, 1) := by decide +kernel
theorem dX12_cutOut_78 : decode cX12_cutOut 78 = .ok (.iadd, 1) := by decide +kernel
theorem dX12_cutOut_79 : decode cX12_cutOut 79 = .ok (.laload, 1) := by decide +kernel
theorem dX12_cutOut_80 : decode cX12_cutOut 80 = .ok (.l2i, 1) := by decide +kernel
theorem dX12_cutOut_81 : decode cX12_cutOut 81 = .ok (.invokevirtual 311, 3) := by decide +kernel
theorem dX12_cutOut_84 : decode cX12_cutOut 84 = .ok (.ifCond .ne 7, 3) := by decide +kernel
theorem dX12_cutOut_87 : decode cX12_cutOut 87 = .ok (.ldc2_w 287, 3) := by decide +kernel
theorem dX12_cutOut_90 : decode cX12_cutOut 90 = .ok (.lreturn, 1) := by decide +kernel
theorem dX12_cutOut_91 : decode cX12_cutOut 91 = .ok (.iinc 3 1, 3) := by decide +kernel
theorem dX12_cutOut_94 : decode cX12_cutOut 94 = .ok (.goto (-36), 3) := by decide +kernel
theorem dX12_cutOut_97 : decode cX12_cutOut 97 = .ok (.aload_n 0, 1) := by decide +kernel
theorem dX12_cutOut_98 : decode cX12_cutOut 98 = .ok (.getfield 27, 3) := by decide +kernel
theorem dX12_cutOut_101 : decode cX12_cutOut 101 = .ok (.aload_n 0, 1) := by decide +kernel
theorem dX12_cutOut_102 : decode cX12_cutOut 102 = .ok (.getfield 141, 3) := by decide +kernel
theorem dX12_cutOut_105 : decode cX12_cutOut 105 = .ok (.iload_n 1, 1) := by decide +kernel
theorem dX12_cutOut_106 : decode cX12_cutOut 106 = .ok (.iaload, 1) := by decide +kernel
theorem dX12_cutOut_107 : decode cX12_cutOut 107 = .ok (.isub, 1) := by decide +kernel
theorem dX12_cutOut_108 : decode cX12_cutOut 108 = .ok (.istore_n 3, 1) := by decide +kernel
theorem dX12_cutOut_109 : decode cX12_cutOut 109 = .ok (.iload_n 2, 1) := by decide +kernel
theorem dX12_cutOut_110 : decode cX12_cutOut 110 = .ok (.ifCond .ne 6, 3) := by decide +kernel
theorem dX12_cutOut_113 : decode cX12_cutOut 113 = .ok (.iload_n 3, 1) := by decide +kernel
theorem dX12_cutOut_114 : decode cX12_cutOut 114 = .ok (.i2l, 1) := by decide +kernel
theorem dX12_cutOut_115 : decode cX12_cutOut 115 = .ok (.lreturn, 1) := by decide +kernel
theorem dX12_cutOut_116 : decode cX12_cutOut 116 = .ok (.iload_n 2, 1) := by decide +kernel
theorem dX12_cutOut_117 : decode cX12_cutOut 117 = .ok (.iconst 1, 1) := by decide +kernel
theorem dX12_cutOut_118 : decode cX12_cutOut 118 = .ok (.if_icmp .ne 52, 3) := by decide +kernel
theorem dX12_cutOut_121 : decode cX12_cutOut 121 = .ok (.aload_n 0, 1) := by decide +kernel
theorem dX12_cutOut_122 : decode cX12_cutOut 122 = .ok (.iload_n 1, 1) := by decide +kernel
theorem dX12_cutOut_123 : decode cX12_cutOut 123 = .ok (.invokevirtual 289, 3) := by decide +kernel
theorem dX12_cutOut_126 : decode cX12_cutOut 126 = .ok (.aload_n 0, 1) := by decide +kernel
theorem dX12_cutOut_127 : decode cX12_cutOut 127 = .ok (.aload_n 0, 1) := by decide +kernel
theorem dX12_cutOut_128 : decode cX12_cutOut 128 = .ok (.getfield 114, 3) := by decide +kernel
theorem dX12_cutOut_131 : decode cX12_cutOut 131 = .ok (.invokevirtual 257, 3) := by decide +kernel
theorem dX12_cutOut_134 : decode cX12_cutOut 134 = .ok (.iconst 0, 1) := by decide +kernel
theorem dX12_cutOut_135 : decode cX12_cutOut 135 = .ok (.istore 4, 2) := by decide +kernel
theorem dX12_cutOut_137 : decode cX12_cutOut 137 = .ok (.iload 4, 2) := by decide +kernel
theorem dX12_cutOut_139 : decode cX12_cutOut 139 = .ok (.iload_n 3, 1) := by decide +kernel
theorem dX12_cutOut_140 : decode cX12_cutOut 140 = .ok (.if_icmp .ge 21, 3) := by decide +kernel
theorem dX12_cutOut_143 : decode cX12_cutOut 143 = .ok (.aload_n 0, 1) := by decide +kernel
theorem dX12_cutOut_144 : decode cX12_cutOut 144 = .ok (.aload_n 0, 1) := by decide +kernel
theorem dX12_cutOut_145 : decode cX12_cutOut 145 = .ok (.getfield 111, 3) := by decide +kernel
theorem dX12_cutOut_148 : decode cX12_cutOut 148 = .ok (.aload_n 0, 1) := by decide +kernel
theorem dX12_cutOut_149 : decode cX12_cutOut 149 = .ok (.getfield 114, 3) := by decide +kernel
theorem dX12_cutOut_152 : decode cX12_cutOut 152 = .ok (.invokevirtual 272, 3) := by decide +kernel
theorem dX12_cutOut_155 : decode cX12_cutOut 155 = .ok (.iinc 4 1, 3) := by decide +kernel
theorem dX12_cutOut_158 : decode cX12_cutOut 158 = .ok (.goto (-21), 3) := by decide +kernel
theorem dX12_cutOut_161 : decode cX12_cutOut 161 = .ok (.aload_n 0, 1) := by decide +kernel
theorem dX12_cutOut_162 : decode cX12_cutOut 162 = .ok (.aload_n 0, 1) := by decide +kernel
theorem dX12_cutOut_163 : decode cX12_cutOut 163 = .ok (.getfield 111, 3) := by decide +kernel
theorem dX12_cutOut_166 : decode cX12_cutOut 166 = .ok (.invokevirtual 268, 3) := by decide +kernel
theorem dX12_cutOut_169 : decode cX12_cutOut 169 = .ok (.lreturn, 1) := by decide +kernel
theorem dX12_cutOut_170 : decode cX12_cutOut 170 = .ok (.iload_n 2, 1) := by decide +kernel
theorem dX12_cutOut_171 : decode cX12_cutOut 171 = .ok (.iconst 3, 1) := by decide +kernel
theorem dX12_cutOut_172 : decode cX12_cutOut 172 = .ok (.if_icmp .ne 12, 3) := by decide +kernel
theorem dX12_cutOut_175 : decode cX12_cutOut 175 = .ok (.iload_n 3, 1) := by decide +kernel
theorem dX12_cutOut_176 : decode cX12_cutOut 176 = .ok (.iconst 1, 1) := by decide +kernel
theorem dX12_cutOut_177 : decode cX12_cutOut 177 = .ok (.if_icmp .eq 7, 3) := by decide +kernel
theorem dX12_cutOut_180 : decode cX12_cutOut 180 = .ok (.ldc2_w 287, 3) := by decide +kernel
theorem dX12_cutOut_183 : decode cX12_cutOut 183 = .ok (.lreturn, 1) := by decide +kernel
theorem dX12_cutOut_184 : decode cX12_cutOut 184 = .ok (.aload_n 0, 1) := by decide +kernel
theorem dX12_cutOut_185 : decode cX12_cutOut 185 = .ok (.iload_n 1, 1) := by decide +kernel
theorem dX12_cutOut_186 : decode cX12_cutOut 186 = .ok (.iload_n 3, 1) := by decide +kernel
theorem dX12_cutOut_187 : decode cX12_cutOut 187 = .ok (.invokevirtual 314, 3) := by decide +kernel
theorem dX12_cutOut_190 : decode cX12_cutOut 190 = .ok (.lstore 4, 2) := by decide +kernel
theorem dX12_cutOut_192 : decode cX12_cutOut 192 = .ok (.iload_n 2, 1) := by decide +kernel
theorem dX12_cutOut_193 : decode cX12_cutOut 193 = .ok (.iconst 2, 1) := by decide +kernel
theorem dX12_cutOut_194 : decode cX12_cutOut 194 = .ok (.if_icmp .ne 8, 3) := by decide +kernel
theorem dX12_cutOut_197 : decode cX12_cutOut 197 = .ok (.lload 4, 2) := by decide +kernel
theorem dX12_cutOut_199 : decode cX12_cutOut 199 = .ok (.goto 11, 3) := by decide +kernel
theorem dX12_cutOut_202 : decode cX12_cutOut 202 = .ok (.lconst 1, 1) := by decide +kernel
theorem dX12_cutOut_203 : decode cX12_cutOut 203 = .ok (.lload 4, 2) := by decide +kernel
theorem dX12_cutOut_205 : decode cX12_cutOut 205 = .ok (.ldc2_w 35, 3) := by decide +kernel
theorem dX12_cutOut_208 : decode cX12_cutOut 208 = .ok (.ldiv, 1) := by decide +kernel
theorem dX12_cutOut_209 : decode cX12_cutOut 209 = .ok (.lsub, 1) := by decide +kernel
theorem dX12_cutOut_210 : decode cX12_cutOut 210 = .ok (.lreturn, 1) := by decide +kernel
set_option maxHeartbeats 4000000 in
set_option maxRecDepth 100000 in
theorem cn_X12_cutOut {l : Launch} {cA : Nat → ClassId} {ad : Nat → Nat} {D : va_G} {E : Nat → Nat} {A : Nat → Prop} {x1 : Int32} {x2 : Int32} {s0 sr : SS} {rr : Int64} (hf : f_X12_cutOut x1 x2 s0 = some (rr, sr)) : zCon Om Nm cA ad D E l yX12_cutOut cX12_cutOut 6 (some .long) 7 A [.ref (ad 0), .int x1, .int x2] s0 (some (.long rr)) sr := by
  refine zstart (own := RX12) hOm (by decide) rfl (Nat.le_of_ble_eq_true rfl) ?_
  intro p e s m args below meth c X hP ls hl
  have hx := X.1
  have hb := X.2.1
  have hl : lv_has ls 6 [(0, .ref (ad 0)), (1, .int x1), (2, .int x2)] := hl
  have hS : va_S A s.heap s.heap [] := va_S.rf
  have hc_58 : ∀ (n58 : Nat) (x1 : Int32) (x2 : Int32) (x3 : Int32) (s1 : SS) (H : Heap) (locs : List Loc) (ls : Array Slot), lv_has ls 6 [(0, .ref (ad 0)), (1, .int x1), (2, .int x2), (3, .int x3)] → va_P D ZCL (zw Om Nm cA ad s1) H → va_S A s.heap H locs → f_X12_cutOut_c58 n58 x1 x2 x3 s1 = some (rr, sr) → W p l e (zrm 7) s m args below meth c H locs 0 0 (MQ below (zQc Om Nm cA ad D A (some (.long rr)) sr) args s 0 0 A) (F0 m 58 ls []) := by
    intro n58
    induction n58 with
    | zero =>
      intro x1 x2 x3 s1 H locs ls hl hP hS hf
      rw [f_X12_cutOut_c58] at hf
      cases hf
    | succ n58 ih58 =>
      have hc_184 : ∀ (x1 : Int32) (x2 : Int32) (x3 : Int32) (s1 : SS) (H : Heap) (locs : List Loc) (ls : Array Slot), lv_has ls 6 [(0, .ref (ad 0)), (1, .int x1), (2, .int x2), (3, .int x3)] → va_P D ZCL (zw Om Nm cA ad s1) H → va_S A s.heap H locs → f_X12_cutOut_c184 x1 x2 x3 s1 = some (rr, sr) → W p l e (zrm 7) s m args below meth c H locs 0 0 (MQ below (zQc Om Nm cA ad D A (some (.long rr)) sr) args s 0 0 A) (F0 m 184 ls []) := by
        intro x1 x2 x3 s1 H locs ls hl hP hS hf
        rw [f_X12_cutOut_c184] at hf
        refine lv_aload_n hx hb dX12_cutOut_184 rfl (lv_at hl 0 rfl) ?_
        refine lv_iload_n hx hb dX12_cutOut_185 rfl (lv_at hl 1 rfl) ?_
        refine lv_iload_n hx hb dX12_cutOut_186 rfl (lv_at hl 3 rfl) ?_
        obtain ⟨r16, s17, h18, hf⟩ := zbd_some hf
        refine zcallV X hP hS hl.1 (k := 0) (As := [.int x1, .int x3]) (rest := []) (cn_X12_eulerOf h18) cw_X12_eulerOf zp_12 rfl (by decide) rfl ml_X12_314 (by decide) rfl rfl (Nat.le_of_ble_eq_true rfl) dX12_cutOut_187 (fun H locs hP hS => ?_)
        refine lv_lstore (lv' := [(4, .long r16), (0, .ref (ad 0)), (1, .int x1), (2, .int x2), (3, .int x3)]) hx hb dX12_cutOut_190 hl (by decide) rfl (fun ls hl => ?_)
        refine lv_iload_n hx hb dX12_cutOut_192 rfl (lv_at hl 3 rfl) ?_
        refine lv_iconst (v := 2) hx hb dX12_cutOut_193 (by decide) ?_
        refine zicmp_ne (tgt := 202) hx hb dX12_cutOut_194 (by decide) hf (fun hf => ?_) (fun hf => ?_)
        · refine lv_lconst (v := 1) hx hb dX12_cutOut_202 (by decide) ?_
          refine lv_lload hx hb dX12_cutOut_203 (lv_at hl 0 rfl) ?_
          refine zldc2 X co_X12_35 dX12_cutOut_205 ?_
          refine lv_ldiv hx hb dX12_cutOut_208 (by decide) ?_
          refine lv_lsub hx hb dX12_cutOut_209 ?_
          exact zret_l X hP hS hf dX12_cutOut_210
        · refine lv_lload hx hb dX12_cutOut_197 (lv_at hl 0 rfl) ?_
          refine lv_goto (tgt := 210) hx hb dX12_cutOut_199 (by decide) ?_
          exact zret_l X hP hS hf dX12_cutOut_210
      have hc_137 : ∀ (n137 : Nat) (x3 : Int32) (x4 : Int32) (s1 : SS) (H : Heap) (locs : List Loc) (ls : Array Slot), lv_has ls 6 [(0, .ref (ad 0)), (3, .int x3), (4, .int x4)] → va_P D ZCL (zw Om Nm cA ad s1) H → va_S A s.heap H locs → f_X12_cutOut_c137 n137 x3 x4 s1 = some (rr, sr) → W p l e (zrm 7) s m args below meth c H locs 0 0 (MQ below (zQc Om Nm cA ad D A (some (.long rr)) sr) args s 0 0 A) (F0 m 137 ls []) := by
        intro n137
        induction n137 with
        | zero =>
          intro x3 x4 s1 H locs ls hl hP hS hf
          rw [f_X12_cutOut_c137] at hf
          cases hf
        | succ n137 ih137 =>
          intro x3 x4 s1 H locs ls hl hP hS hf
          rw [f_X12_cutOut_c137] at hf
          refine lv_iload hx hb dX12_cutOut_137 (lv_at hl 2 rfl) ?_
          refine lv_iload_n hx hb dX12_cutOut_139 rfl (lv_at hl 1 rfl) ?_
          refine zicmp_ge (tgt := 161) hx hb dX12_cutOut_140 (by decide) hf (fun hf => ?_) (fun hf => ?_)
          · refine lv_aload_n hx hb dX12_cutOut_161 rfl (lv_at hl 0 rfl) ?_
            refine lv_aload_n hx hb dX12_cutOut_162 rfl (lv_at hl 0 rfl) ?_
            refine gf_X12_111 X hP (k := 0) (q := 13) rfl dX12_cutOut_163 rfl ?_
            obtain ⟨r25, s26, h27, hf⟩ := zbd_some hf
            refine zcallV X hP hS hl.1 (k := 0) (As := [.ref (ad 13)]) (rest := []) (cn_X12_metOf h27) cw_X12_metOf zp_12 rfl (by decide) rfl ml_X12_268 (by decide) rfl rfl (Nat.le_of_ble_eq_true rfl) dX12_cutOut_166 (fun H locs hP hS => ?_)
            exact zret_l X hP hS hf dX12_cutOut_169
          · refine lv_aload_n hx hb dX12_cutOut_143 rfl (lv_at hl 0 rfl) ?_
            refine lv_aload_n hx hb dX12_cutOut_144 rfl (lv_at hl 0 rfl) ?_
            refine gf_X12_111 X hP (k := 0) (q := 13) rfl dX12_cutOut_145 rfl ?_
            refine lv_aload_n hx hb dX12_cutOut_148 rfl (lv_at hl 0 rfl) ?_
            refine gf_X12_114 X hP (k := 0) (q := 14) rfl dX12_cutOut_149 rfl ?_
            obtain ⟨r28, s29, h30, hf⟩ := zbd_some hf
            refine zcallV X hP hS hl.1 (k := 0) (As := [.ref (ad 13), .ref (ad 14)]) (rest := []) (cn_X12_multiply h30) cw_X12_multiply zp_12 rfl (by decide) rfl ml_X12_272 (by decide) rfl rfl (Nat.le_of_ble_eq_true rfl) dX12_cutOut_152 (fun H locs hP hS => ?_)
            refine lv_iinc (v := (x4 + 1)) (lv' := [(4, .int (x4 + 1)), (0, .ref (ad 0)), (3, .int x3)]) hx hb dX12_cutOut_155 hl (k := 2) rfl rfl (by decide) rfl (fun ls hl => ?_)
            refine lv_goto (tgt := 137) hx hb dX12_cutOut_158 (by decide) ?_
            exact ih137 x3 (x4 + 1) s29 _ _ _ (lv_sub hl [1, 2, 0] rfl) hP hS hf
      intro x1 x2 x3 s1 H locs ls hl hP hS hf
      rw [f_X12_cutOut_c58] at hf
      refine lv_iload_n hx hb dX12_cutOut_58 rfl (lv_at hl 3 rfl) ?_
      refine lv_aload_n hx hb dX12_cutOut_59 rfl (lv_at hl 0 rfl) ?_
      refine gf_X12_141 X hP (k := 0) (q := 23) rfl dX12_cutOut_60 rfl ?_
      refine lv_iload_n hx hb dX12_cutOut_63 rfl (lv_at hl 1 rfl) ?_
      obtain ⟨g14, hf⟩ := zgd hf
      refine zald_i X hP (k := 23) (n := 3) (rs := []) rfl g14 dX12_cutOut_64 ?_
      refine zicmp_ge (tgt := 97) hx hb dX12_cutOut_65 (by decide) hf (fun hf => ?_) (fun hf => ?_)
      · refine lv_aload_n hx hb dX12_cutOut_97 rfl (lv_at hl 0 rfl) ?_
        refine gf_X12_27 X hP (k := 0) rfl dX12_cutOut_98 ?_
        refine lv_aload_n hx hb dX12_cutOut_101 rfl (lv_at hl 0 rfl) ?_
        refine gf_X12_141 X hP (k := 0) (q := 23) rfl dX12_cutOut_102 rfl ?_
        refine lv_iload_n hx hb dX12_cutOut_105 rfl (lv_at hl 1 rfl) ?_
        obtain ⟨g15, hf⟩ := zgd hf
        refine zald_i X hP (k := 23) (n := 3) (rs := []) rfl g15 dX12_cutOut_106 ?_
        refine lv_isub hx hb dX12_cutOut_107 ?_
        refine lv_istore_n (lv' := [(3, .int ((s1.1 0 1) - (s1.1 23 (x1).toNatClampNeg))), (0, .ref (ad 0)), (1, .int x1), (2, .int x2)]) hx hb dX12_cutOut_108 rfl hl (by decide) rfl (fun ls hl => ?_)
        refine lv_iload_n hx hb dX12_cutOut_109 rfl (lv_at hl 3 rfl) ?_
        refine zif_ne (tgt := 116) hx hb dX12_cutOut_110 (by decide) hf (fun hf => ?_) (fun hf => ?_)
        · refine lv_iload_n hx hb dX12_cutOut_116 rfl (lv_at hl 3 rfl) ?_
          refine lv_iconst (v := 1) hx hb dX12_cutOut_117 (by decide) ?_
          refine zicmp_ne (tgt := 170) hx hb dX12_cutOut_118 (by decide) hf (fun hf => ?_) (fun hf => ?_)
          · refine lv_iload_n hx hb dX12_cutOut_170 rfl (lv_at hl 3 rfl) ?_
            refine lv_iconst (v := 3) hx hb dX12_cutOut_171 (by decide) ?_
            refine zicmp_ne (tgt := 184) hx hb dX12_cutOut_172 (by decide) hf (fun hf => ?_) (fun hf => ?_)
            · exact hc_184 x1 x2 ((s1.1 0 1) - (s1.1 23 (x1).toNatClampNeg)) s1 _ _ _ (lv_sub hl [1, 2, 3, 0] rfl) hP hS hf
            · refine lv_iload_n hx hb dX12_cutOut_175 rfl (lv_at hl 0 rfl) ?_
              refine lv_iconst (v := 1) hx hb dX12_cutOut_176 (by decide) ?_
              refine zicmp_eq (tgt := 184) hx hb dX12_cutOut_177 (by decide) hf (fun hf => ?_) (fun hf => ?_)
              · exact hc_184 x1 x2 ((s1.1 0 1) - (s1.1 23 (x1).toNatClampNeg)) s1 _ _ _ (lv_sub hl [1, 2, 3, 0] rfl) hP hS hf
              · refine zldc2 X co_X12_287 dX12_cutOut_180 ?_
                exact zret_l X hP hS hf dX12_cutOut_183
          · refine lv_aload_n hx hb dX12_cutOut_121 rfl (lv_at hl 1 rfl) ?_
            refine lv_iload_n hx hb dX12_cutOut_122 rfl (lv_at hl 2 rfl) ?_
            obtain ⟨r19, s20, h21, hf⟩ := zbd_some hf
            refine zcallV X hP hS hl.1 (k := 0) (As := [.int x1]) (rest := []) (cn_X12_layAll h21) cw_X12_layAll zp_12 rfl (by decide) rfl ml_X12_289 (by decide) rfl rfl (Nat.le_of_ble_eq_true rfl) dX12_cutOut_123 (fun H locs hP hS => ?_)
            refine lv_aload_n hx hb dX12_cutOut_126 rfl (lv_at hl 1 rfl) ?_
            refine lv_aload_n hx hb dX12_cutOut_127 rfl (lv_at hl 1 rfl) ?_
            refine gf_X12_114 X hP (k := 0) (q := 14) rfl dX12_cutOut_128 rfl ?_
            obtain ⟨r22, s23, h24, hf⟩ := zbd_some hf
            refine zcallV X hP hS hl.1 (k := 0) (As := [.ref (ad 14)]) (rest := []) (cn_X12_layCanonical h24) cw_X12_layCanonical zp_12 rfl (by decide) rfl ml_X12_257 (by decide) rfl rfl (Nat.le_of_ble_eq_true rfl) dX12_cutOut_131 (fun H locs hP hS => ?_)
            refine lv_iconst (v := 0) hx hb dX12_cutOut_134 (by decide) ?_
            refine lv_istore (lv' := [(4, .int 0), (3, .int ((s1.1 0 1) - (s1.1 23 (x1).toNatClampNeg))), (0, .ref (ad 0)), (1, .int x1), (2, .int x2)]) hx hb dX12_cutOut_135 hl (by decide) rfl (fun ls hl => ?_)
            exact hc_137 ZF ((s1.1 0 1) - (s1.1 23 (x1).toNatClampNeg)) 0 s23 _ _ _ (lv_sub hl [2, 1, 0] rfl) hP hS hf
        · refine lv_iload_n hx hb dX12_cutOut_113 rfl (lv_at hl 0 rfl) ?_
          refine lv_i2l hx hb dX12_cutOut_114 rfl ?_
          exact zret_l X hP hS hf dX12_cutOut_115
      · refine lv_aload_n hx hb dX12_cutOut_68 rfl (lv_at hl 0 rfl) ?_
        refine lv_aload_n hx hb dX12_cutOut_69 rfl (lv_at hl 0 rfl) ?_
        refine gf_X12_144 X hP (k := 0) (q := 24) rfl dX12_cutOut_70 rfl ?_
        refine lv_bipush (v := 20) hx hb dX12_cutOut_73 (by decide) ?_
        refine lv_iload_n hx hb dX12_cutOut_75 rfl (lv_at hl 1 rfl) ?_
        refine lv_imul hx hb dX12_cutOut_76 ?_
        refine lv_iload_n hx hb dX12_cutOut_77 rfl (lv_at hl 3 rfl) ?_
        refine lv_iadd hx hb dX12_cutOut_78 ?_
        obtain ⟨g31, hf⟩ := zgd hf
        refine zald_l X hP (k := 24) (n := 60) (rs := []) rfl g31 dX12_cutOut_79 ?_
        refine lv_l2i hx hb dX12_cutOut_80 rfl ?_
        obtain ⟨r32, s33, h34, hf⟩ := zbd_some hf
        refine zcallV X hP hS hl.1 (k := 0) (As := [.int ((s1.2 24 ((((20 : Int32) * x1) + x3)).toNatClampNeg)).toInt32]) (rest := []) (cn_X12_isOfOne h34) cw_X12_isOfOne zp_12 rfl (by decide) rfl ml_X12_311 (by decide) rfl rfl (Nat.le_of_ble_eq_true rfl) dX12_cutOut_81 (fun H locs hP hS => ?_)
        refine zif_ne (tgt := 91) hx hb dX12_cutOut_84 (by decide) hf (fun hf => ?_) (fun hf => ?_)
        · refine lv_iinc (v := (x3 + 1)) (lv' := [(3, .int (x3 + 1)), (0, .ref (ad 0)), (1, .int x1), (2, .int x2)]) hx hb dX12_cutOut_91 hl (k := 3) rfl rfl (by decide) rfl (fun ls hl => ?_)
          refine lv_goto (tgt := 58) hx hb dX12_cutOut_94 (by decide) ?_
          exact ih58 x1 x2 (x3 + 1) s33 _ _ _ (lv_sub hl [1, 2, 3, 0] rfl) hP hS hf
        · refine zldc2 X co_X12_287 dX12_cutOut_87 ?_
          exact zret_l X hP hS hf dX12_cutOut_90
  rw [f_X12_cutOut] at hf
  refine lv_iload_n hx hb dX12_cutOut_0 rfl (lv_at hl 2 rfl) ?_
  refine lv_i2l hx hb dX12_cutOut_1 rfl ?_
  refine lv_lconst (v := 0) hx hb dX12_cutOut_2 (by decide) ?_
  refine zldc2 X co_X12_309 dX12_cutOut_3 ?_
  obtain ⟨r1, s2, h3, hf⟩ := zbd_some hf
  refine zcallS X hP hS hl.1 (As := [.long (x2).toInt64, .long 0, .long 3]) (rest := []) (cn_X12_in h3) cw_X12_in ml_X12_203 (by decide) rfl rfl (Nat.le_of_ble_eq_true rfl) dX12_cutOut_6 (fun H locs hP hS => ?_)
  refine zif_eq (tgt := 20) hx hb dX12_cutOut_9 (by decide) hf (fun hf => ?_) (fun hf => ?_)
  · refine zldc2 X co_X12_220 dX12_cutOut_20 ?_
    exact zret_l X hP hS hf dX12_cutOut_23
  · refine lv_aload_n hx hb dX12_cutOut_12 rfl (lv_at hl 0 rfl) ?_
    refine lv_iload_n hx hb dX12_cutOut_13 rfl (lv_at hl 1 rfl) ?_
    obtain ⟨r4, s5, h6, hf⟩ := zbd_some hf
    refine zcallV X hP hS hl.1 (k := 0) (As := [.int x1]) (rest := []) (cn_X12_isThere h6) cw_X12_isThere zp_12 rfl (by decide) rfl ml_X12_281 (by decide) rfl rfl (Nat.le_of_ble_eq_true rfl) dX12_cutOut_14 (fun H locs hP hS => ?_)
    refine zif_ne (tgt := 24) hx hb dX12_cutOut_17 (by decide) hf (fun hf => ?_) (fun hf => ?_)
    · refine lv_aload_n hx hb dX12_cutOut_24 rfl (lv_at hl 0 rfl) ?_
      obtain ⟨r7, s8, h9, hf⟩ := zbd_some hf
      refine zcallV X hP hS hl.1 (k := 0) (As := []) (rest := []) (cn_X12_isBare h9) cw_X12_isBare zp_12 rfl (by decide) rfl ml_X12_298 (by decide) rfl rfl (Nat.le_of_ble_eq_true rfl) dX12_cutOut_25 (fun H locs hP hS => ?_)
      refine zif_eq (tgt := 52) hx hb dX12_cutOut_28 (by decide) hf (fun hf => ?_) (fun hf => ?_)
      · refine zldc2 X co_X12_287 dX12_cutOut_52 ?_
        exact zret_l X hP hS hf dX12_cutOut_55
      · refine lv_aload_n hx hb dX12_cutOut_31 rfl (lv_at hl 0 rfl) ?_
        refine lv_iload_n hx hb dX12_cutOut_32 rfl (lv_at hl 1 rfl) ?_
        obtain ⟨r10, s11, h12, hf⟩ := zbd_some hf
        refine zcallV X hP hS hl.1 (k := 0) (As := [.int x1]) (rest := []) (cn_X12_areClasses h12) cw_X12_areClasses zp_12 rfl (by decide) rfl ml_X12_284 (by decide) rfl rfl (Nat.le_of_ble_eq_true rfl) dX12_cutOut_33 (fun H locs hP hS => ?_)
        refine zif_eq (tgt := 52) hx hb dX12_cutOut_36 (by decide) hf (fun hf => ?_) (fun hf => ?_)
        · refine zldc2 X co_X12_287 dX12_cutOut_52 ?_
          exact zret_l X hP hS hf dX12_cutOut_55
        · refine lv_aload_n hx hb dX12_cutOut_39 rfl (lv_at hl 0 rfl) ?_
          refine gf_X12_141 X hP (k := 0) (q := 23) rfl dX12_cutOut_40 rfl ?_
          refine lv_iload_n hx hb dX12_cutOut_43 rfl (lv_at hl 1 rfl) ?_
          obtain ⟨g13, hf⟩ := zgd hf
          refine zald_i X hP (k := 23) (n := 3) (rs := []) rfl g13 dX12_cutOut_44 ?_
          refine lv_aload_n hx hb dX12_cutOut_45 rfl (lv_at hl 0 rfl) ?_
          refine gf_X12_27 X hP (k := 0) rfl dX12_cutOut_46 ?_
          refine zicmp_le (tgt := 56) hx hb dX12_cutOut_49 (by decide) hf (fun hf => ?_) (fun hf => ?_)
          · refine lv_iconst (v := 0) hx hb dX12_cutOut_56 (by decide) ?_
            refine lv_istore_n (lv' := [(3, .int 0), (0, .ref (ad 0)), (1, .int x1), (2, .int x2)]) hx hb dX12_cutOut_57 rfl hl (by decide) rfl (fun ls hl => ?_)
            exact hc_58 ZF x1 x2 0 s11 _ _ _ (lv_sub hl [1, 2, 3, 0] rfl) hP hS hf
          · refine zldc2 X co_X12_287 dX12_cutOut_52 ?_
            exact zret_l X hP hS hf dX12_cutOut_55
    · refine zldc2 X co_X12_220 dX12_cutOut_20 ?_
      exact zret_l X hP hS hf dX12_cutOut_23
theorem dX12_timesConic_0 : decode cX12_timesConic 0 = .ok (.aload_n 0, 1) := by decide +kernel
theorem dX12_timesConic_1 : decode cX12_timesConic 1 = .ok (.aload_n 0, 1) := by decide +kernel
theorem dX12_timesConic_2 : decode cX12_timesConic 2 = .ok (.getfield 114, 3) := by decide +kernel
theorem dX12_timesConic_5 : decode cX12_timesConic 5 = .ok (.invokevirtual 237, 3) := by decide +kernel
theorem dX12_timesConic_8 : decode cX12_timesConic 8 = .ok (.aload_n 0, 1) := by decide +kernel
theorem dX12_timesConic_9 : decode cX12_timesConic 9 = .ok (.getfield 114, 3) := by decide +kernel
theorem dX12_timesConic_12 : decode cX12_timesConic 12 = .ok (.aload_n 0, 1) := by decide +kernel
theorem dX12_timesConic_13 : decode cX12_timesConic 13 = .ok (.getfield 65, 3) := by decide +kernel
theorem dX12_timesConic_16 : decode cX12_timesConic 16 = .ok (.iconst 1, 1) := by decide +kernel
theorem dX12_timesConic_17 : decode cX12_timesConic 17 = .ok (.iaload, 1) := by decide +kernel
theorem dX12_timesConic_18 : decode cX12_timesConic 18 = .ok (.lload_n 1, 1) := by decide +kernel
theorem dX12_timesConic_19 : decode cX12_timesConic 19 = .ok (.lastore, 1) := by decide +kernel
theorem dX12_timesConic_20 : decode cX12_timesConic 20 = .ok (.aload_n 0, 1) := by decide +kernel
theorem dX12_timesConic_21 : decode cX12_timesConic 21 = .ok (.getfield 114, 3) := by decide +kernel
theorem dX12_timesConic_24 : decode cX12_timesConic 24 = .ok (.aload_n 0, 1) := by decide +kernel
theorem dX12_timesConic_25 : decode cX12_timesConic 25 = .ok (.getfield 65, 3) := by decide +kernel
theorem dX12_timesConic_28 : decode cX12_timesConic 28 = .ok (.bipush 10, 2) := by decide +kernel
theorem dX12_timesConic_30 : decode cX12_timesConic 30 = .ok (.iaload, 1) := by decide +kernel
theorem dX12_timesConic_31 : decode cX12_timesConic 31 = .ok (.lload_n 3, 1) := by decide +kernel
theorem dX12_timesConic_32 : decode cX12_timesConic 32 = .ok (.lastore, 1) := by decide +kernel
theorem dX12_timesConic_33 : decode cX12_timesConic 33 = .ok (.aload_n 0, 1) := by decide +kernel
theorem dX12_timesConic_34 : decode cX12_timesConic 34 = .ok (.aload_n 0, 1) := by decide +kernel
theorem dX12_timesConic_35 : decode cX12_timesConic 35 = .ok (.getfield 111, 3) := by decide +kernel
theorem dX12_timesConic_38 : decode cX12_timesConic 38 = .ok (.aload_n 0, 1) := by decide +kernel
theorem dX12_timesConic_39 : decode cX12_timesConic 39 = .ok (.getfield 114, 3) := by decide +kernel
theorem dX12_timesConic_42 : decode cX12_timesConic 42 = .ok (.invokevirtual 272, 3) := by decide +kernel
theorem dX12_timesConic_45 : decode cX12_timesConic 45 = .ok (.return_, 1) := by decide +kernel
set_option maxHeartbeats 4000000 in
set_option maxRecDepth 100000 in
theorem cn_X12_timesConic {l : Launch} {cA : Nat → ClassId} {ad : Nat → Nat} {D : va_G} {E : Nat → Nat} {A : Nat → Prop} {x1 : Int64} {x3 : Int64} {s0 sr : SS} {rr : Unit} (hf : f_X12_timesConic x1 x3 s0 = some (rr, sr)) : zCon Om Nm cA ad D E l yX12_timesConic cX12_timesConic 5 none 2 A [.ref (ad 0), .long x1, .long x3] s0 none sr := by
  refine zstart (own := RX12) hOm (by decide) rfl (Nat.le_of_ble_eq_true rfl) ?_
  intro p e s m args below meth c X hP ls hl
  have hx := X.1
  have hb := X.2.1
  have hl : lv_has ls 5 [(0, .ref (ad 0)), (1, .long x1), (3, .long x3)] := hl
  have hS : va_S A s.heap s.heap [] := va_S.rf
  rw [f_X12_timesConic] at hf
  refine lv_aload_n hx hb dX12_timesConic_0 rfl (lv_at hl 0 rfl) ?_
  refine lv_aload_n hx hb dX12_timesConic_1 rfl (lv_at hl 0 rfl) ?_
  refine gf_X12_114 X hP (k := 0) (q := 14) rfl dX12_timesConic_2 rfl ?_
  obtain ⟨r1, s2, h3, hf⟩ := zbd_some hf
  refine zcallV X hP hS hl.1 (k := 0) (As := [.ref (ad 14)]) (rest := []) (cn_X12_empty h3) cw_X12_empty zp_12 rfl (by decide) rfl ml_X12_237 (by decide) rfl rfl (Nat.le_of_ble_eq_true rfl) dX12_timesConic_5 (fun H locs hP hS => ?_)
  refine lv_aload_n hx hb dX12_timesConic_8 rfl (lv_at hl 0 rfl) ?_
  refine gf_X12_114 X hP (k := 0) (q := 14) rfl dX12_timesConic_9 rfl ?_
  refine lv_aload_n hx hb dX12_timesConic_12 rfl (lv_at hl 0 rfl) ?_
  refine gf_X12_65 X hP (k := 0) (q := 7) rfl dX12_timesConic_13 rfl ?_
  refine lv_iconst (v := 1) hx hb dX12_timesConic_16 (by decide) ?_
  obtain ⟨g4, hf⟩ := zgd hf
  refine zald_i X hP (k := 7) (n := 600000) (rs := []) rfl g4 dX12_timesConic_17 ?_
  refine lv_lload_n hx hb dX12_timesConic_18 rfl (lv_at hl 1 rfl) ?_
  obtain ⟨g5, hf⟩ := zgd hf
  refine zast_l X hP hS (k := 14) (n := 462) (rs := []) rfl g5 dX12_timesConic_19 (fun H locs hP hS => ?_)
  refine lv_aload_n hx hb dX12_timesConic_20 rfl (lv_at hl 0 rfl) ?_
  refine gf_X12_114 X hP (k := 0) (q := 14) rfl dX12_timesConic_21 rfl ?_
  refine lv_aload_n hx hb dX12_timesConic_24 rfl (lv_at hl 0 rfl) ?_
  refine gf_X12_65 X hP (k := 0) (q := 7) rfl dX12_timesConic_25 rfl ?_
  refine lv_bipush (v := 10) hx hb dX12_timesConic_28 (by decide) ?_
  obtain ⟨g6, hf⟩ := zgd hf
  refine zald_i X hP (k := 7) (n := 600000) (rs := []) rfl g6 dX12_timesConic_30 ?_
  refine lv_lload_n hx hb dX12_timesConic_31 rfl (lv_at hl 2 rfl) ?_
  obtain ⟨g7, hf⟩ := zgd hf
  refine zast_l X hP hS (k := 14) (n := 462) (rs := []) rfl g7 dX12_timesConic_32 (fun H locs hP hS => ?_)
  refine lv_aload_n hx hb dX12_timesConic_33 rfl (lv_at hl 0 rfl) ?_
  refine lv_aload_n hx hb dX12_timesConic_34 rfl (lv_at hl 0 rfl) ?_
  refine gf_X12_111 X hP (k := 0) (q := 13) rfl dX12_timesConic_35 rfl ?_
  refine lv_aload_n hx hb dX12_timesConic_38 rfl (lv_at hl 0 rfl) ?_
  refine gf_X12_114 X hP (k := 0) (q := 14) rfl dX12_timesConic_39 rfl ?_
  obtain ⟨r8, s9, h10, hf⟩ := zbd_some hf
  refine zcallV X hP hS hl.1 (k := 0) (As := [.ref (ad 13), .ref (ad 14)]) (rest := []) (cn_X12_multiply h10) cw_X12_multiply zp_12 rfl (by decide) rfl ml_X12_272 (by decide) rfl rfl (Nat.le_of_ble_eq_true rfl) dX12_timesConic_42 (fun H locs hP hS => ?_)
  exact zret_v X hP hS hf dX12_timesConic_45
theorem dX12_through_0 : decode cX12_through 0 = .ok (.iload_n 1, 1) := by decide +kernel
theorem dX12_through_1 : decode cX12_through 1 = .ok (.i2l, 1) := by decide +kernel
theorem dX12_through_2 : decode cX12_through 2 = .ok (.lconst 0, 1) := by decide +kernel
theorem dX12_through_3 : decode cX12_through 3 = .ok (.ldc2_w 201, 3) := by decide +kernel
theorem dX12_through_6 : decode cX12_through 6 = .ok (.invokestatic 203, 3) := by decide +kernel
theorem dX12_through_9 : decode cX12_through 9 = .ok (.ifCond .eq 28, 3) := by decide +kernel
theorem dX12_through_12 : decode cX12_through 12 = .ok (.iload_n 2, 1) := by decide +kernel
theorem dX12_through_13 : decode cX12_through 13 = .ok (.i2l, 1) := by decide +kernel
theorem dX12_through_14 : decode cX12_through 14 = .ok (.lconst 0, 1) := by decide +kernel
theorem dX12_through_15 : decode cX12_through 15 = .ok (.ldc2_w 201, 3) := by decide +kernel
theorem dX12_through_18 : decode cX12_through 18 = .ok (.invokestatic 203, 3) := by decide +kernel
theorem dX12_through_21 : decode cX12_through 21 = .ok (.ifCond .eq 16, 3) := by decide +kernel
theorem dX12_through_24 : decode cX12_through 24 = .ok (.iload_n 3, 1) := by decide +kernel
theorem dX12_through_25 : decode cX12_through 25 = .ok (.iconst (-1), 1) := by decide +kernel
theorem dX12_through_26 : decode cX12_through 26 = .ok (.if_icmp .eq 15, 3) := by decide +kernel
theorem dX12_through_29 : decode cX12_through 29 = .ok (.aload_n 0, 1) := by decide +kernel
theorem dX12_through_30 : decode cX12_through 30 = .ok (.iload_n 3, 1) := by decide +kernel
theorem dX12_through_31 : decode cX12_through 31 = .ok (.invokevirtual 281, 3) := by decide +kernel
theorem dX12_through_34 : decode cX12_through 34 = .ok (.ifCond .ne 7, 3) := by decide +kernel
theorem dX12_through_37 : decode cX12_through 37 = .ok (.ldc2_w 220, 3) := by decide +kernel
theorem dX12_through_40 : decode cX12_through 40 = .ok (.lreturn, 1) := by decide +kernel
theorem dX12_through_41 : decode cX12_through 41 = .ok (.iload_n 3, 1) := by decide +kernel
theorem dX12_through_42 : decode cX12_through 42 = .ok (.iconst (-1), 1) := by decide +kernel
theorem dX12_through_43 : decode cX12_through 43 = .ok (.if_icmp .ne 7, 3) := by decide +kernel
theorem dX12_through_46 : decode cX12_through 46 = .ok (.iconst 0, 1) := by decide +kernel
theorem dX12_through_47 : decode cX12_through 47 = .ok (.goto 9, 3) := by decide +kernel
theorem dX12_through_50 : decode cX12_through 50 = .ok (.aload_n 0, 1) := by decide +kernel
theorem dX12_through_51 : decode cX12_through 51 = .ok (.getfield 141, 3) := by decide +kernel
theorem dX12_through_54 : decode cX12_through 54 = .ok (.iload_n 3, 1) := by decide +kernel
theorem dX12_through_55 : decode cX12_through 55 = .ok (.iaload, 1) := by decide +kernel
theorem dX12_through_56 : decode cX12_through 56 = .ok (.istore 4, 2) := by decide +kernel
theorem dX12_through_58 : decode cX12_through 58 = .ok (.aload_n 0, 1) := by decide +kernel
theorem dX12_through_59 : decode cX12_through 59 = .ok (.getfield 3, 3) := by decide +kernel
theorem dX12_through_62 : decode cX12_through 62 = .ok (.iconst 2, 1) := by decide +kernel
theorem dX12_through_63 : decode cX12_through 63 = .ok (.if_icmp .ne 22, 3) := by decide +kernel
theorem dX12_through_66 : decode cX12_through 66 = .ok (.iload 4, 2) := by decide +kernel
theorem dX12_through_68 : decode cX12_through 68 = .ok (.iconst 2, 1) := by decide +kernel
theorem dX12_through_69 : decode cX12_through 69 = .ok (.irem, 1) := by decide +kernel
theorem dX12_through_70 : decode cX12_through 70 = .ok (.ifCond .ne 15, 3) := by decide +kernel
theorem dX12_through_73 : decode cX12_through 73 = .ok (.iload_n 1, 1) := by decide +kernel
theorem dX12_through_74 : decode cX12_through 74 = .ok (.iload_n 2, 1) := by decide +kernel
theorem dX12_through_75 : decode cX12_through 75 = .ok (.iadd, 1) := by decide +kernel
theorem dX12_through_76 : decode cX12_through 76 = .ok (.iload 4, 2) := by decide +kernel
theorem dX12_through_78 : decode cX12_through 78 = .ok (.iconst 2, 1) := by decide +kernel
theorem dX12_through_79 : decode cX12_through 79 = .ok (.idiv, 1) := by decide +kernel
theorem dX12_through_80 : decode cX12_through 80 = .ok (.iadd, 1) := by decide +kernel
theorem dX12_through_81 : decode cX12_through 81 = .ok (.iconst 5, 1) := by decide +kernel
theorem dX12_through_82 : decode cX12_through 82 = .ok (.if_icmp .eq 7, 3) := by decide +kernel
theorem dX12_through_85 : decode cX12_through 85 = .ok (.ldc2_w 287, 3) := by decide +kernel
theorem dX12_through_88 : decode cX12_through 88 = .ok (.lreturn, 1) := by decide +kernel
theorem dX12_through_89 : decode cX12_through 89 = .ok (.iconst 0, 1) := by decide +kernel
theorem dX12_through_90 : decode cX12_through 90 = .ok (.istore 5, 2) := by decide +kernel
theorem dX12_through_92 : decode cX12_through 92 = .ok (.iload 5, 2) := by decide +kernel
theorem dX12_through_94 : decode cX12_through 94 = .ok (.iload 4, 2) := by decide +kernel
theorem dX12_through_96 : decode cX12_through 96 = .ok (.if_icmp .ge 35, 3) := by decide +kernel
theorem dX12_through_99 : decode cX12_through 99 = .ok (.aload_n 0, 1) := by decide +kernel
theorem dX12_through_100 : decode cX12_through 100 = .ok (.getfield 144, 3) := by decide +kernel
theorem dX12_through_103 : decode cX12_through 103 = .ok (.bipush 20, 2) := by decide +kernel
theorem dX12_through_105 : decode cX12_through 105 = .ok (.iload_n 3, 1) := by decide +kernel
theorem dX12_through_106 : decode cX12_through 106 = .ok (.imul, 1) := by decide +kernel
theorem dX12_through_107 : decode cX12_through 107 = .ok (.iload 5, 2) := by decide +kernel
theorem dX12_through_109 : decode cX12_through 109 = .ok (.iadd, 1) := by decide +kernel
theorem dX12_through_110 : decode cX12_through 110 = .ok (.laload, 1) := by decide +kernel
theorem dX12_through_111 : decode cX12_through 111 = .ok (.lconst 0, 1) := by decide +kernel
theorem dX12_through_112 : decode cX12_through 112 = .ok (.ldc2_w 227, 3) := by decide +kernel
theorem dX12_through_115 : decode cX12_through 115 = .ok (.invokestatic 203, 3) := by decide +kernel
theorem dX12_through_118 : decode cX12_through 118 = .ok (.ifCond .ne 7, 3) := by decide +kernel
theorem dX12_through_121 : decode cX12_through 121 = .ok (.ldc2_w 287, 3) := by decide +kernel
theorem dX12_through_124 : decode cX12_through 124 = .ok (.lreturn, 1) := by decide +kernel
theorem dX12_through_125 : decode cX12_through 125 = .ok (.iinc 5 1, 3) := by decide +kernel
theorem dX12_through_128 : decode cX12_through 128 = .ok (.goto (-36), 3) := by decide +kernel
theorem dX12_through_131 : decode cX12_through 131 = .ok (.aload_n 0, 1) := by decide +kernel
theorem dX12_through_132 : decode cX12_through 132 = .ok (.aload_n 0, 1) := by decide +kernel
theorem dX12_through_133 : decode cX12_through 133 = .ok (.getfield 111, 3) := by decide +kernel
theorem dX12_through_136 : decode cX12_through 136 = .ok (.invokevirtual 278, 3) := by decide +kernel
theorem dX12_through_139 : decode cX12_through 139 = .ok (.iconst 0, 1) := by decide +kernel
theorem dX12_through_140 : decode cX12_through 140 = .ok (.istore 5, 2) := by decide +kernel
theorem dX12_through_142 : decode cX12_through 142 = .ok (.iload 5, 2) := by decide +kernel
theorem dX12_through_144 : decode cX12_through 144 = .ok (.iload_n 1, 1) := by decide +kernel
theorem dX12_through_145 : decode cX12_through 145 = .ok (.if_icmp .ge 15, 3) := by decide +kernel
theorem dX12_through_148 : decode cX12_through 148 = .ok (.aload_n 0, 1) := by decide +kernel
theorem dX12_through_149 : decode cX12_through 149 = .ok (.lconst 1, 1) := by decide +kernel
theorem dX12_through_150 : decode cX12_through 150 = .ok (.lconst 0, 1) := by decide +kernel
theorem dX12_through_151 : decode cX12_through 151 = .ok (.invokevirtual 317, 3) := by decide +kernel
theorem dX12_through_154 : decode cX12_through 154 = .ok (.iinc 5 1, 3) := by decide +kernel
theorem dX12_through_157 : decode cX12_through 157 = .ok (.goto (-15), 3) := by decide +kernel
theorem dX12_through_160 : decode cX12_through 160 = .ok (.iconst 0, 1) := by decide +kernel
theorem dX12_through_161 : decode cX12_through 161 = .ok (.istore 5, 2) := by decide +kernel
theorem dX12_through_163 : decode cX12_through 163 = .ok (.iload 5, 2) := by decide +kernel
theorem dX12_through_165 : decode cX12_through 165 = .ok (.iload_n 2, 1) := by decide +kernel
theorem dX12_through_166 : decode cX12_through 166 = .ok (.if_icmp .ge 19, 3) := by decide +kernel
theorem dX12_through_169 : decode cX12_through 169 = .ok (.aload_n 0, 1) := by decide +kernel
theorem dX12_through_170 : decode cX12_through 170 = .ok (.ldc2_w 35, 3) := by decide +kernel
theorem dX12_through_173 : decode cX12_through 173 = .ok (.ldc2_w 30, 3) := by decide +kernel
theorem dX12_through_176 : decode cX12_through 176 = .ok (.invokevirtual 317, 3) := by decide +kernel
theorem dX12_through_179 : decode cX12_through 179 = .ok (.iinc 5 1, 3) := by decide +kernel
theorem dX12_through_182 : decode cX12_through 182 = .ok (.goto (-19), 3) := by decide +kernel
theorem dX12_through_185 : decode cX12_through 185 = .ok (.iconst 0, 1) := by decide +kernel
theorem dX12_through_186 : decode cX12_through 186 = .ok (.istore 5, 2) := by decide +kernel
theorem dX12_through_188 : decode cX12_through 188 = .ok (.iload 5, 2) := by decide +kernel
theorem dX12_through_190 : decode cX12_through 190 = .ok (.iload 4, 2) := by decide +kernel
theorem dX12_through_192 : decode cX12_through 192 = .ok (.if_icmp .ge 51, 3) := by decide +kernel
theorem dX12_through_195 : decode cX12_through 195 = .ok (.aload_n 0, 1) := by decide +kernel
theorem dX12_through_196 : decode cX12_through 196 = .ok (.getfield 144, 3) := by decide +kernel
theorem dX12_through_199 : decode cX12_through 199 = .ok (.bipush 20, 2) := by decide +kernel
theorem dX12_through_201 : decode cX12_through 201 = .ok (.iload_n 3, 1) := by decide +kernel
theorem dX12_through_202 : decode cX12_through 202 = .ok (.imul, 1) := by decide +kernel
theorem dX12_through_203 : decode cX12_through 203 = .ok (.iload 5, 2) := by decide +kernel
theorem dX12_through_205 : decode cX12_through 205 = .ok (.iadd, 1) := by decide +kernel
theorem dX12_through_206 : decode cX12_through 206 = .ok (.laload, 1) := by decide +kernel
theorem dX12_through_207 : decode cX12_through 207 = .ok (.lstore 6, 2) := by decide +kernel
theorem dX12_through_209 : decode cX12_through 209 = .ok (.aload_n 0, 1) := by decide +kernel
theorem dX12_through_210 : decode cX12_through 210 = .ok (.aload_n 0, 1) := by decide +kernel
theorem dX12_through_211 : decode cX12_through 211 = .ok (.getfield 144, 3) := by decide +kernel
theorem dX12_through_214 : decode cX12_through 214 = .ok (.bipush 20, 2) := by decide +kernel
theorem dX12_through_216 : decode cX12_through 216 = .ok (.iload_n 3, 1) := by decide +kernel
theorem dX12_through_217 : decode cX12_through 217 = .ok (.imul, 1) := by decide +kernel
theorem dX12_through_218 : decode cX12_through 218 = .ok (.iload 5, 2) := by decide +kernel
theorem dX12_through_220 : decode cX12_through 220 = .ok (.iadd, 1) := by decide +kernel
theorem dX12_through_221 : decode cX12_through 221 = .ok (.iconst 1, 1) := by decide +kernel
theorem dX12_through_222 : decode cX12_through 222 = .ok (.iadd, 1) := by decide +kernel
theorem dX12_through_223 : decode cX12_through 223 = .ok (.laload, 1) := by decide +kernel
theorem dX12_through_224 : decode cX12_through 224 = .ok (.ldc2_w 35, 3) := by decide +kernel
theorem dX12_through_227 : decode cX12_through 227 = .ok (.lload 6, 2) := by decide +kernel
theorem dX12_through_229 : decode cX12_through 229 = .ok (.lmul, 1) := by decide +kernel
theorem dX12_through_230 : decode cX12_through 230 = .ok (.ladd, 1) := by decide +kernel
theorem dX12_through_231 : decode cX12_through 231 = .ok (.lload 6, 2) := by decide +kernel
theorem dX12_through_233 : decode cX12_through 233 = .ok (.lneg, 1) := by decide +kernel
theorem dX12_through_234 : decode cX12_through 234 = .ok (.invokevirtual 317, 3) := by decide +kernel
theorem dX12_through_237 : decode cX12_through 237 = .ok (.iinc 5 2, 3) := by decide +kernel
theorem dX12_through_240 : decode cX12_through 240 = .ok (.goto (-52), 3) := by decide +kernel
theorem dX12_through_243 : decode cX12_through 243 = .ok (.aload_n 0, 1) := by decide +kernel
theorem dX12_through_244 : decode cX12_through 244 = .ok (.aload_n 0, 1) := by decide +kernel
theorem dX12_through_245 : decode cX12_through 245 = .ok (.getfield 111, 3) := by decide +kernel
theorem dX12_through_248 : decode cX12_through 248 = .ok (.invokevirtual 268, 3) := by decide +kernel
theorem dX12_through_251 : decode cX12_through 251 = .ok (.lreturn, 1) := by decide +kernel
set_option maxHeartbeats 4000000 in
set_option maxRecDepth 100000 in
theorem cn_X12_through {l : Launch} {cA : Nat → ClassId} {ad : Nat → Nat} {D : va_G} {E : Nat → Nat} {A : Nat → Prop} {x1 : Int32} {x2 : Int32} {x3 : Int32} {s0 sr : SS} {rr : Int64} (hf : f_X12_through x1 x2 x3 s0 = some (rr, sr)) : zCon Om Nm cA ad D E l yX12_through cX12_through 8 (some .long) 3 A [.ref (ad 0), .int x1, .int x2, .int x3] s0 (some (.long rr)) sr := by
  refine zstart (own := RX12) hOm (by decide) rfl (Nat.le_of_ble_eq_true rfl) ?_
  intro p e s m args below meth c X hP ls hl
  have hx := X.1
  have hb := X.2.1
  have hl : lv_has ls 8 [(0, .ref (ad 0)), (1, .int x1), (2, .int x2), (3, .int x3)] := hl
  have hS : va_S A s.heap s.heap [] := va_S.rf
  have hc_92 : ∀ (n92 : Nat) (x1 : Int32) (x2 : Int32) (x3 : Int32) (x4 : Int32) (x5 : Int32) (s1 : SS) (H : Heap) (locs : List Loc) (ls : Array Slot), lv_has ls 8 [(0, .ref (ad 0)), (1, .int x1), (2, .int x2), (3, .int x3), (4, .int x4), (5, .int x5)] → va_P D ZCL (zw Om Nm cA ad s1) H → va_S A s.heap H locs → f_X12_through_c92 n92 x1 x2 x3 x4 x5 s1 = some (rr, sr) → W p l e (zrm 3) s m args below meth c H locs 0 0 (MQ below (zQc Om Nm cA ad D A (some (.long rr)) sr) args s 0 0 A) (F0 m 92 ls []) := by
    intro n92
    induction n92 with
    | zero =>
      intro x1 x2 x3 x4 x5 s1 H locs ls hl hP hS hf
      rw [f_X12_through_c92] at hf
      cases hf
    | succ n92 ih92 =>
      have hc_142 : ∀ (n142 : Nat) (x1 : Int32) (x2 : Int32) (x3 : Int32) (x4 : Int32) (x5 : Int32) (s1 : SS) (H : Heap) (locs : List Loc) (ls : Array Slot), lv_has ls 8 [(0, .ref (ad 0)), (1, .int x1), (2, .int x2), (3, .int x3), (4, .int x4), (5, .int x5)] → va_P D ZCL (zw Om Nm cA ad s1) H → va_S A s.heap H locs → f_X12_through_c142 n142 x1 x2 x3 x4 x5 s1 = some (rr, sr) → W p l e (zrm 3) s m args below meth c H locs 0 0 (MQ below (zQc Om Nm cA ad D A (some (.long rr)) sr) args s 0 0 A) (F0 m 142 ls []) := by
        intro n142
        induction n142 with
        | zero =>
          intro x1 x2 x3 x4 x5 s1 H locs ls hl hP hS hf
          rw [f_X12_through_c142] at hf
          cases hf
        | succ n142 ih142 =>
          have hc_163 : ∀ (n163 : Nat) (x2 : Int32) (x3 : Int32) (x4 : Int32) (x5 : Int32) (s1 : SS) (H : Heap) (locs : List Loc) (ls : Array Slot), lv_has ls 8 [(0, .ref (ad 0)), (2, .int x2), (3, .int x3), (4, .int x4), (5, .int x5)] → va_P D ZCL (zw Om Nm cA ad s1) H → va_S A s.heap H locs → f_X12_through_c163 n163 x2 x3 x4 x5 s1 = some (rr, sr) → W p l e (zrm 3) s m args below meth c H locs 0 0 (MQ below (zQc Om Nm cA ad D A (some (.long rr)) sr) args s 0 0 A) (F0 m 163 ls []) := by
            intro n163
            induction n163 with
            | zero =>
              intro x2 x3 x4 x5 s1 H locs ls hl hP hS hf
              rw [f_X12_through_c163] at hf
              cases hf
            | succ n163 ih163 =>
              have hc_188 : ∀ (n188 : Nat) (x3 : Int32) (x4 : Int32) (x5 : Int32) (s1 : SS) (H : Heap) (locs : List Loc) (ls : Array Slot), lv_has ls 8 [(0, .ref (ad 0)), (3, .int x3), (4, .int x4), (5, .int x5)] → va_P D ZCL (zw Om Nm cA ad s1) H → va_S A s.heap H locs → f_X12_through_c188 n188 x3 x4 x5 s1 = some (rr, sr) → W p l e (zrm 3) s m args below meth c H locs 0 0 (MQ below (zQc Om Nm cA ad D A (some (.long rr)) sr) args s 0 0 A) (F0 m 188 ls []) := by
                intro n188
                induction n188 with
                | zero =>
                  intro x3 x4 x5 s1 H locs ls hl hP hS hf
                  rw [f_X12_through_c188] at hf
                  cases hf
                | succ n188 ih188 =>
                  intro x3 x4 x5 s1 H locs ls hl hP hS hf
                  rw [f_X12_through_c188] at hf
                  refine lv_iload hx hb dX12_through_188 (lv_at hl 3 rfl) ?_
                  refine lv_iload hx hb dX12_through_190 (lv_at hl 2 rfl) ?_
                  refine zicmp_ge (tgt := 243) hx hb dX12_through_192 (by decide) hf (fun hf => ?_) (fun hf => ?_)
                  · refine lv_aload_n hx hb dX12_through_243 rfl (lv_at hl 0 rfl) ?_
                    refine lv_aload_n hx hb dX12_through_244 rfl (lv_at hl 0 rfl) ?_
                    refine gf_X12_111 X hP (k := 0) (q := 13) rfl dX12_through_245 rfl ?_
                    obtain ⟨r11, s12, h13, hf⟩ := zbd_some hf
                    refine zcallV X hP hS hl.1 (k := 0) (As := [.ref (ad 13)]) (rest := []) (cn_X12_metOf h13) cw_X12_metOf zp_12 rfl (by decide) rfl ml_X12_268 (by decide) rfl rfl (Nat.le_of_ble_eq_true rfl) dX12_through_248 (fun H locs hP hS => ?_)
                    exact zret_l X hP hS hf dX12_through_251
                  · refine lv_aload_n hx hb dX12_through_195 rfl (lv_at hl 0 rfl) ?_
                    refine gf_X12_144 X hP (k := 0) (q := 24) rfl dX12_through_196 rfl ?_
                    refine lv_bipush (v := 20) hx hb dX12_through_199 (by decide) ?_
                    refine lv_iload_n hx hb dX12_through_201 rfl (lv_at hl 1 rfl) ?_
                    refine lv_imul hx hb dX12_through_202 ?_
                    refine lv_iload hx hb dX12_through_203 (lv_at hl 3 rfl) ?_
                    refine lv_iadd hx hb dX12_through_205 ?_
                    obtain ⟨g14, hf⟩ := zgd hf
                    refine zald_l X hP (k := 24) (n := 60) (rs := []) rfl g14 dX12_through_206 ?_
                    refine lv_lstore (lv' := [(6, .long (s1.2 24 ((((20 : Int32) * x3) + x5)).toNatClampNeg)), (0, .ref (ad 0)), (3, .int x3), (4, .int x4), (5, .int x5)]) hx hb dX12_through_207 hl (by decide) rfl (fun ls hl => ?_)
                    refine lv_aload_n hx hb dX12_through_209 rfl (lv_at hl 1 rfl) ?_
                    refine lv_aload_n hx hb dX12_through_210 rfl (lv_at hl 1 rfl) ?_
                    refine gf_X12_144 X hP (k := 0) (q := 24) rfl dX12_through_211 rfl ?_
                    refine lv_bipush (v := 20) hx hb dX12_through_214 (by decide) ?_
                    refine lv_iload_n hx hb dX12_through_216 rfl (lv_at hl 2 rfl) ?_
                    refine lv_imul hx hb dX12_through_217 ?_
                    refine lv_iload hx hb dX12_through_218 (lv_at hl 4 rfl) ?_
                    refine lv_iadd hx hb dX12_through_220 ?_
                    refine lv_iconst (v := 1) hx hb dX12_through_221 (by decide) ?_
                    refine lv_iadd hx hb dX12_through_222 ?_
                    obtain ⟨g15, hf⟩ := zgd hf
                    refine zald_l X hP (k := 24) (n := 60) (rs := []) rfl g15 dX12_through_223 ?_
                    refine zldc2 X co_X12_35 dX12_through_224 ?_
                    refine lv_lload hx hb dX12_through_227 (lv_at hl 0 rfl) ?_
                    refine lv_lmul hx hb dX12_through_229 ?_
                    refine lv_ladd hx hb dX12_through_230 ?_
                    refine lv_lload hx hb dX12_through_231 (lv_at hl 0 rfl) ?_
                    refine lv_lneg hx hb dX12_through_233 ?_
                    obtain ⟨r16, s17, h18, hf⟩ := zbd_some hf
                    refine zcallV X hP hS hl.1 (k := 0) (As := [.long ((s1.2 24 (((((20 : Int32) * x3) + x5) + (1 : Int32))).toNatClampNeg) + ((2 : Int64) * (s1.2 24 ((((20 : Int32) * x3) + x5)).toNatClampNeg))), .long (-(s1.2 24 ((((20 : Int32) * x3) + x5)).toNatClampNeg))]) (rest := []) (cn_X12_timesConic h18) cw_X12_timesConic zp_12 rfl (by decide) rfl ml_X12_317 (by decide) rfl rfl (Nat.le_of_ble_eq_true rfl) dX12_through_234 (fun H locs hP hS => ?_)
                    refine lv_iinc (v := (x5 + 2)) (lv' := [(5, .int (x5 + 2)), (6, .long (s1.2 24 ((((20 : Int32) * x3) + x5)).toNatClampNeg)), (0, .ref (ad 0)), (3, .int x3), (4, .int x4)]) hx hb dX12_through_237 hl (k := 4) rfl rfl (by decide) rfl (fun ls hl => ?_)
                    refine lv_goto (tgt := 188) hx hb dX12_through_240 (by decide) ?_
                    exact ih188 x3 x4 (x5 + 2) s17 _ _ _ (lv_sub hl [2, 3, 4, 0] rfl) hP hS hf
              intro x2 x3 x4 x5 s1 H locs ls hl hP hS hf
              rw [f_X12_through_c163] at hf
              refine lv_iload hx hb dX12_through_163 (lv_at hl 4 rfl) ?_
              refine lv_iload_n hx hb dX12_through_165 rfl (lv_at hl 1 rfl) ?_
              refine zicmp_ge (tgt := 185) hx hb dX12_through_166 (by decide) hf (fun hf => ?_) (fun hf => ?_)
              · refine lv_iconst (v := 0) hx hb dX12_through_185 (by decide) ?_
                refine lv_istore (lv' := [(5, .int 0), (0, .ref (ad 0)), (2, .int x2), (3, .int x3), (4, .int x4)]) hx hb dX12_through_186 hl (by decide) rfl (fun ls hl => ?_)
                exact hc_188 ZF x3 x4 0 s1 _ _ _ (lv_sub hl [1, 3, 4, 0] rfl) hP hS hf
              · refine lv_aload_n hx hb dX12_through_169 rfl (lv_at hl 0 rfl) ?_
                refine zldc2 X co_X12_35 dX12_through_170 ?_
                refine zldc2 X co_X12_30 dX12_through_173 ?_
                obtain ⟨r19, s20, h21, hf⟩ := zbd_some hf
                refine zcallV X hP hS hl.1 (k := 0) (As := [.long 2, .long (-1)]) (rest := []) (cn_X12_timesConic h21) cw_X12_timesConic zp_12 rfl (by decide) rfl ml_X12_317 (by decide) rfl rfl (Nat.le_of_ble_eq_true rfl) dX12_through_176 (fun H locs hP hS => ?_)
                refine lv_iinc (v := (x5 + 1)) (lv' := [(5, .int (x5 + 1)), (0, .ref (ad 0)), (2, .int x2), (3, .int x3), (4, .int x4)]) hx hb dX12_through_179 hl (k := 4) rfl rfl (by decide) rfl (fun ls hl => ?_)
                refine lv_goto (tgt := 163) hx hb dX12_through_182 (by decide) ?_
                exact ih163 x2 x3 x4 (x5 + 1) s20 _ _ _ (lv_sub hl [1, 2, 3, 4, 0] rfl) hP hS hf
          intro x1 x2 x3 x4 x5 s1 H locs ls hl hP hS hf
          rw [f_X12_through_c142] at hf
          refine lv_iload hx hb dX12_through_142 (lv_at hl 5 rfl) ?_
          refine lv_iload_n hx hb dX12_through_144 rfl (lv_at hl 1 rfl) ?_
          refine zicmp_ge (tgt := 160) hx hb dX12_through_145 (by decide) hf (fun hf => ?_) (fun hf => ?_)
          · refine lv_iconst (v := 0) hx hb dX12_through_160 (by decide) ?_
            refine lv_istore (lv' := [(5, .int 0), (0, .ref (ad 0)), (1, .int x1), (2, .int x2), (3, .int x3), (4, .int x4)]) hx hb dX12_through_161 hl (by decide) rfl (fun ls hl => ?_)
            exact hc_163 ZF x2 x3 x4 0 s1 _ _ _ (lv_sub hl [1, 3, 4, 5, 0] rfl) hP hS hf
          · refine lv_aload_n hx hb dX12_through_148 rfl (lv_at hl 0 rfl) ?_
            refine lv_lconst (v := 1) hx hb dX12_through_149 (by decide) ?_
            refine lv_lconst (v := 0) hx hb dX12_through_150 (by decide) ?_
            obtain ⟨r22, s23, h24, hf⟩ := zbd_some hf
            refine zcallV X hP hS hl.1 (k := 0) (As := [.long 1, .long 0]) (rest := []) (cn_X12_timesConic h24) cw_X12_timesConic zp_12 rfl (by decide) rfl ml_X12_317 (by decide) rfl rfl (Nat.le_of_ble_eq_true rfl) dX12_through_151 (fun H locs hP hS => ?_)
            refine lv_iinc (v := (x5 + 1)) (lv' := [(5, .int (x5 + 1)), (0, .ref (ad 0)), (1, .int x1), (2, .int x2), (3, .int x3), (4, .int x4)]) hx hb dX12_through_154 hl (k := 5) rfl rfl (by decide) rfl (fun ls hl => ?_)
            refine lv_goto (tgt := 142) hx hb dX12_through_157 (by decide) ?_
            exact ih142 x1 x2 x3 x4 (x5 + 1) s23 _ _ _ (lv_sub hl [1, 2, 3, 4, 5, 0] rfl) hP hS hf
      intro x1 x2 x3 x4 x5 s1 H locs ls hl hP hS hf
      rw [f_X12_through_c92] at hf
      refine lv_iload hx hb dX12_through_92 (lv_at hl 5 rfl) ?_
      refine lv_iload hx hb dX12_through_94 (lv_at hl 4 rfl) ?_
      refine zicmp_ge (tgt := 131) hx hb dX12_through_96 (by decide) hf (fun hf => ?_) (fun hf => ?_)
      · refine lv_aload_n hx hb dX12_through_131 rfl (lv_at hl 0 rfl) ?_
        refine lv_aload_n hx hb dX12_through_132 rfl (lv_at hl 0 rfl) ?_
        refine gf_X12_111 X hP (k := 0) (q := 13) rfl dX12_through_133 rfl ?_
        obtain ⟨r8, s9, h10, hf⟩ := zbd_some hf
        refine zcallV X hP hS hl.1 (k := 0) (As := [.ref (ad 13)]) (rest := []) (cn_X12_layOne h10) cw_X12_layOne zp_12 rfl (by decide) rfl ml_X12_278 (by decide) rfl rfl (Nat.le_of_ble_eq_true rfl) dX12_through_136 (fun H locs hP hS => ?_)
        refine lv_iconst (v := 0) hx hb dX12_through_139 (by decide) ?_
        refine lv_istore (lv' := [(5, .int 0), (0, .ref (ad 0)), (1, .int x1), (2, .int x2), (3, .int x3), (4, .int x4)]) hx hb dX12_through_140 hl (by decide) rfl (fun ls hl => ?_)
        exact hc_142 ZF x1 x2 x3 x4 0 s9 _ _ _ (lv_sub hl [1, 2, 3, 4, 5, 0] rfl) hP hS hf
      · refine lv_aload_n hx hb dX12_through_99 rfl (lv_at hl 0 rfl) ?_
        refine gf_X12_144 X hP (k := 0) (q := 24) rfl dX12_through_100 rfl ?_
        refine lv_bipush (v := 20) hx hb dX12_through_103 (by decide) ?_
        refine lv_iload_n hx hb dX12_through_105 rfl (lv_at hl 3 rfl) ?_
        refine lv_imul hx hb dX12_through_106 ?_
        refine lv_iload hx hb dX12_through_107 (lv_at hl 5 rfl) ?_
        refine lv_iadd hx hb dX12_through_109 ?_
        obtain ⟨g25, hf⟩ := zgd hf
        refine zald_l X hP (k := 24) (n := 60) (rs := []) rfl g25 dX12_through_110 ?_
        refine lv_lconst (v := 0) hx hb dX12_through_111 (by decide) ?_
        refine zldc2 X co_X12_227 dX12_through_112 ?_
        obtain ⟨r26, s27, h28, hf⟩ := zbd_some hf
        refine zcallS X hP hS hl.1 (As := [.long (s1.2 24 ((((20 : Int32) * x3) + x5)).toNatClampNeg), .long 0, .long 99]) (rest := []) (cn_X12_in h28) cw_X12_in ml_X12_203 (by decide) rfl rfl (Nat.le_of_ble_eq_true rfl) dX12_through_115 (fun H locs hP hS => ?_)
        refine zif_ne (tgt := 125) hx hb dX12_through_118 (by decide) hf (fun hf => ?_) (fun hf => ?_)
        · refine lv_iinc (v := (x5 + 1)) (lv' := [(5, .int (x5 + 1)), (0, .ref (ad 0)), (1, .int x1), (2, .int x2), (3, .int x3), (4, .int x4)]) hx hb dX12_through_125 hl (k := 5) rfl rfl (by decide) rfl (fun ls hl => ?_)
          refine lv_goto (tgt := 92) hx hb dX12_through_128 (by decide) ?_
          exact ih92 x1 x2 x3 x4 (x5 + 1) s27 _ _ _ (lv_sub hl [1, 2, 3, 4, 5, 0] rfl) hP hS hf
        · refine zldc2 X co_X12_287 dX12_through_121 ?_
          exact zret_l X hP hS hf dX12_through_124
  have hc_56 : ∀ (x1 : Int32) (x2 : Int32) (x3 : Int32) (t0 : Int32) (s1 : SS) (H : Heap) (locs : List Loc) (ls : Array Slot), lv_has ls 8 [(0, .ref (ad 0)), (1, .int x1), (2, .int x2), (3, .int x3)] → va_P D ZCL (zw Om Nm cA ad s1) H → va_S A s.heap H locs → f_X12_through_c56 x1 x2 x3 t0 s1 = some (rr, sr) → W p l e (zrm 3) s m args below meth c H locs 0 0 (MQ below (zQc Om Nm cA ad D A (some (.long rr)) sr) args s 0 0 A) (F0 m 56 ls [.int t0]) := by
    intro x1 x2 x3 t0 s1 H locs ls hl hP hS hf
    rw [f_X12_through_c56] at hf
    refine lv_istore (lv' := [(4, .int t0), (0, .ref (ad 0)), (1, .int x1), (2, .int x2), (3, .int x3)]) hx hb dX12_through_56 hl (by decide) rfl (fun ls hl => ?_)
    refine lv_aload_n hx hb dX12_through_58 rfl (lv_at hl 1 rfl) ?_
    refine gf_X12_3 X hP (k := 0) rfl dX12_through_59 ?_
    refine lv_iconst (v := 2) hx hb dX12_through_62 (by decide) ?_
    refine zicmp_ne (tgt := 85) hx hb dX12_through_63 (by decide) hf (fun hf => ?_) (fun hf => ?_)
    · refine zldc2 X co_X12_287 dX12_through_85 ?_
      exact zret_l X hP hS hf dX12_through_88
    · refine lv_iload hx hb dX12_through_66 (lv_at hl 0 rfl) ?_
      refine lv_iconst (v := 2) hx hb dX12_through_68 (by decide) ?_
      refine lv_irem hx hb dX12_through_69 (by decide) ?_
      refine zif_ne (tgt := 85) hx hb dX12_through_70 (by decide) hf (fun hf => ?_) (fun hf => ?_)
      · refine zldc2 X co_X12_287 dX12_through_85 ?_
        exact zret_l X hP hS hf dX12_through_88
      · refine lv_iload_n hx hb dX12_through_73 rfl (lv_at hl 2 rfl) ?_
        refine lv_iload_n hx hb dX12_through_74 rfl (lv_at hl 3 rfl) ?_
        refine lv_iadd hx hb dX12_through_75 ?_
        refine lv_iload hx hb dX12_through_76 (lv_at hl 0 rfl) ?_
        refine lv_iconst (v := 2) hx hb dX12_through_78 (by decide) ?_
        refine lv_idiv hx hb dX12_through_79 (by decide) ?_
        refine lv_iadd hx hb dX12_through_80 ?_
        refine lv_iconst (v := 5) hx hb dX12_through_81 (by decide) ?_
        refine zicmp_eq (tgt := 89) hx hb dX12_through_82 (by decide) hf (fun hf => ?_) (fun hf => ?_)
        · refine lv_iconst (v := 0) hx hb dX12_through_89 (by decide) ?_
          refine lv_istore (lv' := [(5, .int 0), (4, .int t0), (0, .ref (ad 0)), (1, .int x1), (2, .int x2), (3, .int x3)]) hx hb dX12_through_90 hl (by decide) rfl (fun ls hl => ?_)
          exact hc_92 ZF x1 x2 x3 t0 0 s1 _ _ _ (lv_sub hl [2, 3, 4, 5, 1, 0] rfl) hP hS hf
        · refine zldc2 X co_X12_287 dX12_through_85 ?_
          exact zret_l X hP hS hf dX12_through_88
  have hc_41 : ∀ (x1 : Int32) (x2 : Int32) (x3 : Int32) (s1 : SS) (H : Heap) (locs : List Loc) (ls : Array Slot), lv_has ls 8 [(0, .ref (ad 0)), (1, .int x1), (2, .int x2), (3, .int x3)] → va_P D ZCL (zw Om Nm cA ad s1) H → va_S A s.heap H locs → f_X12_through_c41 x1 x2 x3 s1 = some (rr, sr) → W p l e (zrm 3) s m args below meth c H locs 0 0 (MQ below (zQc Om Nm cA ad D A (some (.long rr)) sr) args s 0 0 A) (F0 m 41 ls []) := by
    intro x1 x2 x3 s1 H locs ls hl hP hS hf
    rw [f_X12_through_c41] at hf
    refine lv_iload_n hx hb dX12_through_41 rfl (lv_at hl 3 rfl) ?_
    refine lv_iconst (v := (-1)) hx hb dX12_through_42 (by decide) ?_
    refine zicmp_ne (tgt := 50) hx hb dX12_through_43 (by decide) hf (fun hf => ?_) (fun hf => ?_)
    · refine lv_aload_n hx hb dX12_through_50 rfl (lv_at hl 0 rfl) ?_
      refine gf_X12_141 X hP (k := 0) (q := 23) rfl dX12_through_51 rfl ?_
      refine lv_iload_n hx hb dX12_through_54 rfl (lv_at hl 3 rfl) ?_
      obtain ⟨g7, hf⟩ := zgd hf
      refine zald_i X hP (k := 23) (n := 3) (rs := []) rfl g7 dX12_through_55 ?_
      exact hc_56 x1 x2 x3 (s1.1 23 (x3).toNatClampNeg) s1 _ _ _ (lv_sub hl [0, 1, 2, 3] rfl) hP hS hf
    · refine lv_iconst (v := 0) hx hb dX12_through_46 (by decide) ?_
      refine lv_goto (tgt := 56) hx hb dX12_through_47 (by decide) ?_
      exact hc_56 x1 x2 x3 0 s1 _ _ _ (lv_sub hl [0, 1, 2, 3] rfl) hP hS hf
  rw [f_X12_through] at hf
  refine lv_iload_n hx hb dX12_through_0 rfl (lv_at hl 1 rfl) ?_
  refine lv_i2l hx hb dX12_through_1 rfl ?_
  refine lv_lconst (v := 0) hx hb dX12_through_2 (by decide) ?_
  refine zldc2 X co_X12_201 dX12_through_3 ?_
  obtain ⟨r1, s2, h3, hf⟩ := zbd_some hf
  refine zcallS X hP hS hl.1 (As := [.long (x1).toInt64, .long 0, .long 5]) (rest := []) (cn_X12_in h3) cw_X12_in ml_X12_203 (by decide) rfl rfl (Nat.le_of_ble_eq_true rfl) dX12_through_6 (fun H locs hP hS => ?_)
  refine zif_eq (tgt := 37) hx hb dX12_through_9 (by decide) hf (fun hf => ?_) (fun hf => ?_)
  · refine zldc2 X co_X12_220 dX12_through_37 ?_
    exact zret_l X hP hS hf dX12_through_40
  · refine lv_iload_n hx hb dX12_through_12 rfl (lv_at hl 2 rfl) ?_
    refine lv_i2l hx hb dX12_through_13 rfl ?_
    refine lv_lconst (v := 0) hx hb dX12_through_14 (by decide) ?_
    refine zldc2 X co_X12_201 dX12_through_15 ?_
    obtain ⟨r4, s5, h6, hf⟩ := zbd_some hf
    refine zcallS X hP hS hl.1 (As := [.long (x2).toInt64, .long 0, .long 5]) (rest := []) (cn_X12_in h6) cw_X12_in ml_X12_203 (by decide) rfl rfl (Nat.le_of_ble_eq_true rfl) dX12_through_18 (fun H locs hP hS => ?_)
    refine zif_eq (tgt := 37) hx hb dX12_through_21 (by decide) hf (fun hf => ?_) (fun hf => ?_)
    · refine zldc2 X co_X12_220 dX12_through_37 ?_
      exact zret_l X hP hS hf dX12_through_40
    · refine lv_iload_n hx hb dX12_through_24 rfl (lv_at hl 3 rfl) ?_
      refine lv_iconst (v := (-1)) hx hb dX12_through_25 (by decide) ?_
      refine zicmp_eq (tgt := 41) hx hb dX12_through_26 (by decide) hf (fun hf => ?_) (fun hf => ?_)
      · exact hc_41 x1 x2 x3 s5 _ _ _ (lv_sub hl [0, 1, 2, 3] rfl) hP hS hf
      · refine lv_aload_n hx hb dX12_through_29 rfl (lv_at hl 0 rfl) ?_
        refine lv_iload_n hx hb dX12_through_30 rfl (lv_at hl 3 rfl) ?_
        obtain ⟨r29, s30, h31, hf⟩ := zbd_some hf
        refine zcallV X hP hS hl.1 (k := 0) (As := [.int x3]) (rest := []) (cn_X12_isThere h31) cw_X12_isThere zp_12 rfl (by decide) rfl ml_X12_281 (by decide) rfl rfl (Nat.le_of_ble_eq_true rfl) dX12_through_31 (fun H locs hP hS => ?_)
        refine zif_ne (tgt := 41) hx hb dX12_through_34 (by decide) hf (fun hf => ?_) (fun hf => ?_)
        · exact hc_41 x1 x2 x3 s30 _ _ _ (lv_sub hl [0, 1, 2, 3] rfl) hP hS hf
        · refine zldc2 X co_X12_220 dX12_through_37 ?_
          exact zret_l X hP hS hf dX12_through_40
theorem dX12_fits_0 : decode cX12_fits 0 = .ok (.aload_n 0, 1) := by decide +kernel
theorem dX12_fits_1 : decode cX12_fits 1 = .ok (.iload_n 1, 1) := by decide +kernel
theorem dX12_fits_2 : decode cX12_fits 2 = .ok (.i2l, 1) := by decide +kernel
theorem dX12_fits_3 : decode cX12_fits 3 = .ok (.invokevirtual 245, 3) := by decide +kernel
theorem dX12_fits_6 : decode cX12_fits 6 = .ok (.ifCond .ne 5, 3) := by decide +kernel
theorem dX12_fits_9 : decode cX12_fits 9 = .ok (.iconst (-1), 1) := by decide +kernel
theorem dX12_fits_10 : decode cX12_fits 10 = .ok (.ireturn, 1) := by decide +kernel
theorem dX12_fits_11 : decode cX12_fits 11 = .ok (.aload_n 0, 1) := by decide +kernel
theorem dX12_fits_12 : decode cX12_fits 12 = .ok (.getfield 3, 3) := by decide +kernel
theorem dX12_fits_15 : decode cX12_fits 15 = .ok (.iconst 1, 1) := by decide +kernel
theorem dX12_fits_16 : decode cX12_fits 16 = .ok (.if_icmp .eq 6, 3) := by decide +kernel
theorem dX12_fits_19 : decode cX12_fits 19 = .ok (.bipush (-5), 2) := by decide +kernel
theorem dX12_fits_21 : decode cX12_fits 21 = .ok (.ireturn, 1) := by decide +kernel
theorem dX12_fits_22 : decode cX12_fits 22 = .ok (.iload_n 2, 1) := by decide +kernel
theorem dX12_fits_23 : decode cX12_fits 23 = .ok (.i2l, 1) := by decide +kernel
theorem dX12_fits_24 : decode cX12_fits 24 = .ok (.lconst 0, 1) := by decide +kernel
theorem dX12_fits_25 : decode cX12_fits 25 = .ok (.aload_n 0, 1) := by decide +kernel
theorem dX12_fits_26 : decode cX12_fits 26 = .ok (.getfield 12, 3) := by decide +kernel
theorem dX12_fits_29 : decode cX12_fits 29 = .ok (.iconst 1, 1) := by decide +kernel
theorem dX12_fits_30 : decode cX12_fits 30 = .ok (.isub, 1) := by decide +kernel
theorem dX12_fits_31 : decode cX12_fits 31 = .ok (.i2l, 1) := by decide +kernel
theorem dX12_fits_32 : decode cX12_fits 32 = .ok (.invokestatic 203, 3) := by decide +kernel
theorem dX12_fits_35 : decode cX12_fits 35 = .ok (.ifCond .eq 14, 3) := by decide +kernel
theorem dX12_fits_38 : decode cX12_fits 38 = .ok (.iload 5, 2) := by decide +kernel
theorem dX12_fits_40 : decode cX12_fits 40 = .ok (.i2l, 1) := by decide +kernel
theorem dX12_fits_41 : decode cX12_fits 41 = .ok (.lconst 0, 1) := by decide +kernel
theorem dX12_fits_42 : decode cX12_fits 42 = .ok (.lconst 1, 1) := by decide +kernel
theorem dX12_fits_43 : decode cX12_fits 43 = .ok (.invokestatic 203, 3) := by decide +kernel
theorem dX12_fits_46 : decode cX12_fits 46 = .ok (.ifCond .ne 5, 3) := by decide +kernel
theorem dX12_fits_49 : decode cX12_fits 49 = .ok (.iconst (-1), 1) := by decide +kernel
theorem dX12_fits_50 : decode cX12_fits 50 = .ok (.ireturn, 1) := by decide +kernel
theorem dX12_fits_51 : decode cX12_fits 51 = .ok (.aload_n 0, 1) := by decide +kernel
theorem dX12_fits_52 : decode cX12_fits 52 = .ok (.iload_n 1, 1) := by decide +kernel
theorem dX12_fits_53 : decode cX12_fits 53 = .ok (.aload_n 0, 1) := by decide +kernel
theorem dX12_fits_54 : decode cX12_fits 54 = .ok (.getfield 111, 3) := by decide +kernel
theorem dX12_fits_57 : decode cX12_fits 57 = .ok (.invokevirtual 264, 3) := by decide +kernel
theorem dX12_fits_60 : decode cX12_fits 60 = .ok (.aload_n 0, 1) := by decide +kernel
theorem dX12_fits_61 : decode cX12_fits 61 = .ok (.getfield 32, 3) := by decide +kernel
theorem dX12_fits_64 : decode cX12_fits 64 = .ok (.iload_n 2, 1) := by decide +kernel
theorem dX12_fits_65 : decode cX12_fits 65 = .ok (.iaload, 1) := by decide +kernel
theorem dX12_fits_66 : decode cX12_fits 66 = .ok (.istore 6, 2) := by decide +kernel
theorem dX12_fits_68 : decode cX12_fits 68 = .ok (.aload_n 0, 1) := by decide +kernel
theorem dX12_fits_69 : decode cX12_fits 69 = .ok (.getfield 37, 3) := by decide +kernel
theorem dX12_fits_72 : decode cX12_fits 72 = .ok (.iload_n 2, 1) := by decide +kernel
theorem dX12_fits_73 : decode cX12_fits 73 = .ok (.iaload, 1) := by decide +kernel
theorem dX12_fits_74 : decode cX12_fits 74 = .ok (.istore 7, 2) := by decide +kernel
theorem dX12_fits_76 : decode cX12_fits 76 = .ok (.iconst 0, 1) := by decide +kernel
theorem dX12_fits_77 : decode cX12_fits 77 = .ok (.istore 8, 2) := by decide +kernel
theorem dX12_fits_79 : decode cX12_fits 79 = .ok (.bipush (-2), 2) := by decide +kernel
theorem dX12_fits_81 : decode cX12_fits 81 = .ok (.istore 9, 2) := by decide +kernel
theorem dX12_fits_83 : decode cX12_fits 83 = .ok (.iconst 1, 1) := by decide +kernel
theorem dX12_fits_84 : decode cX12_fits 84 = .ok (.istore 10, 2) := by decide +kernel
theorem dX12_fits_86 : decode cX12_fits 86 = .ok (.iload 10, 2) := by decide +kernel
theorem dX12_fits_88 : decode cX12_fits 88 = .ok (.bipush 10, 2) := by decide +kernel
theorem dX12_fits_90 : decode cX12_fits 90 = .ok (.if_icmp .ge 116, 3) := by decide +kernel
theorem dX12_fits_93 : decode cX12_fits 93 = .ok (.iconst 0, 1) := by decide +kernel
theorem dX12_fits_94 : decode cX12_fits 94 = .ok (.istore 11, 2) := by decide +kernel
theorem dX12_fits_96 : decode cX12_fits 96 = .ok (.iload 11, 2) := by decide +kernel
theorem dX12_fits_98 : decode cX12_fits 98 = .ok (.bipush 10, 2) := by decide +kernel
theorem dX12_fits_100 : decode cX12_fits 100 = .ok (.if_icmp .ge 100, 3) := by decide +kernel
theorem dX12_fits_103 : decode cX12_fits 103 = .ok (.aload_n 0, 1) := by decide +kernel
theorem dX12_fits_104 : decode cX12_fits 104 = .ok (.getfield 32, 3) := by decide +kernel
theorem dX12_fits_107 : decode cX12_fits 107 = .ok (.iload_n 2, 1) := by decide +kernel
theorem dX12_fits_108 : decode cX12_fits 108 = .ok (.iload 10, 2) := by decide +kernel
theorem dX12_fits_110 : decode cX12_fits 110 = .ok (.iastore, 1) := by decide +kernel
theorem dX12_fits_111 : decode cX12_fits 111 = .ok (.aload_n 0, 1) := by decide +kernel
theorem dX12_fits_112 : decode cX12_fits 112 = .ok (.getfield 37, 3) := by decide +kernel
theorem dX12_fits_115 : decode cX12_fits 115 = .ok (.iload_n 2, 1) := by decide +kernel
theorem dX12_fits_116 : decode cX12_fits 116 = .ok (.iload 11, 2) := by decide +kernel
theorem dX12_fits_118 : decode cX12_fits 118 = .ok (.iastore, 1) := by decide +kernel
theorem dX12_fits_119 : decode cX12_fits 119 = .ok (.lconst 0, 1) := by decide +kernel
theorem dX12_fits_120 : decode cX12_fits 120 = .ok (.lstore 12, 2) := by decide +kernel
theorem dX12_fits_122 : decode cX12_fits 122 = .ok (.iconst 0, 1) := by decide +kernel
theorem dX12_fits_123 : decode cX12_fits 123 = .ok (.istore 14, 2) := by decide +kernel
theorem dX12_fits_125 : decode cX12_fits 125 = .ok (.iload 14, 2) := by decide +kernel
theorem dX12_fits_127 : decode cX12_fits 127 = .ok (.aload_n 0, 1) := by decide +kernel
theorem dX12_fits_128 : decode cX12_fits 128 = .ok (.getfield 56, 3) := by decide +kernel
theorem dX12_fits_131 : decode cX12_fits 131 = .ok (.if_icmp .ge 33, 3) := by decide +kernel
theorem dX12_fits_134 : decode cX12_fits 134 = .ok (.lload 12, 2) := by decide +kernel
theorem dX12_fits_136 : decode cX12_fits 136 = .ok (.aload_n 0, 1) := by decide +kernel
theorem dX12_fits_137 : decode cX12_fits 137 = .ok (.getfield 111, 3) := by decide +kernel
theorem dX12_fits_140 : decode cX12_fits 140 = .ok (.iload 14, 2) := by decide +kernel
theorem dX12_fits_142 : decode cX12_fits 142 = .ok (.laload, 1) := by decide +kernel
theorem dX12_fits_143 : decode cX12_fits 143 = .ok (.aload_n 0, 1) := by decide +kernel
theorem dX12_fits_144 : decode cX12_fits 144 = .ok (.aload_n 0, 1) := by decide +kernel
theorem dX12_fits_145 : decode cX12_fits 145 = .ok (.getfield 62, 3) := by decide +kernel
theorem dX12_fits_148 : decode cX12_fits 148 = .ok (.iload 14, 2) := by decide +kernel
theorem dX12_fits_150 : decode cX12_fits 150 = .ok (.iaload, 1) := by decide +kernel
theorem dX12_fits_151 : decode cX12_fits 151 = .ok (.invokevirtual 82, 3) := by decide +kernel
theorem dX12_fits_154 : decode cX12_fits 154 = .ok (.lmul, 1) := by decide +kernel
theorem dX12_fits_155 : decode cX12_fits 155 = .ok (.ladd, 1) := by decide +kernel
theorem dX12_fits_156 : decode cX12_fits 156 = .ok (.lstore 12, 2) := by decide +kernel
theorem dX12_fits_158 : decode cX12_fits 158 = .ok (.iinc 14 1, 3) := by decide +kernel
theorem dX12_fits_161 : decode cX12_fits 161 = .ok (.goto (-36), 3) := by decide +kernel
theorem dX12_fits_164 : decode cX12_fits 164 = .ok (.lload 12, 2) := by decide +kernel
theorem dX12_fits_166 : decode cX12_fits 166 = .ok (.lload_n 3, 1) := by decide +kernel
theorem dX12_fits_167 : decode cX12_fits 167 = .ok (.lcmp, 1) := by decide +kernel
theorem dX12_fits_168 : decode cX12_fits 168 = .ok (.ifCond .ne 26, 3) := by decide +kernel
theorem dX12_fits_171 : decode cX12_fits 171 = .ok (.iload 8, 2) := by decide +kernel
theorem dX12_fits_173 : decode cX12_fits 173 = .ok (.ifCond .ne 14, 3) := by decide +kernel
theorem dX12_fits_176 : decode cX12_fits 176 = .ok (.bipush 10, 2) := by decide +kernel
theorem dX12_fits_178 : decode cX12_fits 178 = .ok (.iload 10, 2) := by decide +kernel
theorem dX12_fits_180 : decode cX12_fits 180 = .ok (.imul, 1) := by decide +kernel
theorem dX12_fits_181 : decode cX12_fits 181 = .ok (.iload 11, 2) := by decide +kernel
theorem dX12_fits_183 : decode cX12_fits 183 = .ok (.iadd, 1) := by decide +kernel
theorem dX12_fits_184 : decode cX12_fits 184 = .ok (.goto 5, 3) := by decide +kernel
theorem dX12_fits_187 : decode cX12_fits 187 = .ok (.iload 9, 2) := by decide +kernel
theorem dX12_fits_189 : decode cX12_fits 189 = .ok (.istore 9, 2) := by decide +kernel
theorem dX12_fits_191 : decode cX12_fits 191 = .ok (.iinc 8 1, 3) := by decide +kernel
theorem dX12_fits_194 : decode cX12_fits 194 = .ok (.iinc 11 1, 3) := by decide +kernel
theorem dX12_fits_197 : decode cX12_fits 197 = .ok (.goto (-101), 3) := by decide +kernel
theorem dX12_fits_200 : decode cX12_fits 200 = .ok (.iinc 10 1, 3) := by decide +kernel
theorem dX12_fits_203 : decode cX12_fits 203 = .ok (.goto (-117), 3) := by decide +kernel
theorem dX12_fits_206 : decode cX12_fits 206 = .ok (.aload_n 0, 1) := by decide +kernel
theorem dX12_fits_207 : decode cX12_fits 207 = .ok (.getfield 32, 3) := by decide +kernel
theorem dX12_fits_210 : decode cX12_fits 210 = .ok (.iload_n 2, 1) := by decide +kernel
theorem dX12_fits_211 : decode cX12_fits 211 = .ok (.iload 6, 2) := by decide +kernel
theorem dX12_fits_213 : decode cX12_fits 213 = .ok (.iastore, 1) := by decide +kernel
theorem dX12_fits_214 : decode cX12_fits 214 = .ok (.aload_n 0, 1) := by decide +kernel
theorem dX12_fits_215 : decode cX12_fits 215 = .ok (.getfield 37, 3) := by decide +kernel
theorem dX12_fits_218 : decode cX12_fits 218 = .ok (.iload_n 2, 1) := by decide +kernel
theorem dX12_fits_219 : decode cX12_fits 219 = .ok (.iload 7, 2) := by decide +kernel
theorem dX12_fits_221 : decode cX12_fits 221 = .ok (.iastore, 1) := by decide +kernel
theorem dX12_fits_222 : decode cX12_fits 222 = .ok (.iload 5, 2) := by decide +kernel
theorem dX12_fits_224 : decode cX12_fits 224 = .ok (.ifCond .ne 8, 3) := by decide +kernel
theorem dX12_fits_227 : decode cX12_fits 227 = .ok (.iload 8, 2) := by decide +kernel
theorem dX12_fits_229 : decode cX12_fits 229 = .ok (.goto 5, 3) := by decide +kernel
theorem dX12_fits_232 : decode cX12_fits 232 = .ok (.iload 9, 2) := by decide +kernel
theorem dX12_fits_234 : decode cX12_fits 234 = .ok (.ireturn, 1) := by decide +kernel
set_option maxHeartbeats 4000000 in
set_option maxRecDepth 100000 in
theorem cn_X12_fits {l : Launch} {cA : Nat → ClassId} {ad : Nat → Nat} {D : va_G} {E : Nat → Nat} {A : Nat → Prop} {x1 : Int32} {x2 : Int32} {x3 : Int64} {x5 : Int32} {s0 sr : SS} {rr : Int32} (hf : f_X12_fits x1 x2 x3 x5 s0 = some (rr, sr)) : zCon Om Nm cA ad D E l yX12_fits cX12_fits 15 (some .int) 5 A [.ref (ad 0), .int x1, .int x2, .long x3, .int x5] s0 (some (.int rr)) sr := by
  refine zstart (own := RX12) hOm (by decide) rfl (Nat.le_of_ble_eq_true rfl) ?_
  intro p e s m args below meth c X hP ls hl
  have hx := X.1
  have hb := X.2.1
  have hl : lv_has ls 15 [(0, .ref (ad 0)), (1, .int x1), (2, .int x2), (3, .long x3), (5, .int x5)] := hl
  have hS : va_S A s.heap s.heap [] := va_S.rf
  have hc_86 : ∀ (n86 : Nat) (x2 : Int32) (x3 : Int64) (x5 : Int32) (x6 : Int32) (x7 : Int32) (x8 : Int32) (x9 : Int32) (x10 : Int32) (s1 : SS) (H : Heap) (locs : List Loc) (ls : Array Slot), lv_has ls 15 [(0, .ref (ad 0)), (2, .int x2), (3, .long x3), (5, .int x5), (6, .int x6), (7, .int x7), (8, .int x8), (9, .int x9), (10, .int x10)] → va_P D ZCL (zw Om Nm cA ad s1) H → va_S A s.heap H locs → f_X12_fits_c86 n86 x2 x3 x5 x6 x7 x8 x9 x10 s1 = some (rr, sr) → W p l e (zrm 5) s m args below meth c H locs 0 0 (MQ below (zQc Om Nm cA ad D A (some (.int rr)) sr) args s 0 0 A) (F0 m 86 ls []) := by
    intro n86
    induction n86 with
    | zero =>
      intro x2 x3 x5 x6 x7 x8 x9 x10 s1 H locs ls hl hP hS hf
      rw [f_X12_fits_c86] at hf
      cases hf
    | succ n86 ih86 =>
      have hc_96 : ∀ (n96 : Nat) (x2 : Int32) (x3 : Int64) (x5 : Int32) (x6 : Int32) (x7 : Int32) (x8 : Int32) (x9 : Int32) (x10 : Int32) (x11 : Int32) (s1 : SS) (H : Heap) (locs : List Loc) (ls : Array Slot), lv_has ls 15 [(0, .ref (ad 0)), (2, .int x2), (3, .long x3), (5, .int x5), (6, .int x6), (7, .int x7), (8, .int x8), (9, .int x9), (10, .int x10), (11, .int x11)] → va_P D ZCL (zw Om Nm cA ad s1) H → va_S A s.heap H locs → f_X12_fits_c96 (f_X12_fits_c86 n86) n96 x2 x3 x5 x6 x7 x8 x9 x10 x11 s1 = some (rr, sr) → W p l e (zrm 5) s m args below meth c H locs 0 0 (MQ below (zQc Om Nm cA ad D A (some (.int rr)) sr) args s 0 0 A) (F0 m 96 ls []) := by
        intro n96
        induction n96 with
        | zero =>
          intro x2 x3 x5 x6 x7 x8 x9 x10 x11 s1 H locs ls hl hP hS hf
          rw [f_X12_fits_c96] at hf
          cases hf
        | succ n96 ih96 =>
          have hc_125 : ∀ (n125 : Nat) (x2 : Int32) (x3 : Int64) (x5 : Int32) (x6 : Int32) (x7 : Int32) (x8 : Int32) (x9 : Int32) (x10 : Int32) (x11 : Int32) (x12 : Int64) (x14 : Int32) (s1 : SS) (H : Heap) (locs : List Loc) (ls : Array Slot), lv_has ls 15 [(0, .ref (ad 0)), (2, .int x2), (3, .long x3), (5, .int x5), (6, .int x6), (7, .int x7), (8, .int x8), (9, .int x9), (10, .int x10), (11, .int x11), (12, .long x12), (14, .int x14)] → va_P D ZCL (zw Om Nm cA ad s1) H → va_S A s.heap H locs → f_X12_fits_c125 (f_X12_fits_c96 (f_X12_fits_c86 n86) n96) (f_X12_fits_c86 n86) n125 x2 x3 x5 x6 x7 x8 x9 x10 x11 x12 x14 s1 = some (rr, sr) → W p l e (zrm 5) s m args below meth c H locs 0 0 (MQ below (zQc Om Nm cA ad D A (some (.int rr)) sr) args s 0 0 A) (F0 m 125 ls []) := by
            intro n125
            induction n125 with
            | zero =>
              intro x2 x3 x5 x6 x7 x8 x9 x10 x11 x12 x14 s1 H locs ls hl hP hS hf
              rw [f_X12_fits_c125] at hf
              cases hf
            | succ n125 ih125 =>
              have hc_194 : ∀ (x2 : Int32) (x3 : Int64) (x5 : Int32) (x6 : Int32) (x7 : Int32) (x8 : Int32) (x9 : Int32) (x10 : Int32) (x11 : Int32) (s1 : SS) (H : Heap) (locs : List Loc) (ls : Array Slot), lv_has ls 15 [(0, .ref (ad 0)), (2, .int x2), (3, .long x3), (5, .int x5), (6, .int x6), (7, .int x7), (8, .int x8), (9, .int x9), (10, .int x10), (11, .int x11)] → va_P D ZCL (zw Om Nm cA ad s1) H → va_S A s.heap H locs → f_X12_fits_c194 (f_X12_fits_c96 (f_X12_fits_c86 n86) n96) (f_X12_fits_c86 n86) x2 x3 x5 x6 x7 x8 x9 x10 x11 s1 = some (rr, sr) → W p l e (zrm 5) s m args below meth c H locs 0 0 (MQ below (zQc Om Nm cA ad D A (some (.int rr)) sr) args s 0 0 A) (F0 m 194 ls []) := by
                intro x2 x3 x5 x6 x7 x8 x9 x10 x11 s1 H locs ls hl hP hS hf
                rw [f_X12_fits_c194] at hf
                refine lv_iinc (v := (x11 + 1)) (lv' := [(11, .int (x11 + 1)), (0, .ref (ad 0)), (2, .int x2), (3, .long x3), (5, .int x5), (6, .int x6), (7, .int x7), (8, .int x8), (9, .int x9), (10, .int x10)]) hx hb dX12_fits_194 hl (k := 9) rfl rfl (by decide) rfl (fun ls hl => ?_)
                refine lv_goto (tgt := 96) hx hb dX12_fits_197 (by decide) ?_
                exact ih96 x2 x3 x5 x6 x7 x8 x9 x10 (x11 + 1) s1 _ _ _ (lv_sub hl [1, 2, 3, 4, 5, 6, 7, 8, 9, 0] rfl) hP hS hf
              have hc_189 : ∀ (x2 : Int32) (x3 : Int64) (x5 : Int32) (x6 : Int32) (x7 : Int32) (x8 : Int32) (x10 : Int32) (x11 : Int32) (t0 : Int32) (s1 : SS) (H : Heap) (locs : List Loc) (ls : Array Slot), lv_has ls 15 [(0, .ref (ad 0)), (2, .int x2), (3, .long x3), (5, .int x5), (6, .int x6), (7, .int x7), (8, .int x8), (10, .int x10), (11, .int x11)] → va_P D ZCL (zw Om Nm cA ad s1) H → va_S A s.heap H locs → f_X12_fits_c189 (f_X12_fits_c96 (f_X12_fits_c86 n86) n96) (f_X12_fits_c86 n86) x2 x3 x5 x6 x7 x8 x10 x11 t0 s1 = some (rr, sr) → W p l e (zrm 5) s m args below meth c H locs 0 0 (MQ below (zQc Om Nm cA ad D A (some (.int rr)) sr) args s 0 0 A) (F0 m 189 ls [.int t0]) := by
                intro x2 x3 x5 x6 x7 x8 x10 x11 t0 s1 H locs ls hl hP hS hf
                rw [f_X12_fits_c189] at hf
                refine lv_istore (lv' := [(9, .int t0), (0, .ref (ad 0)), (2, .int x2), (3, .long x3), (5, .int x5), (6, .int x6), (7, .int x7), (8, .int x8), (10, .int x10), (11, .int x11)]) hx hb dX12_fits_189 hl (by decide) rfl (fun ls hl => ?_)
                refine lv_iinc (v := (x8 + 1)) (lv' := [(8, .int (x8 + 1)), (9, .int t0), (0, .ref (ad 0)), (2, .int x2), (3, .long x3), (5, .int x5), (6, .int x6), (7, .int x7), (10, .int x10), (11, .int x11)]) hx hb dX12_fits_191 hl (k := 7) rfl rfl (by decide) rfl (fun ls hl => ?_)
                exact hc_194 x2 x3 x5 x6 x7 (x8 + 1) t0 x10 x11 s1 _ _ _ (lv_sub hl [2, 3, 4, 5, 6, 7, 0, 1, 8, 9] rfl) hP hS hf
              intro x2 x3 x5 x6 x7 x8 x9 x10 x11 x12 x14 s1 H locs ls hl hP hS hf
              rw [f_X12_fits_c125] at hf
              refine lv_iload hx hb dX12_fits_125 (lv_at hl 11 rfl) ?_
              refine lv_aload_n hx hb dX12_fits_127 rfl (lv_at hl 0 rfl) ?_
              refine gf_X12_56 X hP (k := 0) rfl dX12_fits_128 ?_
              refine zicmp_ge (tgt := 164) hx hb dX12_fits_131 (by decide) hf (fun hf => ?_) (fun hf => ?_)
              · refine lv_lload hx hb dX12_fits_164 (lv_at hl 10 rfl) ?_
                refine lv_lload_n hx hb dX12_fits_166 rfl (lv_at hl 2 rfl) ?_
                refine W.lcmp hx hb dX12_fits_167 ?_
                refine zif_ne (tgt := 194) hx hb dX12_fits_168 (by decide) hf (fun hf => ?_) (fun hf => ?_)
                · exact hc_194 x2 x3 x5 x6 x7 x8 x9 x10 x11 s1 _ _ _ (lv_sub hl [0, 1, 2, 3, 4, 5, 6, 7, 8, 9] rfl) hP hS hf
                · refine lv_iload hx hb dX12_fits_171 (lv_at hl 6 rfl) ?_
                  refine zif_ne (tgt := 187) hx hb dX12_fits_173 (by decide) hf (fun hf => ?_) (fun hf => ?_)
                  · refine lv_iload hx hb dX12_fits_187 (lv_at hl 7 rfl) ?_
                    exact hc_189 x2 x3 x5 x6 x7 x8 x10 x11 x9 s1 _ _ _ (lv_sub hl [0, 1, 2, 3, 4, 5, 6, 8, 9] rfl) hP hS hf
                  · refine lv_bipush (v := 10) hx hb dX12_fits_176 (by decide) ?_
                    refine lv_iload hx hb dX12_fits_178 (lv_at hl 8 rfl) ?_
                    refine lv_imul hx hb dX12_fits_180 ?_
                    refine lv_iload hx hb dX12_fits_181 (lv_at hl 9 rfl) ?_
                    refine lv_iadd hx hb dX12_fits_183 ?_
                    refine lv_goto (tgt := 189) hx hb dX12_fits_184 (by decide) ?_
                    exact hc_189 x2 x3 x5 x6 x7 x8 x10 x11 (((10 : Int32) * x10) + x11) s1 _ _ _ (lv_sub hl [0, 1, 2, 3, 4, 5, 6, 8, 9] rfl) hP hS hf
              · refine lv_lload hx hb dX12_fits_134 (lv_at hl 10 rfl) ?_
                refine lv_aload_n hx hb dX12_fits_136 rfl (lv_at hl 0 rfl) ?_
                refine gf_X12_111 X hP (k := 0) (q := 13) rfl dX12_fits_137 rfl ?_
                refine lv_iload hx hb dX12_fits_140 (lv_at hl 11 rfl) ?_
                obtain ⟨g19, hf⟩ := zgd hf
                refine zald_l X hP (k := 13) (n := 462) (rs := []) rfl g19 dX12_fits_142 ?_
                refine lv_aload_n hx hb dX12_fits_143 rfl (lv_at hl 0 rfl) ?_
                refine lv_aload_n hx hb dX12_fits_144 rfl (lv_at hl 0 rfl) ?_
                refine gf_X12_62 X hP (k := 0) (q := 4) rfl dX12_fits_145 rfl ?_
                refine lv_iload hx hb dX12_fits_148 (lv_at hl 11 rfl) ?_
                obtain ⟨g20, hf⟩ := zgd hf
                refine zald_i X hP (k := 4) (n := 462) (rs := []) rfl g20 dX12_fits_150 ?_
                obtain ⟨r21, s22, h23, hf⟩ := zbd_some hf
                refine zcallV X hP hS hl.1 (k := 0) (As := [.int (s1.1 4 (x14).toNatClampNeg)]) (rest := [.long (s1.2 13 (x14).toNatClampNeg), .long x12]) (cn_X12_worthBy h23) cw_X12_worthBy zp_12 rfl (by decide) rfl ml_X12_82 (by decide) rfl rfl (Nat.le_of_ble_eq_true rfl) dX12_fits_151 (fun H locs hP hS => ?_)
                refine lv_lmul hx hb dX12_fits_154 ?_
                refine lv_ladd hx hb dX12_fits_155 ?_
                refine lv_lstore (lv' := [(12, .long (x12 + ((s1.2 13 (x14).toNatClampNeg) * r21))), (0, .ref (ad 0)), (2, .int x2), (3, .long x3), (5, .int x5), (6, .int x6), (7, .int x7), (8, .int x8), (9, .int x9), (10, .int x10), (11, .int x11), (14, .int x14)]) hx hb dX12_fits_156 hl (by decide) rfl (fun ls hl => ?_)
                refine lv_iinc (v := (x14 + 1)) (lv' := [(14, .int (x14 + 1)), (12, .long (x12 + ((s1.2 13 (x14).toNatClampNeg) * r21))), (0, .ref (ad 0)), (2, .int x2), (3, .long x3), (5, .int x5), (6, .int x6), (7, .int x7), (8, .int x8), (9, .int x9), (10, .int x10), (11, .int x11)]) hx hb dX12_fits_158 hl (k := 11) rfl rfl (by decide) rfl (fun ls hl => ?_)
                refine lv_goto (tgt := 125) hx hb dX12_fits_161 (by decide) ?_
                exact ih125 x2 x3 x5 x6 x7 x8 x9 x10 x11 (x12 + ((s1.2 13 (x14).toNatClampNeg) * r21)) (x14 + 1) s22 _ _ _ (lv_sub hl [2, 3, 4, 5, 6, 7, 8, 9, 10, 11, 1, 0] rfl) hP hS hf
          intro x2 x3 x5 x6 x7 x8 x9 x10 x11 s1 H locs ls hl hP hS hf
          rw [f_X12_fits_c96] at hf
          refine lv_iload hx hb dX12_fits_96 (lv_at hl 9 rfl) ?_
          refine lv_bipush (v := 10) hx hb dX12_fits_98 (by decide) ?_
          refine zicmp_ge (tgt := 200) hx hb dX12_fits_100 (by decide) hf (fun hf => ?_) (fun hf => ?_)
          · refine lv_iinc (v := (x10 + 1)) (lv' := [(10, .int (x10 + 1)), (0, .ref (ad 0)), (2, .int x2), (3, .long x3), (5, .int x5), (6, .int x6), (7, .int x7), (8, .int x8), (9, .int x9), (11, .int x11)]) hx hb dX12_fits_200 hl (k := 8) rfl rfl (by decide) rfl (fun ls hl => ?_)
            refine lv_goto (tgt := 86) hx hb dX12_fits_203 (by decide) ?_
            exact ih86 x2 x3 x5 x6 x7 x8 x9 (x10 + 1) s1 _ _ _ (lv_sub hl [1, 2, 3, 4, 5, 6, 7, 8, 0] rfl) hP hS hf
          · refine lv_aload_n hx hb dX12_fits_103 rfl (lv_at hl 0 rfl) ?_
            refine gf_X12_32 X hP (k := 0) (q := 2) rfl dX12_fits_104 rfl ?_
            refine lv_iload_n hx hb dX12_fits_107 rfl (lv_at hl 1 rfl) ?_
            refine lv_iload hx hb dX12_fits_108 (lv_at hl 8 rfl) ?_
            obtain ⟨g17, hf⟩ := zgd hf
            refine zast_i X hP hS (k := 2) (n := 3) (rs := []) rfl g17 dX12_fits_110 (fun H locs hP hS => ?_)
            refine lv_aload_n hx hb dX12_fits_111 rfl (lv_at hl 0 rfl) ?_
            refine gf_X12_37 X hP (k := 0) (q := 3) rfl dX12_fits_112 rfl ?_
            refine lv_iload_n hx hb dX12_fits_115 rfl (lv_at hl 1 rfl) ?_
            refine lv_iload hx hb dX12_fits_116 (lv_at hl 9 rfl) ?_
            obtain ⟨g18, hf⟩ := zgd hf
            refine zast_i X hP hS (k := 3) (n := 3) (rs := []) rfl g18 dX12_fits_118 (fun H locs hP hS => ?_)
            refine lv_lconst (v := 0) hx hb dX12_fits_119 (by decide) ?_
            refine lv_lstore (lv' := [(12, .long 0), (0, .ref (ad 0)), (2, .int x2), (3, .long x3), (5, .int x5), (6, .int x6), (7, .int x7), (8, .int x8), (9, .int x9), (10, .int x10), (11, .int x11)]) hx hb dX12_fits_120 hl (by decide) rfl (fun ls hl => ?_)
            refine lv_iconst (v := 0) hx hb dX12_fits_122 (by decide) ?_
            refine lv_istore (lv' := [(14, .int 0), (12, .long 0), (0, .ref (ad 0)), (2, .int x2), (3, .long x3), (5, .int x5), (6, .int x6), (7, .int x7), (8, .int x8), (9, .int x9), (10, .int x10), (11, .int x11)]) hx hb dX12_fits_123 hl (by decide) rfl (fun ls hl => ?_)
            exact hc_125 ZF x2 x3 x5 x6 x7 x8 x9 x10 x11 0 0 (zS (zS s1 2 (x2).toNatClampNeg x10) 3 (x2).toNatClampNeg x11) _ _ _ (lv_sub hl [2, 3, 4, 5, 6, 7, 8, 9, 10, 11, 1, 0] rfl) hP hS hf
      intro x2 x3 x5 x6 x7 x8 x9 x10 s1 H locs ls hl hP hS hf
      rw [f_X12_fits_c86] at hf
      refine lv_iload hx hb dX12_fits_86 (lv_at hl 8 rfl) ?_
      refine lv_bipush (v := 10) hx hb dX12_fits_88 (by decide) ?_
      refine zicmp_ge (tgt := 206) hx hb dX12_fits_90 (by decide) hf (fun hf => ?_) (fun hf => ?_)
      · refine lv_aload_n hx hb dX12_fits_206 rfl (lv_at hl 0 rfl) ?_
        refine gf_X12_32 X hP (k := 0) (q := 2) rfl dX12_fits_207 rfl ?_
        refine lv_iload_n hx hb dX12_fits_210 rfl (lv_at hl 1 rfl) ?_
        refine lv_iload hx hb dX12_fits_211 (lv_at hl 4 rfl) ?_
        obtain ⟨g15, hf⟩ := zgd hf
        refine zast_i X hP hS (k := 2) (n := 3) (rs := []) rfl g15 dX12_fits_213 (fun H locs hP hS => ?_)
        refine lv_aload_n hx hb dX12_fits_214 rfl (lv_at hl 0 rfl) ?_
        refine gf_X12_37 X hP (k := 0) (q := 3) rfl dX12_fits_215 rfl ?_
        refine lv_iload_n hx hb dX12_fits_218 rfl (lv_at hl 1 rfl) ?_
        refine lv_iload hx hb dX12_fits_219 (lv_at hl 5 rfl) ?_
        obtain ⟨g16, hf⟩ := zgd hf
        refine zast_i X hP hS (k := 3) (n := 3) (rs := []) rfl g16 dX12_fits_221 (fun H locs hP hS => ?_)
        refine lv_iload hx hb dX12_fits_222 (lv_at hl 3 rfl) ?_
        refine zif_ne (tgt := 232) hx hb dX12_fits_224 (by decide) hf (fun hf => ?_) (fun hf => ?_)
        · refine lv_iload hx hb dX12_fits_232 (lv_at hl 7 rfl) ?_
          exact zret_i X hP hS hf rfl dX12_fits_234
        · refine lv_iload hx hb dX12_fits_227 (lv_at hl 6 rfl) ?_
          refine lv_goto (tgt := 234) hx hb dX12_fits_229 (by decide) ?_
          exact zret_i X hP hS hf rfl dX12_fits_234
      · refine lv_iconst (v := 0) hx hb dX12_fits_93 (by decide) ?_
        refine lv_istore (lv' := [(11, .int 0), (0, .ref (ad 0)), (2, .int x2), (3, .long x3), (5, .int x5), (6, .int x6), (7, .int x7), (8, .int x8), (9, .int x9), (10, .int x10)]) hx hb dX12_fits_94 hl (by decide) rfl (fun ls hl => ?_)
        exact hc_96 ZF x2 x3 x5 x6 x7 x8 x9 x10 0 s1 _ _ _ (lv_sub hl [1, 2, 3, 4, 5, 6, 7, 8, 9, 0] rfl) hP hS hf
  rw [f_X12_fits] at hf
  refine lv_aload_n hx hb dX12_fits_0 rfl (lv_at hl 0 rfl) ?_
  refine lv_iload_n hx hb dX12_fits_1 rfl (lv_at hl 1 rfl) ?_
  refine lv_i2l hx hb dX12_fits_2 rfl ?_
  obtain ⟨r1, s2, h3, hf⟩ := zbd_some hf
  refine zcallV X hP hS hl.1 (k := 0) (As := [.long (x1).toInt64]) (rest := []) (cn_X12_isClass h3) cw_X12_isClass zp_12 rfl (by decide) rfl ml_X12_245 (by decide) rfl rfl (Nat.le_of_ble_eq_true rfl) dX12_fits_3 (fun H locs hP hS => ?_)
  refine zif_ne (tgt := 11) hx hb dX12_fits_6 (by decide) hf (fun hf => ?_) (fun hf => ?_)
  · refine lv_aload_n hx hb dX12_fits_11 rfl (lv_at hl 0 rfl) ?_
    refine gf_X12_3 X hP (k := 0) rfl dX12_fits_12 ?_
    refine lv_iconst (v := 1) hx hb dX12_fits_15 (by decide) ?_
    refine zicmp_eq (tgt := 22) hx hb dX12_fits_16 (by decide) hf (fun hf => ?_) (fun hf => ?_)
    · refine lv_iload_n hx hb dX12_fits_22 rfl (lv_at hl 2 rfl) ?_
      refine lv_i2l hx hb dX12_fits_23 rfl ?_
      refine lv_lconst (v := 0) hx hb dX12_fits_24 (by decide) ?_
      refine lv_aload_n hx hb dX12_fits_25 rfl (lv_at hl 0 rfl) ?_
      refine gf_X12_12 X hP (k := 0) rfl dX12_fits_26 ?_
      refine lv_iconst (v := 1) hx hb dX12_fits_29 (by decide) ?_
      refine lv_isub hx hb dX12_fits_30 ?_
      refine lv_i2l hx hb dX12_fits_31 rfl ?_
      obtain ⟨r4, s5, h6, hf⟩ := zbd_some hf
      refine zcallS X hP hS hl.1 (As := [.long (x2).toInt64, .long 0, .long (((s2.1 0 4) - (1 : Int32))).toInt64]) (rest := []) (cn_X12_in h6) cw_X12_in ml_X12_203 (by decide) rfl rfl (Nat.le_of_ble_eq_true rfl) dX12_fits_32 (fun H locs hP hS => ?_)
      refine zif_eq (tgt := 49) hx hb dX12_fits_35 (by decide) hf (fun hf => ?_) (fun hf => ?_)
      · refine lv_iconst (v := (-1)) hx hb dX12_fits_49 (by decide) ?_
        exact zret_i X hP hS hf rfl dX12_fits_50
      · refine lv_iload hx hb dX12_fits_38 (lv_at hl 4 rfl) ?_
        refine lv_i2l hx hb dX12_fits_40 rfl ?_
        refine lv_lconst (v := 0) hx hb dX12_fits_41 (by decide) ?_
        refine lv_lconst (v := 1) hx hb dX12_fits_42 (by decide) ?_
        obtain ⟨r7, s8, h9, hf⟩ := zbd_some hf
        refine zcallS X hP hS hl.1 (As := [.long (x5).toInt64, .long 0, .long 1]) (rest := []) (cn_X12_in h9) cw_X12_in ml_X12_203 (by decide) rfl rfl (Nat.le_of_ble_eq_true rfl) dX12_fits_43 (fun H locs hP hS => ?_)
        refine zif_ne (tgt := 51) hx hb dX12_fits_46 (by decide) hf (fun hf => ?_) (fun hf => ?_)
        · refine lv_aload_n hx hb dX12_fits_51 rfl (lv_at hl 0 rfl) ?_
          refine lv_iload_n hx hb dX12_fits_52 rfl (lv_at hl 1 rfl) ?_
          refine lv_aload_n hx hb dX12_fits_53 rfl (lv_at hl 0 rfl) ?_
          refine gf_X12_111 X hP (k := 0) (q := 13) rfl dX12_fits_54 rfl ?_
          obtain ⟨r10, s11, h12, hf⟩ := zbd_some hf
          refine zcallV X hP hS hl.1 (k := 0) (As := [.int x1, .ref (ad 13)]) (rest := []) (cn_X12_layClass h12) cw_X12_layClass zp_12 rfl (by decide) rfl ml_X12_264 (by decide) rfl rfl (Nat.le_of_ble_eq_true rfl) dX12_fits_57 (fun H locs hP hS => ?_)
          refine lv_aload_n hx hb dX12_fits_60 rfl (lv_at hl 0 rfl) ?_
          refine gf_X12_32 X hP (k := 0) (q := 2) rfl dX12_fits_61 rfl ?_
          refine lv_iload_n hx hb dX12_fits_64 rfl (lv_at hl 2 rfl) ?_
          obtain ⟨g13, hf⟩ := zgd hf
          refine zald_i X hP (k := 2) (n := 3) (rs := []) rfl g13 dX12_fits_65 ?_
          refine lv_istore (lv' := [(6, .int (s11.1 2 (x2).toNatClampNeg)), (0, .ref (ad 0)), (1, .int x1), (2, .int x2), (3, .long x3), (5, .int x5)]) hx hb dX12_fits_66 hl (by decide) rfl (fun ls hl => ?_)
          refine lv_aload_n hx hb dX12_fits_68 rfl (lv_at hl 1 rfl) ?_
          refine gf_X12_37 X hP (k := 0) (q := 3) rfl dX12_fits_69 rfl ?_
          refine lv_iload_n hx hb dX12_fits_72 rfl (lv_at hl 3 rfl) ?_
          obtain ⟨g14, hf⟩ := zgd hf
          refine zald_i X hP (k := 3) (n := 3) (rs := []) rfl g14 dX12_fits_73 ?_
          refine lv_istore (lv' := [(7, .int (s11.1 3 (x2).toNatClampNeg)), (6, .int (s11.1 2 (x2).toNatClampNeg)), (0, .ref (ad 0)), (1, .int x1), (2, .int x2), (3, .long x3), (5, .int x5)]) hx hb dX12_fits_74 hl (by decide) rfl (fun ls hl => ?_)
          refine lv_iconst (v := 0) hx hb dX12_fits_76 (by decide) ?_
          refine lv_istore (lv' := [(8, .int 0), (7, .int (s11.1 3 (x2).toNatClampNeg)), (6, .int (s11.1 2 (x2).toNatClampNeg)), (0, .ref (ad 0)), (1, .int x1), (2, .int x2), (3, .long x3), (5, .int x5)]) hx hb dX12_fits_77 hl (by decide) rfl (fun ls hl => ?_)
          refine lv_bipush (v := (-2)) hx hb dX12_fits_79 (by decide) ?_
          refine lv_istore (lv' := [(9, .int (-2)), (8, .int 0), (7, .int (s11.1 3 (x2).toNatClampNeg)), (6, .int (s11.1 2 (x2).toNatClampNeg)), (0, .ref (ad 0)), (1, .int x1), (2, .int x2), (3, .long x3), (5, .int x5)]) hx hb dX12_fits_81 hl (by decide) rfl (fun ls hl => ?_)
          refine lv_iconst (v := 1) hx hb dX12_fits_83 (by decide) ?_
          refine lv_istore (lv' := [(10, .int 1), (9, .int (-2)), (8, .int 0), (7, .int (s11.1 3 (x2).toNatClampNeg)), (6, .int (s11.1 2 (x2).toNatClampNeg)), (0, .ref (ad 0)), (1, .int x1), (2, .int x2), (3, .long x3), (5, .int x5)]) hx hb dX12_fits_84 hl (by decide) rfl (fun ls hl => ?_)
          exact hc_86 ZF x2 x3 x5 (s11.1 2 (x2).toNatClampNeg) (s11.1 3 (x2).toNatClampNeg) 0 (-2) 1 s11 _ _ _ (lv_sub hl [5, 7, 8, 9, 4, 3, 2, 1, 0] rfl) hP hS hf
        · refine lv_iconst (v := (-1)) hx hb dX12_fits_49 (by decide) ?_
          exact zret_i X hP hS hf rfl dX12_fits_50
    · refine lv_bipush (v := (-5)) hx hb dX12_fits_19 (by decide) ?_
      exact zret_i X hP hS hf rfl dX12_fits_21
  · refine lv_iconst (v := (-1)) hx hb dX12_fits_9 (by decide) ?_
    exact zret_i X hP hS hf rfl dX12_fits_10
theorem dX12_judge_0 : decode cX12_judge 0 = .ok (.iload_n 1, 1) := by decide +kernel
theorem dX12_judge_1 : decode cX12_judge 1 = .ok (.invokestatic 275, 3) := by decide +kernel
theorem dX12_judge_4 : decode cX12_judge 4 = .ok (.ifCond .ne 5, 3) := by decide +kernel
theorem dX12_judge_7 : decode cX12_judge 7 = .ok (.iconst (-1), 1) := by decide +kernel
theorem dX12_judge_8 : decode cX12_judge 8 = .ok (.ireturn, 1) := by decide +kernel
theorem dX12_judge_9 : decode cX12_judge 9 = .ok (.aload_n 0, 1) := by decide +kernel
theorem dX12_judge_10 : decode cX12_judge 10 = .ok (.getfield 138, 3) := by decide +kernel
theorem dX12_judge_13 : decode cX12_judge 13 = .ok (.iload_n 1, 1) := by decide +kernel
theorem dX12_judge_14 : decode cX12_judge 14 = .ok (.iaload, 1) := by decide +kernel
theorem dX12_judge_15 : decode cX12_judge 15 = .ok (.ifCond .ge 6, 3) := by decide +kernel
theorem dX12_judge_18 : decode cX12_judge 18 = .ok (.bipush (-11), 2) := by decide +kernel
theorem dX12_judge_20 : decode cX12_judge 20 = .ok (.ireturn, 1) := by decide +kernel
theorem dX12_judge_21 : decode cX12_judge 21 = .ok (.aload_n 0, 1) := by decide +kernel
theorem dX12_judge_22 : decode cX12_judge 22 = .ok (.getfield 141, 3) := by decide +kernel
theorem dX12_judge_25 : decode cX12_judge 25 = .ok (.iload_n 1, 1) := by decide +kernel
theorem dX12_judge_26 : decode cX12_judge 26 = .ok (.iaload, 1) := by decide +kernel
theorem dX12_judge_27 : decode cX12_judge 27 = .ok (.aload_n 0, 1) := by decide +kernel
theorem dX12_judge_28 : decode cX12_judge 28 = .ok (.getfield 89, 3) := by decide +kernel
theorem dX12_judge_31 : decode cX12_judge 31 = .ok (.if_icmp .ge 12, 3) := by decide +kernel
theorem dX12_judge_34 : decode cX12_judge 34 = .ok (.aload_n 0, 1) := by decide +kernel
theorem dX12_judge_35 : decode cX12_judge 35 = .ok (.getfield 141, 3) := by decide +kernel
theorem dX12_judge_38 : decode cX12_judge 38 = .ok (.iload_n 1, 1) := by decide +kernel
theorem dX12_judge_39 : decode cX12_judge 39 = .ok (.iaload, 1) := by decide +kernel
theorem dX12_judge_40 : decode cX12_judge 40 = .ok (.goto 7, 3) := by decide +kernel
theorem dX12_judge_43 : decode cX12_judge 43 = .ok (.aload_n 0, 1) := by decide +kernel
theorem dX12_judge_44 : decode cX12_judge 44 = .ok (.getfield 89, 3) := by decide +kernel
theorem dX12_judge_47 : decode cX12_judge 47 = .ok (.istore_n 2, 1) := by decide +kernel
theorem dX12_judge_48 : decode cX12_judge 48 = .ok (.iconst 0, 1) := by decide +kernel
theorem dX12_judge_49 : decode cX12_judge 49 = .ok (.istore_n 3, 1) := by decide +kernel
theorem dX12_judge_50 : decode cX12_judge 50 = .ok (.iload_n 3, 1) := by decide +kernel
theorem dX12_judge_51 : decode cX12_judge 51 = .ok (.iload_n 2, 1) := by decide +kernel
theorem dX12_judge_52 : decode cX12_judge 52 = .ok (.if_icmp .ge 43, 3) := by decide +kernel
theorem dX12_judge_55 : decode cX12_judge 55 = .ok (.aload_n 0, 1) := by decide +kernel
theorem dX12_judge_56 : decode cX12_judge 56 = .ok (.iload_n 3, 1) := by decide +kernel
theorem dX12_judge_57 : decode cX12_judge 57 = .ok (.aload_n 0, 1) := by decide +kernel
theorem dX12_judge_58 : decode cX12_judge 58 = .ok (.getfield 111, 3) := by decide +kernel
theorem dX12_judge_61 : decode cX12_judge 61 = .ok (.invokevirtual 264, 3) := by decide +kernel
theorem dX12_judge_64 : decode cX12_judge 64 = .ok (.aload_n 0, 1) := by decide +kernel
theorem dX12_judge_65 : decode cX12_judge 65 = .ok (.aload_n 0, 1) := by decide +kernel
theorem dX12_judge_66 : decode cX12_judge 66 = .ok (.getfield 111, 3) := by decide +kernel
theorem dX12_judge_69 : decode cX12_judge 69 = .ok (.invokevirtual 268, 3) := by decide +kernel
theorem dX12_judge_72 : decode cX12_judge 72 = .ok (.aload_n 0, 1) := by decide +kernel
theorem dX12_judge_73 : decode cX12_judge 73 = .ok (.getfield 144, 3) := by decide +kernel
theorem dX12_judge_76 : decode cX12_judge 76 = .ok (.bipush 20, 2) := by decide +kernel
theorem dX12_judge_78 : decode cX12_judge 78 = .ok (.iload_n 1, 1) := by decide +kernel
theorem dX12_judge_79 : decode cX12_judge 79 = .ok (.imul, 1) := by decide +kernel
theorem dX12_judge_80 : decode cX12_judge 80 = .ok (.iload_n 3, 1) := by decide +kernel
theorem dX12_judge_81 : decode cX12_judge 81 = .ok (.iadd, 1) := by decide +kernel
theorem dX12_judge_82 : decode cX12_judge 82 = .ok (.laload, 1) := by decide +kernel
theorem dX12_judge_83 : decode cX12_judge 83 = .ok (.lcmp, 1) := by decide +kernel
theorem dX12_judge_84 : decode cX12_judge 84 = .ok (.ifCond .eq 5, 3) := by decide +kernel
theorem dX12_judge_87 : decode cX12_judge 87 = .ok (.iload_n 3, 1) := by decide +kernel
theorem dX12_judge_88 : decode cX12_judge 88 = .ok (.ireturn, 1) := by decide +kernel
theorem dX12_judge_89 : decode cX12_judge 89 = .ok (.iinc 3 1, 3) := by decide +kernel
theorem dX12_judge_92 : decode cX12_judge 92 = .ok (.goto (-42), 3) := by decide +kernel
theorem dX12_judge_95 : decode cX12_judge 95 = .ok (.iload_n 2, 1) := by decide +kernel
theorem dX12_judge_96 : decode cX12_judge 96 = .ok (.aload_n 0, 1) := by decide +kernel
theorem dX12_judge_97 : decode cX12_judge 97 = .ok (.getfield 89, 3) := by decide +kernel
theorem dX12_judge_100 : decode cX12_judge 100 = .ok (.if_icmp .ge 10, 3) := by decide +kernel
theorem dX12_judge_103 : decode cX12_judge 103 = .ok (.bipush 100, 2) := by decide +kernel
theorem dX12_judge_105 : decode cX12_judge 105 = .ok (.iload_n 2, 1) := by decide +kernel
theorem dX12_judge_106 : decode cX12_judge 106 = .ok (.iadd, 1) := by decide +kernel
theorem dX12_judge_107 : decode cX12_judge 107 = .ok (.goto 5, 3) := by decide +kernel
theorem dX12_judge_110 : decode cX12_judge 110 = .ok (.bipush (-2), 2) := by decide +kernel
theorem dX12_judge_112 : decode cX12_judge 112 = .ok (.ireturn, 1) := by decide +kernel
set_option maxHeartbeats 4000000 in
set_option maxRecDepth 100000 in
theorem cn_X12_judge {l : Launch} {cA : Nat → ClassId} {ad : Nat → Nat} {D : va_G} {E : Nat → Nat} {A : Nat → Prop} {x1 : Int32} {s0 sr : SS} {rr : Int32} (hf : f_X12_judge x1 s0 = some (rr, sr)) : zCon Om Nm cA ad D E l yX12_judge cX12_judge 4 (some .int) 5 A [.ref (ad 0), .int x1] s0 (some (.int rr)) sr := by
  refine zstart (own := RX12) hOm (by decide) rfl (Nat.le_of_ble_eq_true rfl) ?_
  intro p e s m args below meth c X hP ls hl
  have hx := X.1
  have hb := X.2.1
  have hl : lv_has ls 4 [(0, .ref (ad 0)), (1, .int x1)] := hl
  have hS : va_S A s.heap s.heap [] := va_S.rf
  have hc_50 : ∀ (n50 : Nat) (x1 : Int32) (x2 : Int32) (x3 : Int32) (s1 : SS) (H : Heap) (locs : List Loc) (ls : Array Slot), lv_has ls 4 [(0, .ref (ad 0)), (1, .int x1), (2, .int x2), (3, .int x3)] → va_P D ZCL (zw Om Nm cA ad s1) H → va_S A s.heap H locs → f_X12_judge_c50 n50 x1 x2 x3 s1 = some (rr, sr) → W p l e (zrm 5) s m args below meth c H locs 0 0 (MQ below (zQc Om Nm cA ad D A (some (.int rr)) sr) args s 0 0 A) (F0 m 50 ls []) := by
    intro n50
    induction n50 with
    | zero =>
      intro x1 x2 x3 s1 H locs ls hl hP hS hf
      rw [f_X12_judge_c50] at hf
      cases hf
    | succ n50 ih50 =>
      intro x1 x2 x3 s1 H locs ls hl hP hS hf
      rw [f_X12_judge_c50] at hf
      refine lv_iload_n hx hb dX12_judge_50 rfl (lv_at hl 3 rfl) ?_
      refine lv_iload_n hx hb dX12_judge_51 rfl (lv_at hl 2 rfl) ?_
      refine zicmp_ge (tgt := 95) hx hb dX12_judge_52 (by decide) hf (fun hf => ?_) (fun hf => ?_)
      · refine lv_iload_n hx hb dX12_judge_95 rfl (lv_at hl 2 rfl) ?_
        refine lv_aload_n hx hb dX12_judge_96 rfl (lv_at hl 0 rfl) ?_
        refine gf_X12_89 X hP (k := 0) rfl dX12_judge_97 ?_
        refine zicmp_ge (tgt := 110) hx hb dX12_judge_100 (by decide) hf (fun hf => ?_) (fun hf => ?_)
        · refine lv_bipush (v := (-2)) hx hb dX12_judge_110 (by decide) ?_
          exact zret_i X hP hS hf rfl dX12_judge_112
        · refine lv_bipush (v := 100) hx hb dX12_judge_103 (by decide) ?_
          refine lv_iload_n hx hb dX12_judge_105 rfl (lv_at hl 2 rfl) ?_
          refine lv_iadd hx hb dX12_judge_106 ?_
          refine lv_goto (tgt := 112) hx hb dX12_judge_107 (by decide) ?_
          exact zret_i X hP hS hf rfl dX12_judge_112
      · refine lv_aload_n hx hb dX12_judge_55 rfl (lv_at hl 0 rfl) ?_
        refine lv_iload_n hx hb dX12_judge_56 rfl (lv_at hl 3 rfl) ?_
        refine lv_aload_n hx hb dX12_judge_57 rfl (lv_at hl 0 rfl) ?_
        refine gf_X12_111 X hP (k := 0) (q := 13) rfl dX12_judge_58 rfl ?_
        obtain ⟨r6, s7, h8, hf⟩ := zbd_some hf
        refine zcallV X hP hS hl.1 (k := 0) (As := [.int x3, .ref (ad 13)]) (rest := []) (cn_X12_layClass h8) cw_X12_layClass zp_12 rfl (by decide) rfl ml_X12_264 (by decide) rfl rfl (Nat.le_of_ble_eq_true rfl) dX12_judge_61 (fun H locs hP hS => ?_)
        refine lv_aload_n hx hb dX12_judge_64 rfl (lv_at hl 0 rfl) ?_
        refine lv_aload_n hx hb dX12_judge_65 rfl (lv_at hl 0 rfl) ?_
        refine gf_X12_111 X hP (k := 0) (q := 13) rfl dX12_judge_66 rfl ?_
        obtain ⟨r9, s10, h11, hf⟩ := zbd_some hf
        refine zcallV X hP hS hl.1 (k := 0) (As := [.ref (ad 13)]) (rest := []) (cn_X12_metOf h11) cw_X12_metOf zp_12 rfl (by decide) rfl ml_X12_268 (by decide) rfl rfl (Nat.le_of_ble_eq_true rfl) dX12_judge_69 (fun H locs hP hS => ?_)
        refine lv_aload_n hx hb dX12_judge_72 rfl (lv_at hl 0 rfl) ?_
        refine gf_X12_144 X hP (k := 0) (q := 24) rfl dX12_judge_73 rfl ?_
        refine lv_bipush (v := 20) hx hb dX12_judge_76 (by decide) ?_
        refine lv_iload_n hx hb dX12_judge_78 rfl (lv_at hl 1 rfl) ?_
        refine lv_imul hx hb dX12_judge_79 ?_
        refine lv_iload_n hx hb dX12_judge_80 rfl (lv_at hl 3 rfl) ?_
        refine lv_iadd hx hb dX12_judge_81 ?_
        obtain ⟨g12, hf⟩ := zgd hf
        refine zald_l X hP (k := 24) (n := 60) (rs := []) rfl g12 dX12_judge_82 ?_
        refine W.lcmp hx hb dX12_judge_83 ?_
        refine zif_eq (tgt := 89) hx hb dX12_judge_84 (by decide) hf (fun hf => ?_) (fun hf => ?_)
        · refine lv_iinc (v := (x3 + 1)) (lv' := [(3, .int (x3 + 1)), (0, .ref (ad 0)), (1, .int x1), (2, .int x2)]) hx hb dX12_judge_89 hl (k := 3) rfl rfl (by decide) rfl (fun ls hl => ?_)
          refine lv_goto (tgt := 50) hx hb dX12_judge_92 (by decide) ?_
          exact ih50 x1 x2 (x3 + 1) s10 _ _ _ (lv_sub hl [1, 2, 3, 0] rfl) hP hS hf
        · refine lv_iload_n hx hb dX12_judge_87 rfl (lv_at hl 3 rfl) ?_
          exact zret_i X hP hS hf rfl dX12_judge_88
  have hc_47 : ∀ (x1 : Int32) (t0 : Int32) (s1 : SS) (H : Heap) (locs : List Loc) (ls : Array Slot), lv_has ls 4 [(0, .ref (ad 0)), (1, .int x1)] → va_P D ZCL (zw Om Nm cA ad s1) H → va_S A s.heap H locs → f_X12_judge_c47 x1 t0 s1 = some (rr, sr) → W p l e (zrm 5) s m args below meth c H locs 0 0 (MQ below (zQc Om Nm cA ad D A (some (.int rr)) sr) args s 0 0 A) (F0 m 47 ls [.int t0]) := by
    intro x1 t0 s1 H locs ls hl hP hS hf
    rw [f_X12_judge_c47] at hf
    refine lv_istore_n (lv' := [(2, .int t0), (0, .ref (ad 0)), (1, .int x1)]) hx hb dX12_judge_47 rfl hl (by decide) rfl (fun ls hl => ?_)
    refine lv_iconst (v := 0) hx hb dX12_judge_48 (by decide) ?_
    refine lv_istore_n (lv' := [(3, .int 0), (2, .int t0), (0, .ref (ad 0)), (1, .int x1)]) hx hb dX12_judge_49 rfl hl (by decide) rfl (fun ls hl => ?_)
    exact hc_50 ZF x1 t0 0 s1 _ _ _ (lv_sub hl [2, 3, 1, 0] rfl) hP hS hf
  rw [f_X12_judge] at hf
  refine lv_iload_n hx hb dX12_judge_0 rfl (lv_at hl 1 rfl) ?_
  obtain ⟨r1, s2, h3, hf⟩ := zbd_some hf
  refine zcallS X hP hS hl.1 (As := [.int x1]) (rest := []) (cn_X12_isList h3) cw_X12_isList ml_X12_275 (by decide) rfl rfl (Nat.le_of_ble_eq_true rfl) dX12_judge_1 (fun H locs hP hS => ?_)
  refine zif_ne (tgt := 9) hx hb dX12_judge_4 (by decide) hf (fun hf => ?_) (fun hf => ?_)
  · refine lv_aload_n hx hb dX12_judge_9 rfl (lv_at hl 0 rfl) ?_
    refine gf_X12_138 X hP (k := 0) (q := 22) rfl dX12_judge_10 rfl ?_
    refine lv_iload_n hx hb dX12_judge_13 rfl (lv_at hl 1 rfl) ?_
    obtain ⟨g4, hf⟩ := zgd hf
    refine zald_i X hP (k := 22) (n := 3) (rs := []) rfl g4 dX12_judge_14 ?_
    refine zif_ge (tgt := 21) hx hb dX12_judge_15 (by decide) hf (fun hf => ?_) (fun hf => ?_)
    · refine lv_aload_n hx hb dX12_judge_21 rfl (lv_at hl 0 rfl) ?_
      refine gf_X12_141 X hP (k := 0) (q := 23) rfl dX12_judge_22 rfl ?_
      refine lv_iload_n hx hb dX12_judge_25 rfl (lv_at hl 1 rfl) ?_
      obtain ⟨g5, hf⟩ := zgd hf
      refine zald_i X hP (k := 23) (n := 3) (rs := []) rfl g5 dX12_judge_26 ?_
      refine lv_aload_n hx hb dX12_judge_27 rfl (lv_at hl 0 rfl) ?_
      refine gf_X12_89 X hP (k := 0) rfl dX12_judge_28 ?_
      refine zicmp_ge (tgt := 43) hx hb dX12_judge_31 (by decide) hf (fun hf => ?_) (fun hf => ?_)
      · refine lv_aload_n hx hb dX12_judge_43 rfl (lv_at hl 0 rfl) ?_
        refine gf_X12_89 X hP (k := 0) rfl dX12_judge_44 ?_
        exact hc_47 x1 (s2.1 0 12) s2 _ _ _ (lv_sub hl [0, 1] rfl) hP hS hf
      · refine lv_aload_n hx hb dX12_judge_34 rfl (lv_at hl 0 rfl) ?_
        refine gf_X12_141 X hP (k := 0) (q := 23) rfl dX12_judge_35 rfl ?_
        refine lv_iload_n hx hb dX12_judge_38 rfl (lv_at hl 1 rfl) ?_
        obtain ⟨g13, hf⟩ := zgd hf
        refine zald_i X hP (k := 23) (n := 3) (rs := []) rfl g13 dX12_judge_39 ?_
        refine lv_goto (tgt := 47) hx hb dX12_judge_40 (by decide) ?_
        exact hc_47 x1 (s2.1 23 (x1).toNatClampNeg) s2 _ _ _ (lv_sub hl [0, 1] rfl) hP hS hf
    · refine lv_bipush (v := (-11)) hx hb dX12_judge_18 (by decide) ?_
      exact zret_i X hP hS hf rfl dX12_judge_20
  · refine lv_iconst (v := (-1)) hx hb dX12_judge_7 (by decide) ?_
    exact zret_i X hP hS hf rfl dX12_judge_8
theorem dX12_draw_0 : decode cX12_draw 0 = .ok (.aload_n 0, 1) := by decide +kernel
theorem dX12_draw_1 : decode cX12_draw 1 = .ok (.aload_n 0, 1) := by decide +kernel
theorem dX12_draw_2 : decode cX12_draw 2 = .ok (.getfield 321, 3) := by decide +kernel
theorem dX12_draw_5 : decode cX12_draw 5 = .ok (.ldc_w 324, 3) := by decide +kernel
theorem dX12_draw_8 : decode cX12_draw 8 = .ok (.imul, 1) := by decide +kernel
theorem dX12_draw_9 : decode cX12_draw 9 = .ok (.sipush 12345, 3) := by decide +kernel
theorem dX12_draw_12 : decode cX12_draw 12 = .ok (.iadd, 1) := by decide +kernel
theorem dX12_draw_13 : decode cX12_draw 13 = .ok (.putfield 321, 3) := by decide +kernel
theorem dX12_draw_16 : decode cX12_draw 16 = .ok (.aload_n 0, 1) := by decide +kernel
theorem dX12_draw_17 : decode cX12_draw 17 = .ok (.getfield 321, 3) := by decide +kernel
theorem dX12_draw_20 : decode cX12_draw 20 = .ok (.ldc_w 325, 3) := by decide +kernel
theorem dX12_draw_23 : decode cX12_draw 23 = .ok (.iand, 1) := by decide +kernel
theorem dX12_draw_24 : decode cX12_draw 24 = .ok (.ldc_w 326, 3) := by decide +kernel
theorem dX12_draw_27 : decode cX12_draw 27 = .ok (.idiv, 1) := by decide +kernel
theorem dX12_draw_28 : decode cX12_draw 28 = .ok (.iload_n 1, 1) := by decide +kernel
theorem dX12_draw_29 : decode cX12_draw 29 = .ok (.irem, 1) := by decide +kernel
theorem dX12_draw_30 : decode cX12_draw 30 = .ok (.ireturn, 1) := by decide +kernel
set_option maxHeartbeats 4000000 in
set_option maxRecDepth 100000 in
theorem cn_X12_draw {l : Launch} {cA : Nat → ClassId} {ad : Nat → Nat} {D : va_G} {E : Nat → Nat} {A : Nat → Prop} {x1 : Int32} {s0 sr : SS} {rr : Int32} (hf : f_X12_draw x1 s0 = some (rr, sr)) : zCon Om Nm cA ad D E l yX12_draw cX12_draw 2 (some .int) 0 A [.ref (ad 0), .int x1] s0 (some (.int rr)) sr := by
  refine zstart (own := RX12) hOm (by decide) rfl (Nat.le_of_ble_eq_true rfl) ?_
  intro p e s m args below meth c X hP ls hl
  have hx := X.1
  have hb := X.2.1
  have hl : lv_has ls 2 [(0, .ref (ad 0)), (1, .int x1)] := hl
  have hS : va_S A s.heap s.heap [] := va_S.rf
  rw [f_X12_draw] at hf
  refine lv_aload_n hx hb dX12_draw_0 rfl (lv_at hl 0 rfl) ?_
  refine lv_aload_n hx hb dX12_draw_1 rfl (lv_at hl 0 rfl) ?_
  refine gf_X12_321 X hP (k := 0) rfl dX12_draw_2 ?_
  refine zldcw X co_X12_324 dX12_draw_5 ?_
  refine lv_imul hx hb dX12_draw_8 ?_
  refine lv_sipush (v := 12345) hx hb dX12_draw_9 (by decide) ?_
  refine lv_iadd hx hb dX12_draw_12 ?_
  refine pf_X12_321 X hP hS (k := 0) rfl dX12_draw_13 (fun H locs hP hS => ?_)
  refine lv_aload_n hx hb dX12_draw_16 rfl (lv_at hl 0 rfl) ?_
  refine gf_X12_321 X hP (k := 0) rfl dX12_draw_17 ?_
  refine zldcw X co_X12_325 dX12_draw_20 ?_
  refine lv_iand hx hb dX12_draw_23 ?_
  refine zldcw X co_X12_326 dX12_draw_24 ?_
  refine lv_idiv hx hb dX12_draw_27 (by decide) ?_
  refine lv_iload_n hx hb dX12_draw_28 rfl (lv_at hl 1 rfl) ?_
  obtain ⟨z1, hf⟩ := zgp hf
  refine lv_irem hx hb dX12_draw_29 z1 ?_
  exact zret_i X hP hS hf rfl dX12_draw_30
theorem dX12_lots_0 : decode cX12_lots 0 = .ok (.iload_n 1, 1) := by decide +kernel
theorem dX12_lots_1 : decode cX12_lots 1 = .ok (.i2l, 1) := by decide +kernel
theorem dX12_lots_2 : decode cX12_lots 2 = .ok (.lconst 1, 1) := by decide +kernel
theorem dX12_lots_3 : decode cX12_lots 3 = .ok (.ldc2_w 327, 3) := by decide +kernel
theorem dX12_lots_6 : decode cX12_lots 6 = .ok (.invokestatic 203, 3) := by decide +kernel
theorem dX12_lots_9 : decode cX12_lots 9 = .ok (.ifCond .eq 13, 3) := by decide +kernel
theorem dX12_lots_12 : decode cX12_lots 12 = .ok (.iload_n 3, 1) := by decide +kernel
theorem dX12_lots_13 : decode cX12_lots 13 = .ok (.i2l, 1) := by decide +kernel
theorem dX12_lots_14 : decode cX12_lots 14 = .ok (.lconst 0, 1) := by decide +kernel
theorem dX12_lots_15 : decode cX12_lots 15 = .ok (.lconst 1, 1) := by decide +kernel
theorem dX12_lots_16 : decode cX12_lots 16 = .ok (.invokestatic 203, 3) := by decide +kernel
theorem dX12_lots_19 : decode cX12_lots 19 = .ok (.ifCond .ne 7, 3) := by decide +kernel
theorem dX12_lots_22 : decode cX12_lots 22 = .ok (.ldc2_w 220, 3) := by decide +kernel
theorem dX12_lots_25 : decode cX12_lots 25 = .ok (.lreturn, 1) := by decide +kernel
theorem dX12_lots_26 : decode cX12_lots 26 = .ok (.aload_n 0, 1) := by decide +kernel
theorem dX12_lots_27 : decode cX12_lots 27 = .ok (.getfield 89, 3) := by decide +kernel
theorem dX12_lots_30 : decode cX12_lots 30 = .ok (.ifCond .ne 7, 3) := by decide +kernel
theorem dX12_lots_33 : decode cX12_lots 33 = .ok (.ldc2_w 287, 3) := by decide +kernel
theorem dX12_lots_36 : decode cX12_lots 36 = .ok (.lreturn, 1) := by decide +kernel
theorem dX12_lots_37 : decode cX12_lots 37 = .ok (.aload_n 0, 1) := by decide +kernel
theorem dX12_lots_38 : decode cX12_lots 38 = .ok (.iload_n 2, 1) := by decide +kernel
theorem dX12_lots_39 : decode cX12_lots 39 = .ok (.putfield 321, 3) := by decide +kernel
theorem dX12_lots_42 : decode cX12_lots 42 = .ok (.lconst 0, 1) := by decide +kernel
theorem dX12_lots_43 : decode cX12_lots 43 = .ok (.lstore 4, 2) := by decide +kernel
theorem dX12_lots_45 : decode cX12_lots 45 = .ok (.lconst 0, 1) := by decide +kernel
theorem dX12_lots_46 : decode cX12_lots 46 = .ok (.lstore 6, 2) := by decide +kernel
theorem dX12_lots_48 : decode cX12_lots 48 = .ok (.iconst 0, 1) := by decide +kernel
theorem dX12_lots_49 : decode cX12_lots 49 = .ok (.istore 8, 2) := by decide +kernel
theorem dX12_lots_51 : decode cX12_lots 51 = .ok (.iload 8, 2) := by decide +kernel
theorem dX12_lots_53 : decode cX12_lots 53 = .ok (.iload_n 1, 1) := by decide +kernel
theorem dX12_lots_54 : decode cX12_lots 54 = .ok (.if_icmp .ge 97, 3) := by decide +kernel
theorem dX12_lots_57 : decode cX12_lots 57 = .ok (.aload_n 0, 1) := by decide +kernel
theorem dX12_lots_58 : decode cX12_lots 58 = .ok (.aload_n 0, 1) := by decide +kernel
theorem dX12_lots_59 : decode cX12_lots 59 = .ok (.getfield 111, 3) := by decide +kernel
theorem dX12_lots_62 : decode cX12_lots 62 = .ok (.invokevirtual 278, 3) := by decide +kernel
theorem dX12_lots_65 : decode cX12_lots 65 = .ok (.iconst 0, 1) := by decide +kernel
theorem dX12_lots_66 : decode cX12_lots 66 = .ok (.istore 9, 2) := by decide +kernel
theorem dX12_lots_68 : decode cX12_lots 68 = .ok (.iload 9, 2) := by decide +kernel
theorem dX12_lots_70 : decode cX12_lots 70 = .ok (.aload_n 0, 1) := by decide +kernel
theorem dX12_lots_71 : decode cX12_lots 71 = .ok (.getfield 27, 3) := by decide +kernel
theorem dX12_lots_74 : decode cX12_lots 74 = .ok (.if_icmp .ge 37, 3) := by decide +kernel
theorem dX12_lots_77 : decode cX12_lots 77 = .ok (.aload_n 0, 1) := by decide +kernel
theorem dX12_lots_78 : decode cX12_lots 78 = .ok (.aload_n 0, 1) := by decide +kernel
theorem dX12_lots_79 : decode cX12_lots 79 = .ok (.aload_n 0, 1) := by decide +kernel
theorem dX12_lots_80 : decode cX12_lots 80 = .ok (.getfield 89, 3) := by decide +kernel
theorem dX12_lots_83 : decode cX12_lots 83 = .ok (.invokevirtual 329, 3) := by decide +kernel
theorem dX12_lots_86 : decode cX12_lots 86 = .ok (.aload_n 0, 1) := by decide +kernel
theorem dX12_lots_87 : decode cX12_lots 87 = .ok (.getfield 114, 3) := by decide +kernel
theorem dX12_lots_90 : decode cX12_lots 90 = .ok (.invokevirtual 264, 3) := by decide +kernel
theorem dX12_lots_93 : decode cX12_lots 93 = .ok (.aload_n 0, 1) := by decide +kernel
theorem dX12_lots_94 : decode cX12_lots 94 = .ok (.aload_n 0, 1) := by decide +kernel
theorem dX12_lots_95 : decode cX12_lots 95 = .ok (.getfield 111, 3) := by decide +kernel
theorem dX12_lots_98 : decode cX12_lots 98 = .ok (.aload_n 0, 1) := by decide +kernel
theorem dX12_lots_99 : decode cX12_lots 99 = .ok (.getfield 114, 3) := by decide +kernel
theorem dX12_lots_102 : decode cX12_lots 102 = .ok (.invokevirtual 272, 3) := by decide +kernel
theorem dX12_lots_105 : decode cX12_lots 105 = .ok (.iinc 9 1, 3) := by decide +kernel
theorem dX12_lots_108 : decode cX12_lots 108 = .ok (.goto (-40), 3) := by decide +kernel
theorem dX12_lots_111 : decode cX12_lots 111 = .ok (.aload_n 0, 1) := by decide +kernel
theorem dX12_lots_112 : decode cX12_lots 112 = .ok (.aload_n 0, 1) := by decide +kernel
theorem dX12_lots_113 : decode cX12_lots 113 = .ok (.getfield 111, 3) := by decide +kernel
theorem dX12_lots_116 : decode cX12_lots 116 = .ok (.invokevirtual 268, 3) := by decide +kernel
theorem dX12_lots_119 : decode cX12_lots 119 = .ok (.lstore 9, 2) := by decide +kernel
theorem dX12_lots_121 : decode cX12_lots 121 = .ok (.lload 4, 2) := by decide +kernel
theorem dX12_lots_123 : decode cX12_lots 123 = .ok (.lload 9, 2) := by decide +kernel
theorem dX12_lots_125 : decode cX12_lots 125 = .ok (.ladd, 1) := by decide +kernel
theorem dX12_lots_126 : decode cX12_lots 126 = .ok (.lstore 4, 2) := by decide +kernel
theorem dX12_lots_128 : decode cX12_lots 128 = .ok (.lload 6, 2) := by decide +kernel
theorem dX12_lots_130 : decode cX12_lots 130 = .ok (.lload 9, 2) := by decide +kernel
theorem dX12_lots_132 : decode cX12_lots 132 = .ok (.lconst 0, 1) := by decide +kernel
theorem dX12_lots_133 : decode cX12_lots 133 = .ok (.lcmp, 1) := by decide +kernel
theorem dX12_lots_134 : decode cX12_lots 134 = .ok (.ifCond .ne 7, 3) := by decide +kernel
theorem dX12_lots_137 : decode cX12_lots 137 = .ok (.lconst 1, 1) := by decide +kernel
theorem dX12_lots_138 : decode cX12_lots 138 = .ok (.goto 4, 3) := by decide +kernel
theorem dX12_lots_141 : decode cX12_lots 141 = .ok (.lconst 0, 1) := by decide +kernel
theorem dX12_lots_142 : decode cX12_lots 142 = .ok (.ladd, 1) := by decide +kernel
theorem dX12_lots_143 : decode cX12_lots 143 = .ok (.lstore 6, 2) := by decide +kernel
theorem dX12_lots_145 : decode cX12_lots 145 = .ok (.iinc 8 1, 3) := by decide +kernel
theorem dX12_lots_148 : decode cX12_lots 148 = .ok (.goto (-97), 3) := by decide +kernel
theorem dX12_lots_151 : decode cX12_lots 151 = .ok (.iload_n 3, 1) := by decide +kernel
theorem dX12_lots_152 : decode cX12_lots 152 = .ok (.ifCond .ne 8, 3) := by decide +kernel
theorem dX12_lots_155 : decode cX12_lots 155 = .ok (.lload 4, 2) := by decide +kernel
theorem dX12_lots_157 : decode cX12_lots 157 = .ok (.goto 5, 3) := by decide +kernel
theorem dX12_lots_160 : decode cX12_lots 160 = .ok (.lload 6, 2) := by decide +kernel
theorem dX12_lots_162 : decode cX12_lots 162 = .ok (.lreturn, 1) := by decide +kernel
set_option maxHeartbeats 4000000 in
set_option maxRecDepth 100000 in
theorem cn_X12_lots {l : Launch} {cA : Nat → ClassId} {ad : Nat → Nat} {D : va_G} {E : Nat → Nat} {A : Nat → Prop} {x1 : Int32} {x2 : Int32} {x3 : Int32} {s0 sr : SS} {rr : Int64} (hf : f_X12_lots x1 x2 x3 s0 = some (rr, sr)) : zCon Om Nm cA ad D E l yX12_lots cX12_lots 11 (some .long) 5 A [.ref (ad 0), .int x1, .int x2, .int x3] s0 (some (.long rr)) sr := by
  refine zstart (own := RX12) hOm (by decide) rfl (Nat.le_of_ble_eq_true rfl) ?_
  intro p e s m args below meth c X hP ls hl
  have hx := X.1
  have hb := X.2.1
  have hl : lv_has ls 11 [(0, .ref (ad 0)), (1, .int x1), (2, .int x2), (3, .int x3)] := hl
  have hS : va_S A s.heap s.heap [] := va_S.rf
  have hc_51 : ∀ (n51 : Nat) (x1 : Int32) (x3 : Int32) (x4 : Int64) (x6 : Int64) (x8 : Int32) (s1 : SS) (H : Heap) (locs : List Loc) (ls : Array Slot), lv_has ls 11 [(0, .ref (ad 0)), (1, .int x1), (3, .int x3), (4, .long x4), (6, .long x6), (8, .int x8)] → va_P D ZCL (zw Om Nm cA ad s1) H → va_S A s.heap H locs → f_X12_lots_c51 n51 x1 x3 x4 x6 x8 s1 = some (rr, sr) → W p l e (zrm 5) s m args below meth c H locs 0 0 (MQ below (zQc Om Nm cA ad D A (some (.long rr)) sr) args s 0 0 A) (F0 m 51 ls []) := by
    intro n51
    induction n51 with
    | zero =>
      intro x1 x3 x4 x6 x8 s1 H locs ls hl hP hS hf
      rw [f_X12_lots_c51] at hf
      cases hf
    | succ n51 ih51 =>
      have hc_68 : ∀ (n68 : Nat) (x1 : Int32) (x3 : Int32) (x4 : Int64) (x6 : Int64) (x8 : Int32) (x9 : Int32) (s1 : SS) (H : Heap) (locs : List Loc) (ls : Array Slot), lv_has ls 11 [(0, .ref (ad 0)), (1, .int x1), (3, .int x3), (4, .long x4), (6, .long x6), (8, .int x8), (9, .int x9)] → va_P D ZCL (zw Om Nm cA ad s1) H → va_S A s.heap H locs → f_X12_lots_c68 (f_X12_lots_c51 n51) n68 x1 x3 x4 x6 x8 x9 s1 = some (rr, sr) → W p l e (zrm 5) s m args below meth c H locs 0 0 (MQ below (zQc Om Nm cA ad D A (some (.long rr)) sr) args s 0 0 A) (F0 m 68 ls []) := by
        intro n68
        induction n68 with
        | zero =>
          intro x1 x3 x4 x6 x8 x9 s1 H locs ls hl hP hS hf
          rw [f_X12_lots_c68] at hf
          cases hf
        | succ n68 ih68 =>
          have hc_142 : ∀ (x1 : Int32) (x3 : Int32) (x4 : Int64) (x8 : Int32) (t0 : Int64) (t1 : Int64) (s1 : SS) (H : Heap) (locs : List Loc) (ls : Array Slot), lv_has ls 11 [(0, .ref (ad 0)), (1, .int x1), (3, .int x3), (4, .long x4), (8, .int x8)] → va_P D ZCL (zw Om Nm cA ad s1) H → va_S A s.heap H locs → f_X12_lots_c142 (f_X12_lots_c51 n51) x1 x3 x4 x8 t0 t1 s1 = some (rr, sr) → W p l e (zrm 5) s m args below meth c H locs 0 0 (MQ below (zQc Om Nm cA ad D A (some (.long rr)) sr) args s 0 0 A) (F0 m 142 ls [.long t0, .long t1]) := by
            intro x1 x3 x4 x8 t0 t1 s1 H locs ls hl hP hS hf
            rw [f_X12_lots_c142] at hf
            refine lv_ladd hx hb dX12_lots_142 ?_
            refine lv_lstore (lv' := [(6, .long (t1 + t0)), (0, .ref (ad 0)), (1, .int x1), (3, .int x3), (4, .long x4), (8, .int x8)]) hx hb dX12_lots_143 hl (by decide) rfl (fun ls hl => ?_)
            refine lv_iinc (v := (x8 + 1)) (lv' := [(8, .int (x8 + 1)), (6, .long (t1 + t0)), (0, .ref (ad 0)), (1, .int x1), (3, .int x3), (4, .long x4)]) hx hb dX12_lots_145 hl (k := 5) rfl rfl (by decide) rfl (fun ls hl => ?_)
            refine lv_goto (tgt := 51) hx hb dX12_lots_148 (by decide) ?_
            exact ih51 x1 x3 x4 (t1 + t0) (x8 + 1) s1 _ _ _ (lv_sub hl [2, 3, 4, 5, 1, 0] rfl) hP hS hf
          intro x1 x3 x4 x6 x8 x9 s1 H locs ls hl hP hS hf
          rw [f_X12_lots_c68] at hf
          refine lv_iload hx hb dX12_lots_68 (lv_at hl 6 rfl) ?_
          refine lv_aload_n hx hb dX12_lots_70 rfl (lv_at hl 0 rfl) ?_
          refine gf_X12_27 X hP (k := 0) rfl dX12_lots_71 ?_
          refine zicmp_ge (tgt := 111) hx hb dX12_lots_74 (by decide) hf (fun hf => ?_) (fun hf => ?_)
          · refine lv_aload_n hx hb dX12_lots_111 rfl (lv_at hl 0 rfl) ?_
            refine lv_aload_n hx hb dX12_lots_112 rfl (lv_at hl 0 rfl) ?_
            refine gf_X12_111 X hP (k := 0) (q := 13) rfl dX12_lots_113 rfl ?_
            obtain ⟨r10, s11, h12, hf⟩ := zbd_some hf
            refine zcallV X hP hS hl.1 (k := 0) (As := [.ref (ad 13)]) (rest := []) (cn_X12_metOf h12) cw_X12_metOf zp_12 rfl (by decide) rfl ml_X12_268 (by decide) rfl rfl (Nat.le_of_ble_eq_true rfl) dX12_lots_116 (fun H locs hP hS => ?_)
            refine lv_lstore (lv' := [(9, .long r10), (0, .ref (ad 0)), (1, .int x1), (3, .int x3), (4, .long x4), (6, .long x6), (8, .int x8)]) hx hb dX12_lots_119 hl (by decide) rfl (fun ls hl => ?_)
            refine lv_lload hx hb dX12_lots_121 (lv_at hl 4 rfl) ?_
            refine lv_lload hx hb dX12_lots_123 (lv_at hl 0 rfl) ?_
            refine lv_ladd hx hb dX12_lots_125 ?_
            refine lv_lstore (lv' := [(4, .long (x4 + r10)), (9, .long r10), (0, .ref (ad 0)), (1, .int x1), (3, .int x3), (6, .long x6), (8, .int x8)]) hx hb dX12_lots_126 hl (by decide) rfl (fun ls hl => ?_)
            refine lv_lload hx hb dX12_lots_128 (lv_at hl 5 rfl) ?_
            refine lv_lload hx hb dX12_lots_130 (lv_at hl 1 rfl) ?_
            refine lv_lconst (v := 0) hx hb dX12_lots_132 (by decide) ?_
            refine W.lcmp hx hb dX12_lots_133 ?_
            refine zif_ne (tgt := 141) hx hb dX12_lots_134 (by decide) hf (fun hf => ?_) (fun hf => ?_)
            · refine lv_lconst (v := 0) hx hb dX12_lots_141 (by decide) ?_
              exact hc_142 x1 x3 (x4 + r10) x8 0 x6 s11 _ _ _ (lv_sub hl [2, 3, 4, 0, 6] rfl) hP hS hf
            · refine lv_lconst (v := 1) hx hb dX12_lots_137 (by decide) ?_
              refine lv_goto (tgt := 142) hx hb dX12_lots_138 (by decide) ?_
              exact hc_142 x1 x3 (x4 + r10) x8 1 x6 s11 _ _ _ (lv_sub hl [2, 3, 4, 0, 6] rfl) hP hS hf
          · refine lv_aload_n hx hb dX12_lots_77 rfl (lv_at hl 0 rfl) ?_
            refine lv_aload_n hx hb dX12_lots_78 rfl (lv_at hl 0 rfl) ?_
            refine lv_aload_n hx hb dX12_lots_79 rfl (lv_at hl 0 rfl) ?_
            refine gf_X12_89 X hP (k := 0) rfl dX12_lots_80 ?_
            obtain ⟨r13, s14, h15, hf⟩ := zbd_some hf
            refine zcallV X hP hS hl.1 (k := 0) (As := [.int (s1.1 0 12)]) (rest := [.ref (ad 0)]) (cn_X12_draw h15) cw_X12_draw zp_12 rfl (by decide) rfl ml_X12_329 (by decide) rfl rfl (Nat.le_of_ble_eq_true rfl) dX12_lots_83 (fun H locs hP hS => ?_)
            refine lv_aload_n hx hb dX12_lots_86 rfl (lv_at hl 0 rfl) ?_
            refine gf_X12_114 X hP (k := 0) (q := 14) rfl dX12_lots_87 rfl ?_
            obtain ⟨r16, s17, h18, hf⟩ := zbd_some hf
            refine zcallV X hP hS hl.1 (k := 0) (As := [.int r13, .ref (ad 14)]) (rest := []) (cn_X12_layClass h18) cw_X12_layClass zp_12 rfl (by decide) rfl ml_X12_264 (by decide) rfl rfl (Nat.le_of_ble_eq_true rfl) dX12_lots_90 (fun H locs hP hS => ?_)
            refine lv_aload_n hx hb dX12_lots_93 rfl (lv_at hl 0 rfl) ?_
            refine lv_aload_n hx hb dX12_lots_94 rfl (lv_at hl 0 rfl) ?_
            refine gf_X12_111 X hP (k := 0) (q := 13) rfl dX12_lots_95 rfl ?_
            refine lv_aload_n hx hb dX12_lots_98 rfl (lv_at hl 0 rfl) ?_
            refine gf_X12_114 X hP (k := 0) (q := 14) rfl dX12_lots_99 rfl ?_
            obtain ⟨r19, s20, h21, hf⟩ := zbd_some hf
            refine zcallV X hP hS hl.1 (k := 0) (As := [.ref (ad 13), .ref (ad 14)]) (rest := []) (cn_X12_multiply h21) cw_X12_multiply zp_12 rfl (by decide) rfl ml_X12_272 (by decide) rfl rfl (Nat.le_of_ble_eq_true rfl) dX12_lots_102 (fun H locs hP hS => ?_)
            refine lv_iinc (v := (x9 + 1)) (lv' := [(9, .int (x9 + 1)), (0, .ref (ad 0)), (1, .int x1), (3, .int x3), (4, .long x4), (6, .long x6), (8, .int x8)]) hx hb dX12_lots_105 hl (k := 6) rfl rfl (by decide) rfl (fun ls hl => ?_)
            refine lv_goto (tgt := 68) hx hb dX12_lots_108 (by decide) ?_
            exact ih68 x1 x3 x4 x6 x8 (x9 + 1) s20 _ _ _ (lv_sub hl [1, 2, 3, 4, 5, 6, 0] rfl) hP hS hf
      intro x1 x3 x4 x6 x8 s1 H locs ls hl hP hS hf
      rw [f_X12_lots_c51] at hf
      refine lv_iload hx hb dX12_lots_51 (lv_at hl 5 rfl) ?_
      refine lv_iload_n hx hb dX12_lots_53 rfl (lv_at hl 1 rfl) ?_
      refine zicmp_ge (tgt := 151) hx hb dX12_lots_54 (by decide) hf (fun hf => ?_) (fun hf => ?_)
      · refine lv_iload_n hx hb dX12_lots_151 rfl (lv_at hl 2 rfl) ?_
        refine zif_ne (tgt := 160) hx hb dX12_lots_152 (by decide) hf (fun hf => ?_) (fun hf => ?_)
        · refine lv_lload hx hb dX12_lots_160 (lv_at hl 4 rfl) ?_
          exact zret_l X hP hS hf dX12_lots_162
        · refine lv_lload hx hb dX12_lots_155 (lv_at hl 3 rfl) ?_
          refine lv_goto (tgt := 162) hx hb dX12_lots_157 (by decide) ?_
          exact zret_l X hP hS hf dX12_lots_162
      · refine lv_aload_n hx hb dX12_lots_57 rfl (lv_at hl 0 rfl) ?_
        refine lv_aload_n hx hb dX12_lots_58 rfl (lv_at hl 0 rfl) ?_
        refine gf_X12_111 X hP (k := 0) (q := 13) rfl dX12_lots_59 rfl ?_
        obtain ⟨r7, s8, h9, hf⟩ := zbd_some hf
        refine zcallV X hP hS hl.1 (k := 0) (As := [.ref (ad 13)]) (rest := []) (cn_X12_layOne h9) cw_X12_layOne zp_12 rfl (by decide) rfl ml_X12_278 (by decide) rfl rfl (Nat.le_of_ble_eq_true rfl) dX12_lots_62 (fun H locs hP hS => ?_)
        refine lv_iconst (v := 0) hx hb dX12_lots_65 (by decide) ?_
        refine lv_istore (lv' := [(9, .int 0), (0, .ref (ad 0)), (1, .int x1), (3, .int x3), (4, .long x4), (6, .long x6), (8, .int x8)]) hx hb dX12_lots_66 hl (by decide) rfl (fun ls hl => ?_)
        exact hc_68 ZF x1 x3 x4 x6 x8 0 s8 _ _ _ (lv_sub hl [1, 2, 3, 4, 5, 6, 0] rfl) hP hS hf
  rw [f_X12_lots] at hf
  refine lv_iload_n hx hb dX12_lots_0 rfl (lv_at hl 1 rfl) ?_
  refine lv_i2l hx hb dX12_lots_1 rfl ?_
  refine lv_lconst (v := 1) hx hb dX12_lots_2 (by decide) ?_
  refine zldc2 X co_X12_327 dX12_lots_3 ?_
  obtain ⟨r1, s2, h3, hf⟩ := zbd_some hf
  refine zcallS X hP hS hl.1 (As := [.long (x1).toInt64, .long 1, .long 50]) (rest := []) (cn_X12_in h3) cw_X12_in ml_X12_203 (by decide) rfl rfl (Nat.le_of_ble_eq_true rfl) dX12_lots_6 (fun H locs hP hS => ?_)
  refine zif_eq (tgt := 22) hx hb dX12_lots_9 (by decide) hf (fun hf => ?_) (fun hf => ?_)
  · refine zldc2 X co_X12_220 dX12_lots_22 ?_
    exact zret_l X hP hS hf dX12_lots_25
  · refine lv_iload_n hx hb dX12_lots_12 rfl (lv_at hl 3 rfl) ?_
    refine lv_i2l hx hb dX12_lots_13 rfl ?_
    refine lv_lconst (v := 0) hx hb dX12_lots_14 (by decide) ?_
    refine lv_lconst (v := 1) hx hb dX12_lots_15 (by decide) ?_
    obtain ⟨r4, s5, h6, hf⟩ := zbd_some hf
    refine zcallS X hP hS hl.1 (As := [.long (x3).toInt64, .long 0, .long 1]) (rest := []) (cn_X12_in h6) cw_X12_in ml_X12_203 (by decide) rfl rfl (Nat.le_of_ble_eq_true rfl) dX12_lots_16 (fun H locs hP hS => ?_)
    refine zif_ne (tgt := 26) hx hb dX12_lots_19 (by decide) hf (fun hf => ?_) (fun hf => ?_)
    · refine lv_aload_n hx hb dX12_lots_26 rfl (lv_at hl 0 rfl) ?_
      refine gf_X12_89 X hP (k := 0) rfl dX12_lots_27 ?_
      refine zif_ne (tgt := 37) hx hb dX12_lots_30 (by decide) hf (fun hf => ?_) (fun hf => ?_)
      · refine lv_aload_n hx hb dX12_lots_37 rfl (lv_at hl 0 rfl) ?_
        refine lv_iload_n hx hb dX12_lots_38 rfl (lv_at hl 2 rfl) ?_
        refine pf_X12_321 X hP hS (k := 0) rfl dX12_lots_39 (fun H locs hP hS => ?_)
        refine lv_lconst (v := 0) hx hb dX12_lots_42 (by decide) ?_
        refine lv_lstore (lv' := [(4, .long 0), (0, .ref (ad 0)), (1, .int x1), (2, .int x2), (3, .int x3)]) hx hb dX12_lots_43 hl (by decide) rfl (fun ls hl => ?_)
        refine lv_lconst (v := 0) hx hb dX12_lots_45 (by decide) ?_
        refine lv_lstore (lv' := [(6, .long 0), (4, .long 0), (0, .ref (ad 0)), (1, .int x1), (2, .int x2), (3, .int x3)]) hx hb dX12_lots_46 hl (by decide) rfl (fun ls hl => ?_)
        refine lv_iconst (v := 0) hx hb dX12_lots_48 (by decide) ?_
        refine lv_istore (lv' := [(8, .int 0), (6, .long 0), (4, .long 0), (0, .ref (ad 0)), (1, .int x1), (2, .int x2), (3, .int x3)]) hx hb dX12_lots_49 hl (by decide) rfl (fun ls hl => ?_)
        exact hc_51 ZF x1 x3 0 0 0 (zS s5 0 51 x2) _ _ _ (lv_sub hl [3, 4, 6, 2, 1, 0] rfl) hP hS hf
      · refine zldc2 X co_X12_287 dX12_lots_33 ?_
        exact zret_l X hP hS hf dX12_lots_36
    · refine zldc2 X co_X12_220 dX12_lots_22 ?_
      exact zret_l X hP hS hf dX12_lots_25
theorem dX12_feed_0 : decode cX12_feed 0 = .ok (.iload_n 1, 1) := by decide +kernel
theorem dX12_feed_1 : decode cX12_feed 1 = .ok (.i2l, 1) := by decide +kernel
theorem dX12_feed_2 : decode cX12_feed 2 = .ok (.ldc2_w 332, 3) := by decide +kernel
theorem dX12_feed_5 : decode cX12_feed 5 = .ok (.ldc2_w 334, 3) := by decide +kernel
theorem dX12_feed_8 : decode cX12_feed 8 = .ok (.invokestatic 203, 3) := by decide +kernel
theorem dX12_feed_11 : decode cX12_feed 11 = .ok (.ifCond .ne 5, 3) := by decide +kernel
theorem dX12_feed_14 : decode cX12_feed 14 = .ok (.iconst (-1), 1) := by decide +kernel
theorem dX12_feed_15 : decode cX12_feed 15 = .ok (.ireturn, 1) := by decide +kernel
theorem dX12_feed_16 : decode cX12_feed 16 = .ok (.aload_n 0, 1) := by decide +kernel
theorem dX12_feed_17 : decode cX12_feed 17 = .ok (.getfield 336, 3) := by decide +kernel
theorem dX12_feed_20 : decode cX12_feed 20 = .ok (.bipush 80, 2) := by decide +kernel
theorem dX12_feed_22 : decode cX12_feed 22 = .ok (.if_icmp .ne 6, 3) := by decide +kernel
theorem dX12_feed_25 : decode cX12_feed 25 = .ok (.bipush (-3), 2) := by decide +kernel
theorem dX12_feed_27 : decode cX12_feed 27 = .ok (.ireturn, 1) := by decide +kernel
theorem dX12_feed_28 : decode cX12_feed 28 = .ok (.aload_n 0, 1) := by decide +kernel
theorem dX12_feed_29 : decode cX12_feed 29 = .ok (.getfield 132, 3) := by decide +kernel
theorem dX12_feed_32 : decode cX12_feed 32 = .ok (.aload_n 0, 1) := by decide +kernel
theorem dX12_feed_33 : decode cX12_feed 33 = .ok (.getfield 336, 3) := by decide +kernel
theorem dX12_feed_36 : decode cX12_feed 36 = .ok (.iload_n 1, 1) := by decide +kernel
theorem dX12_feed_37 : decode cX12_feed 37 = .ok (.iastore, 1) := by decide +kernel
theorem dX12_feed_38 : decode cX12_feed 38 = .ok (.aload_n 0, 1) := by decide +kernel
theorem dX12_feed_39 : decode cX12_feed 39 = .ok (.dup, 1) := by decide +kernel
theorem dX12_feed_40 : decode cX12_feed 40 = .ok (.getfield 336, 3) := by decide +kernel
theorem dX12_feed_43 : decode cX12_feed 43 = .ok (.iconst 1, 1) := by decide +kernel
theorem dX12_feed_44 : decode cX12_feed 44 = .ok (.iadd, 1) := by decide +kernel
theorem dX12_feed_45 : decode cX12_feed 45 = .ok (.putfield 336, 3) := by decide +kernel
theorem dX12_feed_48 : decode cX12_feed 48 = .ok (.aload_n 0, 1) := by decide +kernel
theorem dX12_feed_49 : decode cX12_feed 49 = .ok (.getfield 336, 3) := by decide +kernel
theorem dX12_feed_52 : decode cX12_feed 52 = .ok (.ireturn, 1) := by decide +kernel
set_option maxHeartbeats 4000000 in
set_option maxRecDepth 100000 in
theorem cn_X12_feed {l : Launch} {cA : Nat → ClassId} {ad : Nat → Nat} {D : va_G} {E : Nat → Nat} {A : Nat → Prop} {x1 : Int32} {s0 sr : SS} {rr : Int32} (hf : f_X12_feed x1 s0 = some (rr, sr)) : zCon Om Nm cA ad D E l yX12_feed cX12_feed 2 (some .int) 1 A [.ref (ad 0), .int x1] s0 (some (.int rr)) sr := by
  refine zstart (own := RX12) hOm (by decide) rfl (Nat.le_of_ble_eq_true rfl) ?_
  intro p e s m args below meth c X hP ls hl
  have hx := X.1
  have hb := X.2.1
  have hl : lv_has ls 2 [(0, .ref (ad 0)), (1, .int x1)] := hl
  have hS : va_S A s.heap s.heap [] := va_S.rf
  rw [f_X12_feed] at hf
  refine lv_iload_n hx hb dX12_feed_0 rfl (lv_at hl 1 rfl) ?_
  refine lv_i2l hx hb dX12_feed_1 rfl ?_
  refine zldc2 X co_X12_332 dX12_feed_2 ?_
  refine zldc2 X co_X12_334 dX12_feed_5 ?_
  obtain ⟨r1, s2, h3, hf⟩ := zbd_some hf
  refine zcallS X hP hS hl.1 (As := [.long (x1).toInt64, .long 32, .long 126]) (rest := []) (cn_X12_in h3) cw_X12_in ml_X12_203 (by decide) rfl rfl (Nat.le_of_ble_eq_true rfl) dX12_feed_8 (fun H locs hP hS => ?_)
  refine zif_ne (tgt := 16) hx hb dX12_feed_11 (by decide) hf (fun hf => ?_) (fun hf => ?_)
  · refine lv_aload_n hx hb dX12_feed_16 rfl (lv_at hl 0 rfl) ?_
    refine gf_X12_336 X hP (k := 0) rfl dX12_feed_17 ?_
    refine lv_bipush (v := 80) hx hb dX12_feed_20 (by decide) ?_
    refine zicmp_ne (tgt := 28) hx hb dX12_feed_22 (by decide) hf (fun hf => ?_) (fun hf => ?_)
    · refine lv_aload_n hx hb dX12_feed_28 rfl (lv_at hl 0 rfl) ?_
      refine gf_X12_132 X hP (k := 0) (q := 20) rfl dX12_feed_29 rfl ?_
      refine lv_aload_n hx hb dX12_feed_32 rfl (lv_at hl 0 rfl) ?_
      refine gf_X12_336 X hP (k := 0) rfl dX12_feed_33 ?_
      refine lv_iload_n hx hb dX12_feed_36 rfl (lv_at hl 1 rfl) ?_
      obtain ⟨g4, hf⟩ := zgd hf
      refine zast_i X hP hS (k := 20) (n := 80) (rs := []) rfl g4 dX12_feed_37 (fun H locs hP hS => ?_)
      refine lv_aload_n hx hb dX12_feed_38 rfl (lv_at hl 0 rfl) ?_
      refine lv_dup hx hb dX12_feed_39 rfl ?_
      refine gf_X12_336 X hP (k := 0) rfl dX12_feed_40 ?_
      refine lv_iconst (v := 1) hx hb dX12_feed_43 (by decide) ?_
      refine lv_iadd hx hb dX12_feed_44 ?_
      refine pf_X12_336 X hP hS (k := 0) rfl dX12_feed_45 (fun H locs hP hS => ?_)
      refine lv_aload_n hx hb dX12_feed_48 rfl (lv_at hl 0 rfl) ?_
      refine gf_X12_336 X hP (k := 0) rfl dX12_feed_49 ?_
      exact zret_i X hP hS hf rfl dX12_feed_52
    · refine lv_bipush (v := (-3)) hx hb dX12_feed_25 (by decide) ?_
      exact zret_i X hP hS hf rfl dX12_feed_27
  · refine lv_iconst (v := (-1)) hx hb dX12_feed_14 (by decide) ?_
    exact zret_i X hP hS hf rfl dX12_feed_15
theorem dX12_wipe_0 : decode cX12_wipe 0 = .ok (.aload_n 0, 1) := by decide +kernel
theorem dX12_wipe_1 : decode cX12_wipe 1 = .ok (.getfield 336, 3) := by decide +kernel
theorem dX12_wipe_4 : decode cX12_wipe 4 = .ok (.istore_n 1, 1) := by decide +kernel
theorem dX12_wipe_5 : decode cX12_wipe 5 = .ok (.aload_n 0, 1) := by decide +kernel
theorem dX12_wipe_6 : decode cX12_wipe 6 = .ok (.iconst 0, 1) := by decide +kernel
theorem dX12_wipe_7 : decode cX12_wipe 7 = .ok (.putfield 336, 3) := by decide +kernel
theorem dX12_wipe_10 : decode cX12_wipe 10 = .ok (.iload_n 1, 1) := by decide +kernel
theorem dX12_wipe_11 : decode cX12_wipe 11 = .ok (.ireturn, 1) := by decide +kernel
set_option maxHeartbeats 4000000 in
set_option maxRecDepth 100000 in
theorem cn_X12_wipe {l : Launch} {cA : Nat → ClassId} {ad : Nat → Nat} {D : va_G} {E : Nat → Nat} {A : Nat → Prop}  {s0 sr : SS} {rr : Int32} (hf : f_X12_wipe s0 = some (rr, sr)) : zCon Om Nm cA ad D E l yX12_wipe cX12_wipe 2 (some .int) 0 A [.ref (ad 0)] s0 (some (.int rr)) sr := by
  refine zstart (own := RX12) hOm (by decide) rfl (Nat.le_of_ble_eq_true rfl) ?_
  intro p e s m args below meth c X hP ls hl
  have hx := X.1
  have hb := X.2.1
  have hl : lv_has ls 2 [(0, .ref (ad 0))] := hl
  have hS : va_S A s.heap s.heap [] := va_S.rf
  rw [f_X12_wipe] at hf
  refine lv_aload_n hx hb dX12_wipe_0 rfl (lv_at hl 0 rfl) ?_
  refine gf_X12_336 X hP (k := 0) rfl dX12_wipe_1 ?_
  refine lv_istore_n (lv' := [(1, .int (s0.1 0 27)), (0, .ref (ad 0))]) hx hb dX12_wipe_4 rfl hl (by decide) rfl (fun ls hl => ?_)
  refine lv_aload_n hx hb dX12_wipe_5 rfl (lv_at hl 1 rfl) ?_
  refine lv_iconst (v := 0) hx hb dX12_wipe_6 (by decide) ?_
  refine pf_X12_336 X hP hS (k := 0) rfl dX12_wipe_7 (fun H locs hP hS => ?_)
  refine lv_iload_n hx hb dX12_wipe_10 rfl (lv_at hl 0 rfl) ?_
  exact zret_i X hP hS hf rfl dX12_wipe_11
theorem dX12_here_0 : decode cX12_here 0 = .ok (.aload_n 0, 1) := by decide +kernel
theorem dX12_here_1 : decode cX12_here 1 = .ok (.getfield 339, 3) := by decide +kernel
theorem dX12_here_4 : decode cX12_here 4 = .ok (.aload_n 0, 1) := by decide +kernel
theorem dX12_here_5 : decode cX12_here 5 = .ok (.getfield 336, 3) := by decide +kernel
theorem dX12_here_8 : decode cX12_here 8 = .ok (.if_icmp .ge 15, 3) := by decide +kernel
theorem dX12_here_11 : decode cX12_here 11 = .ok (.aload_n 0, 1) := by decide +kernel
theorem dX12_here_12 : decode cX12_here 12 = .ok (.getfield 132, 3) := by decide +kernel
theorem dX12_here_15 : decode cX12_here 15 = .ok (.aload_n 0, 1) := by decide +kernel
theorem dX12_here_16 : decode cX12_here 16 = .ok (.getfield 339, 3) := by decide +kernel
theorem dX12_here_19 : decode cX12_here 19 = .ok (.iaload, 1) := by decide +kernel
theorem dX12_here_20 : decode cX12_here 20 = .ok (.goto 4, 3) := by decide +kernel
theorem dX12_here_23 : decode cX12_here 23 = .ok (.iconst (-1), 1) := by decide +kernel
theorem dX12_here_24 : decode cX12_here 24 = .ok (.ireturn, 1) := by decide +kernel
set_option maxHeartbeats 4000000 in
set_option maxRecDepth 100000 in
theorem cn_X12_here {l : Launch} {cA : Nat → ClassId} {ad : Nat → Nat} {D : va_G} {E : Nat → Nat} {A : Nat → Prop}  {s0 sr : SS} {rr : Int32} (hf : f_X12_here s0 = some (rr, sr)) : zCon Om Nm cA ad D E l yX12_here cX12_here 1 (some .int) 0 A [.ref (ad 0)] s0 (some (.int rr)) sr := by
  refine zstart (own := RX12) hOm (by decide) rfl (Nat.le_of_ble_eq_true rfl) ?_
  intro p e s m args below meth c X hP ls hl
  have hx := X.1
  have hb := X.2.1
  have hl : lv_has ls 1 [(0, .ref (ad 0))] := hl
  have hS : va_S A s.heap s.heap [] := va_S.rf
  rw [f_X12_here] at hf
  refine lv_aload_n hx hb dX12_here_0 rfl (lv_at hl 0 rfl) ?_
  refine gf_X12_339 X hP (k := 0) rfl dX12_here_1 ?_
  refine lv_aload_n hx hb dX12_here_4 rfl (lv_at hl 0 rfl) ?_
  refine gf_X12_336 X hP (k := 0) rfl dX12_here_5 ?_
  refine zicmp_ge (tgt := 23) hx hb dX12_here_8 (by decide) hf (fun hf => ?_) (fun hf => ?_)
  · refine lv_iconst (v := (-1)) hx hb dX12_here_23 (by decide) ?_
    exact zret_i X hP hS hf rfl dX12_here_24
  · refine lv_aload_n hx hb dX12_here_11 rfl (lv_at hl 0 rfl) ?_
    refine gf_X12_132 X hP (k := 0) (q := 20) rfl dX12_here_12 rfl ?_
    refine lv_aload_n hx hb dX12_here_15 rfl (lv_at hl 0 rfl) ?_
    refine gf_X12_339 X hP (k := 0) rfl dX12_here_16 ?_
    obtain ⟨g1, hf⟩ := zgd hf
    refine zald_i X hP (k := 20) (n := 80) (rs := []) rfl g1 dX12_here_19 ?_
    refine lv_goto (tgt := 24) hx hb dX12_here_20 (by decide) ?_
    exact zret_i X hP hS hf rfl dX12_here_24
theorem dX12_isFigure_0 : decode cX12_isFigure 0 = .ok (.aload_n 0, 1) := by decide +kernel
theorem dX12_isFigure_1 : decode cX12_isFigure 1 = .ok (.invokevirtual 342, 3) := by decide +kernel
theorem dX12_isFigure_4 : decode cX12_isFigure 4 = .ok (.i2l, 1) := by decide +kernel
theorem dX12_isFigure_5 : decode cX12_isFigure 5 = .ok (.ldc2_w 345, 3) := by decide +kernel
theorem dX12_isFigure_8 : decode cX12_isFigure 8 = .ok (.ldc2_w 347, 3) := by decide +kernel
theorem dX12_isFigure_11 : decode cX12_isFigure 11 = .ok (.invokestatic 203, 3) := by decide +kernel
theorem dX12_isFigure_14 : decode cX12_isFigure 14 = .ok (.ireturn, 1) := by decide +kernel
set_option maxHeartbeats 4000000 in
set_option maxRecDepth 100000 in
theorem cn_X12_isFigure {l : Launch} {cA : Nat → ClassId} {ad : Nat → Nat} {D : va_G} {E : Nat → Nat} {A : Nat → Prop}  {s0 sr : SS} {rr : Int32} (hf : f_X12_isFigure s0 = some (rr, sr)) : zCon Om Nm cA ad D E l yX12_isFigure cX12_isFigure 1 (some .boolean) 1 A [.ref (ad 0)] s0 (some (.int rr)) sr := by
  refine zstart (own := RX12) hOm (by decide) rfl (Nat.le_of_ble_eq_true rfl) ?_
  intro p e s m args below meth c X hP ls hl
  have hx := X.1
  have hb := X.2.1
  have hl : lv_has ls 1 [(0, .ref (ad 0))] := hl
  have hS : va_S A s.heap s.heap [] := va_S.rf
  rw [f_X12_isFigure] at hf
  refine lv_aload_n hx hb dX12_isFigure_0 rfl (lv_at hl 0 rfl) ?_
  obtain ⟨r1, s2, h3, hf⟩ := zbd_some hf
  refine zcallV X hP hS hl.1 (k := 0) (As := []) (rest := []) (cn_X12_here h3) cw_X12_here zp_12 rfl (by decide) rfl ml_X12_342 (by decide) rfl rfl (Nat.le_of_ble_eq_true rfl) dX12_isFigure_1 (fun H locs hP hS => ?_)
  refine lv_i2l hx hb dX12_isFigure_4 rfl ?_
  refine zldc2 X co_X12_345 dX12_isFigure_5 ?_
  refine zldc2 X co_X12_347 dX12_isFigure_8 ?_
  obtain ⟨r4, s5, h6, hf⟩ := zbd_some hf
  refine zcallS X hP hS hl.1 (As := [.long (r1).toInt64, .long 48, .long 57]) (rest := []) (cn_X12_in h6) cw_X12_in ml_X12_203 (by decide) rfl rfl (Nat.le_of_ble_eq_true rfl) dX12_isFigure_11 (fun H locs hP hS => ?_)
  obtain ⟨b7, hf⟩ := zgd hf
  exact zret_i X hP hS hf (znar_of (by decide) b7) dX12_isFigure_14
theorem dX12_letterHere_0 : decode cX12_letterHere 0 = .ok (.iload_n 1, 1) := by decide +kernel
theorem dX12_letterHere_1 : decode cX12_letterHere 1 = .ok (.istore_n 2, 1) := by decide +kernel
theorem dX12_letterHere_2 : decode cX12_letterHere 2 = .ok (.iload_n 2, 1) := by decide +kernel
theorem dX12_letterHere_3 : decode cX12_letterHere 3 = .ok (.aload_n 0, 1) := by decide +kernel
theorem dX12_letterHere_4 : decode cX12_letterHere 4 = .ok (.invokevirtual 68, 3) := by decide +kernel
theorem dX12_letterHere_7 : decode cX12_letterHere 7 = .ok (.if_icmp .ge 23, 3) := by decide +kernel
theorem dX12_letterHere_10 : decode cX12_letterHere 10 = .ok (.aload_n 0, 1) := by decide +kernel
theorem dX12_letterHere_11 : decode cX12_letterHere 11 = .ok (.invokevirtual 342, 3) := by decide +kernel
theorem dX12_letterHere_14 : decode cX12_letterHere 14 = .ok (.aload_n 0, 1) := by decide +kernel
theorem dX12_letterHere_15 : decode cX12_letterHere 15 = .ok (.iload_n 2, 1) := by decide +kernel
theorem dX12_letterHere_16 : decode cX12_letterHere 16 = .ok (.invokevirtual 222, 3) := by decide +kernel
theorem dX12_letterHere_19 : decode cX12_letterHere 19 = .ok (.if_icmp .ne 5, 3) := by decide +kernel
theorem dX12_letterHere_22 : decode cX12_letterHere 22 = .ok (.iload_n 2, 1) := by decide +kernel
theorem dX12_letterHere_23 : decode cX12_letterHere 23 = .ok (.ireturn, 1) := by decide +kernel
theorem dX12_letterHere_24 : decode cX12_letterHere 24 = .ok (.iinc 2 1, 3) := by decide +kernel
theorem dX12_letterHere_27 : decode cX12_letterHere 27 = .ok (.goto (-25), 3) := by decide +kernel
theorem dX12_letterHere_30 : decode cX12_letterHere 30 = .ok (.iconst (-1), 1) := by decide +kernel
theorem dX12_letterHere_31 : decode cX12_letterHere 31 = .ok (.ireturn, 1) := by decide +kernel
set_option maxHeartbeats 4000000 in
set_option maxRecDepth 100000 in
theorem cn_X12_letterHere {l : Launch} {cA : Nat → ClassId} {ad : Nat → Nat} {D : va_G} {E : Nat → Nat} {A : Nat → Prop} {x1 : Int32} {s0 sr : SS} {rr : Int32} (hf : f_X12_letterHere x1 s0 = some (rr, sr)) : zCon Om Nm cA ad D E l yX12_letterHere cX12_letterHere 3 (some .int) 1 A [.ref (ad 0), .int x1] s0 (some (.int rr)) sr := by
  refine zstart (own := RX12) hOm (by decide) rfl (Nat.le_of_ble_eq_true rfl) ?_
  intro p e s m args below meth c X hP ls hl
  have hx := X.1
  have hb := X.2.1
  have hl : lv_has ls 3 [(0, .ref (ad 0)), (1, .int x1)] := hl
  have hS : va_S A s.heap s.heap [] := va_S.rf
  have hc_2 : ∀ (n2 : Nat) (x2 : Int32) (s1 : SS) (H : Heap) (locs : List Loc) (ls : Array Slot), lv_has ls 3 [(0, .ref (ad 0)), (2, .int x2)] → va_P D ZCL (zw Om Nm cA ad s1) H → va_S A s.heap H locs → f_X12_letterHere_c2 n2 x2 s1 = some (rr, sr) → W p l e (zrm 1) s m args below meth c H locs 0 0 (MQ below (zQc Om Nm cA ad D A (some (.int rr)) sr) args s 0 0 A) (F0 m 2 ls []) := by
    intro n2
    induction n2 with
    | zero =>
      intro x2 s1 H locs ls hl hP hS hf
      rw [f_X12_letterHere_c2] at hf
      cases hf
    | succ n2 ih2 =>
      intro x2 s1 H locs ls hl hP hS hf
      rw [f_X12_letterHere_c2] at hf
      refine lv_iload_n hx hb dX12_letterHere_2 rfl (lv_at hl 1 rfl) ?_
      refine lv_aload_n hx hb dX12_letterHere_3 rfl (lv_at hl 0 rfl) ?_
      obtain ⟨r1, s2, h3, hf⟩ := zbd_some hf
      refine zcallV X hP hS hl.1 (k := 0) (As := []) (rest := [.int x2]) (cn_X12_letters h3) cw_X12_letters zp_12 rfl (by decide) rfl ml_X12_68 (by decide) rfl rfl (Nat.le_of_ble_eq_true rfl) dX12_letterHere_4 (fun H locs hP hS => ?_)
      refine zicmp_ge (tgt := 30) hx hb dX12_letterHere_7 (by decide) hf (fun hf => ?_) (fun hf => ?_)
      · refine lv_iconst (v := (-1)) hx hb dX12_letterHere_30 (by decide) ?_
        exact zret_i X hP hS hf rfl dX12_letterHere_31
      · refine lv_aload_n hx hb dX12_letterHere_10 rfl (lv_at hl 0 rfl) ?_
        obtain ⟨r4, s5, h6, hf⟩ := zbd_some hf
        refine zcallV X hP hS hl.1 (k := 0) (As := []) (rest := []) (cn_X12_here h6) cw_X12_here zp_12 rfl (by decide) rfl ml_X12_342 (by decide) rfl rfl (Nat.le_of_ble_eq_true rfl) dX12_letterHere_11 (fun H locs hP hS => ?_)
        refine lv_aload_n hx hb dX12_letterHere_14 rfl (lv_at hl 0 rfl) ?_
        refine lv_iload_n hx hb dX12_letterHere_15 rfl (lv_at hl 1 rfl) ?_
        obtain ⟨r7, s8, h9, hf⟩ := zbd_some hf
        refine zcallV X hP hS hl.1 (k := 0) (As := [.int x2]) (rest := [.int r4]) (cn_X12_nameOf h9) cw_X12_nameOf zp_12 rfl (by decide) rfl ml_X12_222 (by decide) rfl rfl (Nat.le_of_ble_eq_true rfl) dX12_letterHere_16 (fun H locs hP hS => ?_)
        refine zicmp_ne (tgt := 24) hx hb dX12_letterHere_19 (by decide) hf (fun hf => ?_) (fun hf => ?_)
        · refine lv_iinc (v := (x2 + 1)) (lv' := [(2, .int (x2 + 1)), (0, .ref (ad 0))]) hx hb dX12_letterHere_24 hl (k := 1) rfl rfl (by decide) rfl (fun ls hl => ?_)
          refine lv_goto (tgt := 2) hx hb dX12_letterHere_27 (by decide) ?_
          exact ih2 (x2 + 1) s8 _ _ _ (lv_sub hl [1, 0] rfl) hP hS hf
        · refine lv_iload_n hx hb dX12_letterHere_22 rfl (lv_at hl 1 rfl) ?_
          exact zret_i X hP hS hf rfl dX12_letterHere_23
  rw [f_X12_letterHere] at hf
  refine lv_iload_n hx hb dX12_letterHere_0 rfl (lv_at hl 1 rfl) ?_
  refine lv_istore_n (lv' := [(2, .int x1), (0, .ref (ad 0)), (1, .int x1)]) hx hb dX12_letterHere_1 rfl hl (by decide) rfl (fun ls hl => ?_)
  exact hc_2 ZF x1 s0 _ _ _ (lv_sub hl [1, 0] rfl) hP hS hf
theorem dX12_readPowers_0 : decode cX12_readPowers 0 = .ok (.iconst 0, 1) := by decide +kernel
theorem dX12_readPowers_1 : decode cX12_readPowers 1 = .ok (.istore_n 1, 1) := by decide +kernel
theorem dX12_readPowers_2 : decode cX12_readPowers 2 = .ok (.iconst 0, 1) := by decide +kernel
theorem dX12_readPowers_3 : decode cX12_readPowers 3 = .ok (.istore_n 2, 1) := by decide +kernel
theorem dX12_readPowers_4 : decode cX12_readPowers 4 = .ok (.aload_n 0, 1) := by decide +kernel
theorem dX12_readPowers_5 : decode cX12_readPowers 5 = .ok (.iconst 0, 1) := by decide +kernel
theorem dX12_readPowers_6 : decode cX12_readPowers 6 = .ok (.invokevirtual 349, 3) := by decide +kernel
theorem dX12_readPowers_9 : decode cX12_readPowers 9 = .ok (.istore_n 3, 1) := by decide +kernel
theorem dX12_readPowers_10 : decode cX12_readPowers 10 = .ok (.iload_n 3, 1) := by decide +kernel
theorem dX12_readPowers_11 : decode cX12_readPowers 11 = .ok (.ifCond .lt 177, 3) := by decide +kernel
theorem dX12_readPowers_14 : decode cX12_readPowers 14 = .ok (.aload_n 0, 1) := by decide +kernel
theorem dX12_readPowers_15 : decode cX12_readPowers 15 = .ok (.getfield 352, 3) := by decide +kernel
theorem dX12_readPowers_18 : decode cX12_readPowers 18 = .ok (.ifCond .ne 170, 3) := by decide +kernel
theorem dX12_readPowers_21 : decode cX12_readPowers 21 = .ok (.aload_n 0, 1) := by decide +kernel
theorem dX12_readPowers_22 : decode cX12_readPowers 22 = .ok (.iload_n 2, 1) := by decide +kernel
theorem dX12_readPowers_23 : decode cX12_readPowers 23 = .ok (.iconst 1, 1) := by decide +kernel
theorem dX12_readPowers_24 : decode cX12_readPowers 24 = .ok (.iadd, 1) := by decide +kernel
theorem dX12_readPowers_25 : decode cX12_readPowers 25 = .ok (.aload_n 0, 1) := by decide +kernel
theorem dX12_readPowers_26 : decode cX12_readPowers 26 = .ok (.getfield 27, 3) := by decide +kernel
theorem dX12_readPowers_29 : decode cX12_readPowers 29 = .ok (.if_icmp .le 7, 3) := by decide +kernel
theorem dX12_readPowers_32 : decode cX12_readPowers 32 = .ok (.iconst 1, 1) := by decide +kernel
theorem dX12_readPowers_33 : decode cX12_readPowers 33 = .ok (.goto 4, 3) := by decide +kernel
theorem dX12_readPowers_36 : decode cX12_readPowers 36 = .ok (.iconst 0, 1) := by decide +kernel
theorem dX12_readPowers_37 : decode cX12_readPowers 37 = .ok (.putfield 352, 3) := by decide +kernel
theorem dX12_readPowers_40 : decode cX12_readPowers 40 = .ok (.aload_n 0, 1) := by decide +kernel
theorem dX12_readPowers_41 : decode cX12_readPowers 41 = .ok (.getfield 352, 3) := by decide +kernel
theorem dX12_readPowers_44 : decode cX12_readPowers 44 = .ok (.ifCond .ne (-34), 3) := by decide +kernel
theorem dX12_readPowers_47 : decode cX12_readPowers 47 = .ok (.aload_n 0, 1) := by decide +kernel
theorem dX12_readPowers_48 : decode cX12_readPowers 48 = .ok (.dup, 1) := by decide +kernel
theorem dX12_readPowers_49 : decode cX12_readPowers 49 = .ok (.getfield 339, 3) := by decide +kernel
theorem dX12_readPowers_52 : decode cX12_readPowers 52 = .ok (.iconst 1, 1) := by decide +kernel
theorem dX12_readPowers_53 : decode cX12_readPowers 53 = .ok (.iadd, 1) := by decide +kernel
theorem dX12_readPowers_54 : decode cX12_readPowers 54 = .ok (.putfield 339, 3) := by decide +kernel
theorem dX12_readPowers_57 : decode cX12_readPowers 57 = .ok (.iconst 1, 1) := by decide +kernel
theorem dX12_readPowers_58 : decode cX12_readPowers 58 = .ok (.istore 4, 2) := by decide +kernel
theorem dX12_readPowers_60 : decode cX12_readPowers 60 = .ok (.aload_n 0, 1) := by decide +kernel
theorem dX12_readPowers_61 : decode cX12_readPowers 61 = .ok (.invokevirtual 342, 3) := by decide +kernel
theorem dX12_readPowers_64 : decode cX12_readPowers 64 = .ok (.bipush 94, 2) := by decide +kernel
theorem dX12_readPowers_66 : decode cX12_readPowers 66 = .ok (.if_icmp .ne 96, 3) := by decide +kernel
theorem dX12_readPowers_69 : decode cX12_readPowers 69 = .ok (.aload_n 0, 1) := by decide +kernel
theorem dX12_readPowers_70 : decode cX12_readPowers 70 = .ok (.dup, 1) := by decide +kernel
theorem dX12_readPowers_71 : decode cX12_readPowers 71 = .ok (.getfield 339, 3) := by decide +kernel
theorem dX12_readPowers_74 : decode cX12_readPowers 74 = .ok (.iconst 1, 1) := by decide +kernel
theorem dX12_readPowers_75 : decode cX12_readPowers 75 = .ok (.iadd, 1) := by decide +kernel
theorem dX12_readPowers_76 : decode cX12_readPowers 76 = .ok (.putfield 339, 3) := by decide +kernel
theorem dX12_readPowers_79 : decode cX12_readPowers 79 = .ok (.aload_n 0, 1) := by decide +kernel
theorem dX12_readPowers_80 : decode cX12_readPowers 80 = .ok (.aload_n 0, 1) := by decide +kernel
theorem dX12_readPowers_81 : decode cX12_readPowers 81 = .ok (.invokevirtual 342, 3) := by decide +kernel
theorem dX12_readPowers_84 : decode cX12_readPowers 84 = .ok (.i2l, 1) := by decide +kernel
theorem dX12_readPowers_85 : decode cX12_readPowers 85 = .ok (.ldc2_w 356, 3) := by decide +kernel
theorem dX12_readPowers_88 : decode cX12_readPowers 88 = .ok (.ldc2_w 358, 3) := by decide +kernel
theorem dX12_readPowers_91 : decode cX12_readPowers 91 = .ok (.invokestatic 203, 3) := by decide +kernel
theorem dX12_readPowers_94 : decode cX12_readPowers 94 = .ok (.ifCond .eq 19, 3) := by decide +kernel
theorem dX12_readPowers_97 : decode cX12_readPowers 97 = .ok (.iload_n 2, 1) := by decide +kernel
theorem dX12_readPowers_98 : decode cX12_readPowers 98 = .ok (.aload_n 0, 1) := by decide +kernel
theorem dX12_readPowers_99 : decode cX12_readPowers 99 = .ok (.invokevirtual 342, 3) := by decide +kernel
theorem dX12_readPowers_102 : decode cX12_readPowers 102 = .ok (.iadd, 1) := by decide +kernel
theorem dX12_readPowers_103 : decode cX12_readPowers 103 = .ok (.bipush 48, 2) := by decide +kernel
theorem dX12_readPowers_105 : decode cX12_readPowers 105 = .ok (.isub, 1) := by decide +kernel
theorem dX12_readPowers_106 : decode cX12_readPowers 106 = .ok (.aload_n 0, 1) := by decide +kernel
theorem dX12_readPowers_107 : decode cX12_readPowers 107 = .ok (.getfield 27, 3) := by decide +kernel
theorem dX12_readPowers_110 : decode cX12_readPowers 110 = .ok (.if_icmp .le 7, 3) := by decide +kernel
theorem dX12_readPowers_113 : decode cX12_readPowers 113 = .ok (.iconst 1, 1) := by decide +kernel
theorem dX12_readPowers_114 : decode cX12_readPowers 114 = .ok (.goto 4, 3) := by decide +kernel
theorem dX12_readPowers_117 : decode cX12_readPowers 117 = .ok (.iconst 0, 1) := by decide +kernel
theorem dX12_readPowers_118 : decode cX12_readPowers 118 = .ok (.putfield 352, 3) := by decide +kernel
theorem dX12_readPowers_121 : decode cX12_readPowers 121 = .ok (.aload_n 0, 1) := by decide +kernel
theorem dX12_readPowers_122 : decode cX12_readPowers 122 = .ok (.getfield 352, 3) := by decide +kernel
theorem dX12_readPowers_125 : decode cX12_readPowers 125 = .ok (.ifCond .eq 7, 3) := by decide +kernel
theorem dX12_readPowers_128 : decode cX12_readPowers 128 = .ok (.iconst 0, 1) := by decide +kernel
theorem dX12_readPowers_129 : decode cX12_readPowers 129 = .ok (.goto 10, 3) := by decide +kernel
theorem dX12_readPowers_132 : decode cX12_readPowers 132 = .ok (.aload_n 0, 1) := by decide +kernel
theorem dX12_readPowers_133 : decode cX12_readPowers 133 = .ok (.invokevirtual 342, 3) := by decide +kernel
theorem dX12_readPowers_136 : decode cX12_readPowers 136 = .ok (.bipush 48, 2) := by decide +kernel
theorem dX12_readPowers_138 : decode cX12_readPowers 138 = .ok (.isub, 1) := by decide +kernel
theorem dX12_readPowers_139 : decode cX12_readPowers 139 = .ok (.istore 4, 2) := by decide +kernel
theorem dX12_readPowers_141 : decode cX12_readPowers 141 = .ok (.aload_n 0, 1) := by decide +kernel
theorem dX12_readPowers_142 : decode cX12_readPowers 142 = .ok (.dup, 1) := by decide +kernel
theorem dX12_readPowers_143 : decode cX12_readPowers 143 = .ok (.getfield 339, 3) := by decide +kernel
theorem dX12_readPowers_146 : decode cX12_readPowers 146 = .ok (.aload_n 0, 1) := by decide +kernel
theorem dX12_readPowers_147 : decode cX12_readPowers 147 = .ok (.getfield 352, 3) := by decide +kernel
theorem dX12_readPowers_150 : decode cX12_readPowers 150 = .ok (.ifCond .eq 7, 3) := by decide +kernel
theorem dX12_readPowers_153 : decode cX12_readPowers 153 = .ok (.iconst 0, 1) := by decide +kernel
theorem dX12_readPowers_154 : decode cX12_readPowers 154 = .ok (.goto 4, 3) := by decide +kernel
theorem dX12_readPowers_157 : decode cX12_readPowers 157 = .ok (.iconst 1, 1) := by decide +kernel
theorem dX12_readPowers_158 : decode cX12_readPowers 158 = .ok (.iadd, 1) := by decide +kernel
theorem dX12_readPowers_159 : decode cX12_readPowers 159 = .ok (.putfield 339, 3) := by decide +kernel
theorem dX12_readPowers_162 : decode cX12_readPowers 162 = .ok (.iload_n 2, 1) := by decide +kernel
theorem dX12_readPowers_163 : decode cX12_readPowers 163 = .ok (.iload 4, 2) := by decide +kernel
theorem dX12_readPowers_165 : decode cX12_readPowers 165 = .ok (.iadd, 1) := by decide +kernel
theorem dX12_readPowers_166 : decode cX12_readPowers 166 = .ok (.istore_n 2, 1) := by decide +kernel
theorem dX12_readPowers_167 : decode cX12_readPowers 167 = .ok (.iload_n 1, 1) := by decide +kernel
theorem dX12_readPowers_168 : decode cX12_readPowers 168 = .ok (.iload 4, 2) := by decide +kernel
theorem dX12_readPowers_170 : decode cX12_readPowers 170 = .ok (.iload_n 3, 1) := by decide +kernel
theorem dX12_readPowers_171 : decode cX12_readPowers 171 = .ok (.invokestatic 15, 3) := by decide +kernel
theorem dX12_readPowers_174 : decode cX12_readPowers 174 = .ok (.imul, 1) := by decide +kernel
theorem dX12_readPowers_175 : decode cX12_readPowers 175 = .ok (.iadd, 1) := by decide +kernel
theorem dX12_readPowers_176 : decode cX12_readPowers 176 = .ok (.istore_n 1, 1) := by decide +kernel
theorem dX12_readPowers_177 : decode cX12_readPowers 177 = .ok (.aload_n 0, 1) := by decide +kernel
theorem dX12_readPowers_178 : decode cX12_readPowers 178 = .ok (.iload_n 3, 1) := by decide +kernel
theorem dX12_readPowers_179 : decode cX12_readPowers 179 = .ok (.iconst 1, 1) := by decide +kernel
theorem dX12_readPowers_180 : decode cX12_readPowers 180 = .ok (.iadd, 1) := by decide +kernel
theorem dX12_readPowers_181 : decode cX12_readPowers 181 = .ok (.invokevirtual 349, 3) := by decide +kernel
theorem dX12_readPowers_184 : decode cX12_readPowers 184 = .ok (.istore_n 3, 1) := by decide +kernel
theorem dX12_readPowers_185 : decode cX12_readPowers 185 = .ok (.goto (-175), 3) := by decide +kernel
theorem dX12_readPowers_188 : decode cX12_readPowers 188 = .ok (.iload_n 1, 1) := by decide +kernel
theorem dX12_readPowers_189 : decode cX12_readPowers 189 = .ok (.ireturn, 1) := by decide +kernel
set_option maxHeartbeats 4000000 in
set_option maxRecDepth 100000 in
theorem cn_X12_readPowers {l : Launch} {cA : Nat → ClassId} {ad : Nat → Nat} {D : va_G} {E : Nat → Nat} {A : Nat → Prop}  {s0 sr : SS} {rr : Int32} (hf : f_X12_readPowers s0 = some (rr, sr)) : zCon Om Nm cA ad D E l yX12_readPowers cX12_readPowers 5 (some .int) 2 A [.ref (ad 0)] s0 (some (.int rr)) sr := by
  refine zstart (own := RX12) hOm (by decide) rfl (Nat.le_of_ble_eq_true rfl) ?_
  intro p e s m args below meth c X hP ls hl
  have hx := X.1
  have hb := X.2.1
  have hl : lv_has ls 5 [(0, .ref (ad 0))] := hl
  have hS : va_S A s.heap s.heap [] := va_S.rf
  have hc_10 : ∀ (n10 : Nat) (x1 : Int32) (x2 : Int32) (x3 : Int32) (s1 : SS) (H : Heap) (locs : List Loc) (ls : Array Slot), lv_has ls 5 [(0, .ref (ad 0)), (1, .int x1), (2, .int x2), (3, .int x3)] → va_P D ZCL (zw Om Nm cA ad s1) H → va_S A s.heap H locs → f_X12_readPowers_c10 n10 x1 x2 x3 s1 = some (rr, sr) → W p l e (zrm 2) s m args below meth c H locs 0 0 (MQ below (zQc Om Nm cA ad D A (some (.int rr)) sr) args s 0 0 A) (F0 m 10 ls []) := by
    intro n10
    induction n10 with
    | zero =>
      intro x1 x2 x3 s1 H locs ls hl hP hS hf
      rw [f_X12_readPowers_c10] at hf
      cases hf
    | succ n10 ih10 =>
      have hc_162 : ∀ (x1 : Int32) (x2 : Int32) (x3 : Int32) (x4 : Int32) (s1 : SS) (H : Heap) (locs : List Loc) (ls : Array Slot), lv_has ls 5 [(0, .ref (ad 0)), (1, .int x1), (2, .int x2), (3, .int x3), (4, .int x4)] → va_P D ZCL (zw Om Nm cA ad s1) H → va_S A s.heap H locs → f_X12_readPowers_c162 (f_X12_readPowers_c10 n10) x1 x2 x3 x4 s1 = some (rr, sr) → W p l e (zrm 2) s m args below meth c H locs 0 0 (MQ below (zQc Om Nm cA ad D A (some (.int rr)) sr) args s 0 0 A) (F0 m 162 ls []) := by
        intro x1 x2 x3 x4 s1 H locs ls hl hP hS hf
        rw [f_X12_readPowers_c162] at hf
        refine lv_iload_n hx hb dX12_readPowers_162 rfl (lv_at hl 2 rfl) ?_
        refine lv_iload hx hb dX12_readPowers_163 (lv_at hl 4 rfl) ?_
        refine lv_iadd hx hb dX12_readPowers_165 ?_
        refine lv_istore_n (lv' := [(2, .int (x2 + x4)), (0, .ref (ad 0)), (1, .int x1), (3, .int x3), (4, .int x4)]) hx hb dX12_readPowers_166 rfl hl (by decide) rfl (fun ls hl => ?_)
        refine lv_iload_n hx hb dX12_readPowers_167 rfl (lv_at hl 2 rfl) ?_
        refine lv_iload hx hb dX12_readPowers_168 (lv_at hl 4 rfl) ?_
        refine lv_iload_n hx hb dX12_readPowers_170 rfl (lv_at hl 3 rfl) ?_
        obtain ⟨r8, s9, h10, hf⟩ := zbd_some hf
        refine zcallS X hP hS hl.1 (As := [.int x3]) (rest := [.int x4, .int x1]) (cn_X12_tens h10) cw_X12_tens ml_X12_15 (by decide) rfl rfl (Nat.le_of_ble_eq_true rfl) dX12_readPowers_171 (fun H locs hP hS => ?_)
        refine lv_imul hx hb dX12_readPowers_174 ?_
        refine lv_iadd hx hb dX12_readPowers_175 ?_
        refine lv_istore_n (lv' := [(1, .int (x1 + (x4 * r8))), (2, .int (x2 + x4)), (0, .ref (ad 0)), (3, .int x3), (4, .int x4)]) hx hb dX12_readPowers_176 rfl hl (by decide) rfl (fun ls hl => ?_)
        refine lv_aload_n hx hb dX12_readPowers_177 rfl (lv_at hl 2 rfl) ?_
        refine lv_iload_n hx hb dX12_readPowers_178 rfl (lv_at hl 3 rfl) ?_
        refine lv_iconst (v := 1) hx hb dX12_readPowers_179 (by decide) ?_
        refine lv_iadd hx hb dX12_readPowers_180 ?_
        obtain ⟨r11, s12, h13, hf⟩ := zbd_some hf
        refine zcallV X hP hS hl.1 (k := 0) (As := [.int (x3 + (1 : Int32))]) (rest := []) (cn_X12_letterHere h13) cw_X12_letterHere zp_12 rfl (by decide) rfl ml_X12_349 (by decide) rfl rfl (Nat.le_of_ble_eq_true rfl) dX12_readPowers_181 (fun H locs hP hS => ?_)
        refine lv_istore_n (lv' := [(3, .int r11), (1, .int (x1 + (x4 * r8))), (2, .int (x2 + x4)), (0, .ref (ad 0)), (4, .int x4)]) hx hb dX12_readPowers_184 rfl hl (by decide) rfl (fun ls hl => ?_)
        refine lv_goto (tgt := 10) hx hb dX12_readPowers_185 (by decide) ?_
        exact ih10 (x1 + (x4 * r8)) (x2 + x4) r11 s12 _ _ _ (lv_sub hl [3, 1, 2, 0] rfl) hP hS hf
      have hc_158 : ∀ (x1 : Int32) (x2 : Int32) (x3 : Int32) (x4 : Int32) (t0 : Int32) (t1 : Int32) (s1 : SS) (H : Heap) (locs : List Loc) (ls : Array Slot), lv_has ls 5 [(0, .ref (ad 0)), (1, .int x1), (2, .int x2), (3, .int x3), (4, .int x4)] → va_P D ZCL (zw Om Nm cA ad s1) H → va_S A s.heap H locs → f_X12_readPowers_c158 (f_X12_readPowers_c10 n10) x1 x2 x3 x4 t0 t1 s1 = some (rr, sr) → W p l e (zrm 2) s m args below meth c H locs 0 0 (MQ below (zQc Om Nm cA ad D A (some (.int rr)) sr) args s 0 0 A) (F0 m 158 ls [.int t0, .int t1, .ref (ad 0)]) := by
        intro x1 x2 x3 x4 t0 t1 s1 H locs ls hl hP hS hf
        rw [f_X12_readPowers_c158] at hf
        refine lv_iadd hx hb dX12_readPowers_158 ?_
        refine pf_X12_339 X hP hS (k := 0) rfl dX12_readPowers_159 (fun H locs hP hS => ?_)
        exact hc_162 x1 x2 x3 x4 (zS s1 0 52 (t1 + t0)) _ _ _ (lv_sub hl [0, 1, 2, 3, 4] rfl) hP hS hf
      have hc_139 : ∀ (x1 : Int32) (x2 : Int32) (x3 : Int32) (t0 : Int32) (s1 : SS) (H : Heap) (locs : List Loc) (ls : Array Slot), lv_has ls 5 [(0, .ref (ad 0)), (1, .int x1), (2, .int x2), (3, .int x3)] → va_P D ZCL (zw Om Nm cA ad s1) H → va_S A s.heap H locs → f_X12_readPowers_c139 (f_X12_readPowers_c10 n10) x1 x2 x3 t0 s1 = some (rr, sr) → W p l e (zrm 2) s m args below meth c H locs 0 0 (MQ below (zQc Om Nm cA ad D A (some (.int rr)) sr) args s 0 0 A) (F0 m 139 ls [.int t0]) := by
        intro x1 x2 x3 t0 s1 H locs ls hl hP hS hf
        rw [f_X12_readPowers_c139] at hf
        refine lv_istore (lv' := [(4, .int t0), (0, .ref (ad 0)), (1, .int x1), (2, .int x2), (3, .int x3)]) hx hb dX12_readPowers_139 hl (by decide) rfl (fun ls hl => ?_)
        refine lv_aload_n hx hb dX12_readPowers_141 rfl (lv_at hl 1 rfl) ?_
        refine lv_dup hx hb dX12_readPowers_142 rfl ?_
        refine gf_X12_339 X hP (k := 0) rfl dX12_readPowers_143 ?_
        refine lv_aload_n hx hb dX12_readPowers_146 rfl (lv_at hl 1 rfl) ?_
        refine gf_X12_352 X hP (k := 0) rfl dX12_readPowers_147 ?_
        refine zif_eq (tgt := 157) hx hb dX12_readPowers_150 (by decide) hf (fun hf => ?_) (fun hf => ?_)
        · refine lv_iconst (v := 1) hx hb dX12_readPowers_157 (by decide) ?_
          exact hc_158 x1 x2 x3 t0 1 (s1.1 0 52) s1 _ _ _ (lv_sub hl [1, 2, 3, 4, 0] rfl) hP hS hf
        · refine lv_iconst (v := 0) hx hb dX12_readPowers_153 (by decide) ?_
          refine lv_goto (tgt := 158) hx hb dX12_readPowers_154 (by decide) ?_
          exact hc_158 x1 x2 x3 t0 0 (s1.1 0 52) s1 _ _ _ (lv_sub hl [1, 2, 3, 4, 0] rfl) hP hS hf
      have hc_118 : ∀ (x1 : Int32) (x2 : Int32) (x3 : Int32) (t0 : Int32) (s1 : SS) (H : Heap) (locs : List Loc) (ls : Array Slot), lv_has ls 5 [(0, .ref (ad 0)), (1, .int x1), (2, .int x2), (3, .int x3)] → va_P D ZCL (zw Om Nm cA ad s1) H → va_S A s.heap H locs → f_X12_readPowers_c118 (f_X12_readPowers_c10 n10) x1 x2 x3 t0 s1 = some (rr, sr) → W p l e (zrm 2) s m args below meth c H locs 0 0 (MQ below (zQc Om Nm cA ad D A (some (.int rr)) sr) args s 0 0 A) (F0 m 118 ls [.int t0, .ref (ad 0)]) := by
        intro x1 x2 x3 t0 s1 H locs ls hl hP hS hf
        rw [f_X12_readPowers_c118] at hf
        obtain ⟨b20, hf⟩ := zgd hf
        refine pf_X12_352 X hP hS (k := 0) rfl b20 dX12_readPowers_118 (fun H locs hP hS => ?_)
        refine lv_aload_n hx hb dX12_readPowers_121 rfl (lv_at hl 0 rfl) ?_
        refine gf_X12_352 X hP (k := 0) rfl dX12_readPowers_122 ?_
        refine zif_eq (tgt := 132) hx hb dX12_readPowers_125 (by decide) hf (fun hf => ?_) (fun hf => ?_)
        · refine lv_aload_n hx hb dX12_readPowers_132 rfl (lv_at hl 0 rfl) ?_
          obtain ⟨r21, s22, h23, hf⟩ := zbd_some hf
          refine zcallV X hP hS hl.1 (k := 0) (As := []) (rest := []) (cn_X12_here h23) cw_X12_here zp_12 rfl (by decide) rfl ml_X12_342 (by decide) rfl rfl (Nat.le_of_ble_eq_true rfl) dX12_readPowers_133 (fun H locs hP hS => ?_)
          refine lv_bipush (v := 48) hx hb dX12_readPowers_136 (by decide) ?_
          refine lv_isub hx hb dX12_readPowers_138 ?_
          exact hc_139 x1 x2 x3 (r21 - (48 : Int32)) s22 _ _ _ (lv_sub hl [0, 1, 2, 3] rfl) hP hS hf
        · refine lv_iconst (v := 0) hx hb dX12_readPowers_128 (by decide) ?_
          refine lv_goto (tgt := 139) hx hb dX12_readPowers_129 (by decide) ?_
          exact hc_139 x1 x2 x3 0 (zS s1 0 53 t0) _ _ _ (lv_sub hl [0, 1, 2, 3] rfl) hP hS hf
      have hc_113 : ∀ (x1 : Int32) (x2 : Int32) (x3 : Int32) (s1 : SS) (H : Heap) (locs : List Loc) (ls : Array Slot), lv_has ls 5 [(0, .ref (ad 0)), (1, .int x1), (2, .int x2), (3, .int x3)] → va_P D ZCL (zw Om Nm cA ad s1) H → va_S A s.heap H locs → f_X12_readPowers_c113 (f_X12_readPowers_c10 n10) x1 x2 x3 s1 = some (rr, sr) → W p l e (zrm 2) s m args below meth c H locs 0 0 (MQ below (zQc Om Nm cA ad D A (some (.int rr)) sr) args s 0 0 A) (F0 m 113 ls [.ref (ad 0)]) := by
        intro x1 x2 x3 s1 H locs ls hl hP hS hf
        rw [f_X12_readPowers_c113] at hf
        refine lv_iconst (v := 1) hx hb dX12_readPowers_113 (by decide) ?_
        refine lv_goto (tgt := 118) hx hb dX12_readPowers_114 (by decide) ?_
        exact hc_118 x1 x2 x3 1 s1 _ _ _ (lv_sub hl [0, 1, 2, 3] rfl) hP hS hf
      have hc_37 : ∀ (x1 : Int32) (x2 : Int32) (x3 : Int32) (t0 : Int32) (s1 : SS) (H : Heap) (locs : List Loc) (ls : Array Slot), lv_has ls 5 [(0, .ref (ad 0)), (1, .int x1), (2, .int x2), (3, .int x3)] → va_P D ZCL (zw Om Nm cA ad s1) H → va_S A s.heap H locs → f_X12_readPowers_c37 (f_X12_readPowers_c10 n10) x1 x2 x3 t0 s1 = some (rr, sr) → W p l e (zrm 2) s m args below meth c H locs 0 0 (MQ below (zQc Om Nm cA ad D A (some (.int rr)) sr) args s 0 0 A) (F0 m 37 ls [.int t0, .ref (ad 0)]) := by
        intro x1 x2 x3 t0 s1 H locs ls hl hP hS hf
        rw [f_X12_readPowers_c37] at hf
        obtain ⟨b4, hf⟩ := zgd hf
        refine pf_X12_352 X hP hS (k := 0) rfl b4 dX12_readPowers_37 (fun H locs hP hS => ?_)
        refine lv_aload_n hx hb dX12_readPowers_40 rfl (lv_at hl 0 rfl) ?_
        refine gf_X12_352 X hP (k := 0) rfl dX12_readPowers_41 ?_
        refine zif_ne (tgt := 10) hx hb dX12_readPowers_44 (by decide) hf (fun hf => ?_) (fun hf => ?_)
        · exact ih10 x1 x2 x3 (zS s1 0 53 t0) _ _ _ (lv_sub hl [0, 1, 2, 3] rfl) hP hS hf
        · refine lv_aload_n hx hb dX12_readPowers_47 rfl (lv_at hl 0 rfl) ?_
          refine lv_dup hx hb dX12_readPowers_48 rfl ?_
          refine gf_X12_339 X hP (k := 0) rfl dX12_readPowers_49 ?_
          refine lv_iconst (v := 1) hx hb dX12_readPowers_52 (by decide) ?_
          refine lv_iadd hx hb dX12_readPowers_53 ?_
          refine pf_X12_339 X hP hS (k := 0) rfl dX12_readPowers_54 (fun H locs hP hS => ?_)
          refine lv_iconst (v := 1) hx hb dX12_readPowers_57 (by decide) ?_
          refine lv_istore (lv' := [(4, .int 1), (0, .ref (ad 0)), (1, .int x1), (2, .int x2), (3, .int x3)]) hx hb dX12_readPowers_58 hl (by decide) rfl (fun ls hl => ?_)
          refine lv_aload_n hx hb dX12_readPowers_60 rfl (lv_at hl 1 rfl) ?_
          obtain ⟨r5, s6, h7, hf⟩ := zbd_some hf
          refine zcallV X hP hS hl.1 (k := 0) (As := []) (rest := []) (cn_X12_here h7) cw_X12_here zp_12 rfl (by decide) rfl ml_X12_342 (by decide) rfl rfl (Nat.le_of_ble_eq_true rfl) dX12_readPowers_61 (fun H locs hP hS => ?_)
          refine lv_bipush (v := 94) hx hb dX12_readPowers_64 (by decide) ?_
          refine zicmp_ne (tgt := 162) hx hb dX12_readPowers_66 (by decide) hf (fun hf => ?_) (fun hf => ?_)
          · exact hc_162 x1 x2 x3 1 s6 _ _ _ (lv_sub hl [1, 2, 3, 4, 0] rfl) hP hS hf
          · refine lv_aload_n hx hb dX12_readPowers_69 rfl (lv_at hl 1 rfl) ?_
            refine lv_dup hx hb dX12_readPowers_70 rfl ?_
            refine gf_X12_339 X hP (k := 0) rfl dX12_readPowers_71 ?_
            refine lv_iconst (v := 1) hx hb dX12_readPowers_74 (by decide) ?_
            refine lv_iadd hx hb dX12_readPowers_75 ?_
            refine pf_X12_339 X hP hS (k := 0) rfl dX12_readPowers_76 (fun H locs hP hS => ?_)
            refine lv_aload_n hx hb dX12_readPowers_79 rfl (lv_at hl 1 rfl) ?_
            refine lv_aload_n hx hb dX12_readPowers_80 rfl (lv_at hl 1 rfl) ?_
            obtain ⟨r14, s15, h16, hf⟩ := zbd_some hf
            refine zcallV X hP hS hl.1 (k := 0) (As := []) (rest := [.ref (ad 0)]) (cn_X12_here h16) cw_X12_here zp_12 rfl (by decide) rfl ml_X12_342 (by decide) rfl rfl (Nat.le_of_ble_eq_true rfl) dX12_readPowers_81 (fun H locs hP hS => ?_)
            refine lv_i2l hx hb dX12_readPowers_84 rfl ?_
            refine zldc2 X co_X12_356 dX12_readPowers_85 ?_
            refine zldc2 X co_X12_358 dX12_readPowers_88 ?_
            obtain ⟨r17, s18, h19, hf⟩ := zbd_some hf
            refine zcallS X hP hS hl.1 (As := [.long (r14).toInt64, .long 49, .long 53]) (rest := [.ref (ad 0)]) (cn_X12_in h19) cw_X12_in ml_X12_203 (by decide) rfl rfl (Nat.le_of_ble_eq_true rfl) dX12_readPowers_91 (fun H locs hP hS => ?_)
            refine zif_eq (tgt := 113) hx hb dX12_readPowers_94 (by decide) hf (fun hf => ?_) (fun hf => ?_)
            · exact hc_113 x1 x2 x3 s18 _ _ _ (lv_sub hl [1, 2, 3, 4] rfl) hP hS hf
            · refine lv_iload_n hx hb dX12_readPowers_97 rfl (lv_at hl 3 rfl) ?_
              refine lv_aload_n hx hb dX12_readPowers_98 rfl (lv_at hl 1 rfl) ?_
              obtain ⟨r24, s25, h26, hf⟩ := zbd_some hf
              refine zcallV X hP hS hl.1 (k := 0) (As := []) (rest := [.int x2, .ref (ad 0)]) (cn_X12_here h26) cw_X12_here zp_12 rfl (by decide) rfl ml_X12_342 (by decide) rfl rfl (Nat.le_of_ble_eq_true rfl) dX12_readPowers_99 (fun H locs hP hS => ?_)
              refine lv_iadd hx hb dX12_readPowers_102 ?_
              refine lv_bipush (v := 48) hx hb dX12_readPowers_103 (by decide) ?_
              refine lv_isub hx hb dX12_readPowers_105 ?_
              refine lv_aload_n hx hb dX12_readPowers_106 rfl (lv_at hl 1 rfl) ?_
              refine gf_X12_27 X hP (k := 0) rfl dX12_readPowers_107 ?_
              refine zicmp_le (tgt := 117) hx hb dX12_readPowers_110 (by decide) hf (fun hf => ?_) (fun hf => ?_)
              · refine lv_iconst (v := 0) hx hb dX12_readPowers_117 (by decide) ?_
                exact hc_118 x1 x2 x3 0 s25 _ _ _ (lv_sub hl [1, 2, 3, 4] rfl) hP hS hf
              · exact hc_113 x1 x2 x3 s25 _ _ _ (lv_sub hl [1, 2, 3, 4] rfl) hP hS hf
      intro x1 x2 x3 s1 H locs ls hl hP hS hf
      rw [f_X12_readPowers_c10] at hf
      refine lv_iload_n hx hb dX12_readPowers_10 rfl (lv_at hl 3 rfl) ?_
      refine zif_lt (tgt := 188) hx hb dX12_readPowers_11 (by decide) hf (fun hf => ?_) (fun hf => ?_)
      · refine lv_iload_n hx hb dX12_readPowers_188 rfl (lv_at hl 1 rfl) ?_
        exact zret_i X hP hS hf rfl dX12_readPowers_189
      · refine lv_aload_n hx hb dX12_readPowers_14 rfl (lv_at hl 0 rfl) ?_
        refine gf_X12_352 X hP (k := 0) rfl dX12_readPowers_15 ?_
        refine zif_ne (tgt := 188) hx hb dX12_readPowers_18 (by decide) hf (fun hf => ?_) (fun hf => ?_)
        · refine lv_iload_n hx hb dX12_readPowers_188 rfl (lv_at hl 1 rfl) ?_
          exact zret_i X hP hS hf rfl dX12_readPowers_189
        · refine lv_aload_n hx hb dX12_readPowers_21 rfl (lv_at hl 0 rfl) ?_
          refine lv_iload_n hx hb dX12_readPowers_22 rfl (lv_at hl 2 rfl) ?_
          refine lv_iconst (v := 1) hx hb dX12_readPowers_23 (by decide) ?_
          refine lv_iadd hx hb dX12_readPowers_24 ?_
          refine lv_aload_n hx hb dX12_readPowers_25 rfl (lv_at hl 0 rfl) ?_
          refine gf_X12_27 X hP (k := 0) rfl dX12_readPowers_26 ?_
          refine zicmp_le (tgt := 36) hx hb dX12_readPowers_29 (by decide) hf (fun hf => ?_) (fun hf => ?_)
          · refine lv_iconst (v := 0) hx hb dX12_readPowers_36 (by decide) ?_
            exact hc_37 x1 x2 x3 0 s1 _ _ _ (lv_sub hl [0, 1, 2, 3] rfl) hP hS hf
          · refine lv_iconst (v := 1) hx hb dX12_readPowers_32 (by decide) ?_
            refine lv_goto (tgt := 37) hx hb dX12_readPowers_33 (by decide) ?_
            exact hc_37 x1 x2 x3 1 s1 _ _ _ (lv_sub hl [0, 1, 2, 3] rfl) hP hS hf
  rw [f_X12_readPowers] at hf
  refine lv_iconst (v := 0) hx hb dX12_readPowers_0 (by decide) ?_
  refine lv_istore_n (lv' := [(1, .int 0), (0, .ref (ad 0))]) hx hb dX12_readPowers_1 rfl hl (by decide) rfl (fun ls hl => ?_)
  refine lv_iconst (v := 0) hx hb dX12_readPowers_2 (by decide) ?_
  refine lv_istore_n (lv' := [(2, .int 0), (1, .int 0), (0, .ref (ad 0))]) hx hb dX12_readPowers_3 rfl hl (by decide) rfl (fun ls hl => ?_)
  refine lv_aload_n hx hb dX12_readPowers_4 rfl (lv_at hl 2 rfl) ?_
  refine lv_iconst (v := 0) hx hb dX12_readPowers_5 (by decide) ?_
  obtain ⟨r1, s2, h3, hf⟩ := zbd_some hf
  refine zcallV X hP hS hl.1 (k := 0) (As := [.int 0]) (rest := []) (cn_X12_letterHere h3) cw_X12_letterHere zp_12 rfl (by decide) rfl ml_X12_349 (by decide) rfl rfl (Nat.le_of_ble_eq_true rfl) dX12_readPowers_6 (fun H locs hP hS => ?_)
  refine lv_istore_n (lv' := [(3, .int r1), (2, .int 0), (1, .int 0), (0, .ref (ad 0))]) hx hb dX12_readPowers_9 rfl hl (by decide) rfl (fun ls hl => ?_)
  exact hc_10 ZF 0 0 r1 s2 _ _ _ (lv_sub hl [3, 2, 1, 0] rfl) hP hS hf
theorem dX12_readMember_0 : decode cX12_readMember 0 = .ok (.lconst 0, 1) := by decide +kernel
theorem dX12_readMember_1 : decode cX12_readMember 1 = .ok (.lstore_n 3, 1) := by decide +kernel
theorem dX12_readMember_2 : decode cX12_readMember 2 = .ok (.iconst 0, 1) := by decide +kernel
theorem dX12_readMember_3 : decode cX12_readMember 3 = .ok (.istore 5, 2) := by decide +kernel
theorem dX12_readMember_5 : decode cX12_readMember 5 = .ok (.iload 5, 2) := by decide +kernel
theorem dX12_readMember_7 : decode cX12_readMember 7 = .ok (.iconst 4, 1) := by decide +kernel
theorem dX12_readMember_8 : decode cX12_readMember 8 = .ok (.if_icmp .ge 42, 3) := by decide +kernel
theorem dX12_readMember_11 : decode cX12_readMember 11 = .ok (.aload_n 0, 1) := by decide +kernel
theorem dX12_readMember_12 : decode cX12_readMember 12 = .ok (.invokevirtual 360, 3) := by decide +kernel
theorem dX12_readMember_15 : decode cX12_readMember 15 = .ok (.ifCond .eq 35, 3) := by decide +kernel
theorem dX12_readMember_18 : decode cX12_readMember 18 = .ok (.ldc2_w 363, 3) := by decide +kernel
theorem dX12_readMember_21 : decode cX12_readMember 21 = .ok (.lload_n 3, 1) := by decide +kernel
theorem dX12_readMember_22 : decode cX12_readMember 22 = .ok (.lmul, 1) := by decide +kernel
theorem dX12_readMember_23 : decode cX12_readMember 23 = .ok (.aload_n 0, 1) := by decide +kernel
theorem dX12_readMember_24 : decode cX12_readMember 24 = .ok (.invokevirtual 342, 3) := by decide +kernel
theorem dX12_readMember_27 : decode cX12_readMember 27 = .ok (.i2l, 1) := by decide +kernel
theorem dX12_readMember_28 : decode cX12_readMember 28 = .ok (.ladd, 1) := by decide +kernel
theorem dX12_readMember_29 : decode cX12_readMember 29 = .ok (.ldc2_w 345, 3) := by decide +kernel
theorem dX12_readMember_32 : decode cX12_readMember 32 = .ok (.lsub, 1) := by decide +kernel
theorem dX12_readMember_33 : decode cX12_readMember 33 = .ok (.lstore_n 3, 1) := by decide +kernel
theorem dX12_readMember_34 : decode cX12_readMember 34 = .ok (.iinc 5 1, 3) := by decide +kernel
theorem dX12_readMember_37 : decode cX12_readMember 37 = .ok (.aload_n 0, 1) := by decide +kernel
theorem dX12_readMember_38 : decode cX12_readMember 38 = .ok (.dup, 1) := by decide +kernel
theorem dX12_readMember_39 : decode cX12_readMember 39 = .ok (.getfield 339, 3) := by decide +kernel
theorem dX12_readMember_42 : decode cX12_readMember 42 = .ok (.iconst 1, 1) := by decide +kernel
theorem dX12_readMember_43 : decode cX12_readMember 43 = .ok (.iadd, 1) := by decide +kernel
theorem dX12_readMember_44 : decode cX12_readMember 44 = .ok (.putfield 339, 3) := by decide +kernel
theorem dX12_readMember_47 : decode cX12_readMember 47 = .ok (.goto (-42), 3) := by decide +kernel
theorem dX12_readMember_50 : decode cX12_readMember 50 = .ok (.iload 5, 2) := by decide +kernel
theorem dX12_readMember_52 : decode cX12_readMember 52 = .ok (.ifCond .ne 17, 3) := by decide +kernel
theorem dX12_readMember_55 : decode cX12_readMember 55 = .ok (.aload_n 0, 1) := by decide +kernel
theorem dX12_readMember_56 : decode cX12_readMember 56 = .ok (.iconst 0, 1) := by decide +kernel
theorem dX12_readMember_57 : decode cX12_readMember 57 = .ok (.invokevirtual 349, 3) := by decide +kernel
theorem dX12_readMember_60 : decode cX12_readMember 60 = .ok (.ifCond .ge 9, 3) := by decide +kernel
theorem dX12_readMember_63 : decode cX12_readMember 63 = .ok (.aload_n 0, 1) := by decide +kernel
theorem dX12_readMember_64 : decode cX12_readMember 64 = .ok (.iconst 1, 1) := by decide +kernel
theorem dX12_readMember_65 : decode cX12_readMember 65 = .ok (.putfield 352, 3) := by decide +kernel
theorem dX12_readMember_68 : decode cX12_readMember 68 = .ok (.return_, 1) := by decide +kernel
theorem dX12_readMember_69 : decode cX12_readMember 69 = .ok (.aload_n 0, 1) := by decide +kernel
theorem dX12_readMember_70 : decode cX12_readMember 70 = .ok (.invokevirtual 365, 3) := by decide +kernel
theorem dX12_readMember_73 : decode cX12_readMember 73 = .ok (.istore 6, 2) := by decide +kernel
theorem dX12_readMember_75 : decode cX12_readMember 75 = .ok (.aload_n 0, 1) := by decide +kernel
theorem dX12_readMember_76 : decode cX12_readMember 76 = .ok (.getfield 352, 3) := by decide +kernel
theorem dX12_readMember_79 : decode cX12_readMember 79 = .ok (.ifCond .ne 30, 3) := by decide +kernel
theorem dX12_readMember_82 : decode cX12_readMember 82 = .ok (.aload_n 0, 1) := by decide +kernel
theorem dX12_readMember_83 : decode cX12_readMember 83 = .ok (.getfield 117, 3) := by decide +kernel
theorem dX12_readMember_86 : decode cX12_readMember 86 = .ok (.aload_n 0, 1) := by decide +kernel
theorem dX12_readMember_87 : decode cX12_readMember 87 = .ok (.getfield 65, 3) := by decide +kernel
theorem dX12_readMember_90 : decode cX12_readMember 90 = .ok (.iload 6, 2) := by decide +kernel
theorem dX12_readMember_92 : decode cX12_readMember 92 = .ok (.iaload, 1) := by decide +kernel
theorem dX12_readMember_93 : decode cX12_readMember 93 = .ok (.dup2, 1) := by decide +kernel
theorem dX12_readMember_94 : decode cX12_readMember 94 = .ok (.laload, 1) := by decide +kernel
theorem dX12_readMember_95 : decode cX12_readMember 95 = .ok (.lload_n 1, 1) := by decide +kernel
theorem dX12_readMember_96 : decode cX12_readMember 96 = .ok (.iload 5, 2) := by decide +kernel
theorem dX12_readMember_98 : decode cX12_readMember 98 = .ok (.ifCond .ne 7, 3) := by decide +kernel
theorem dX12_readMember_101 : decode cX12_readMember 101 = .ok (.lconst 1, 1) := by decide +kernel
theorem dX12_readMember_102 : decode cX12_readMember 102 = .ok (.goto 4, 3) := by decide +kernel
theorem dX12_readMember_105 : decode cX12_readMember 105 = .ok (.lload_n 3, 1) := by decide +kernel
theorem dX12_readMember_106 : decode cX12_readMember 106 = .ok (.lmul, 1) := by decide +kernel
theorem dX12_readMember_107 : decode cX12_readMember 107 = .ok (.ladd, 1) := by decide +kernel
theorem dX12_readMember_108 : decode cX12_readMember 108 = .ok (.lastore, 1) := by decide +kernel
theorem dX12_readMember_109 : decode cX12_readMember 109 = .ok (.return_, 1) := by decide +kernel
set_option maxHeartbeats 4000000 in
set_option maxRecDepth 100000 in
theorem cn_X12_readMember {l : Launch} {cA : Nat → ClassId} {ad : Nat → Nat} {D : va_G} {E : Nat → Nat} {A : Nat → Prop} {x1 : Int64} {s0 sr : SS} {rr : Unit} (hf : f_X12_readMember x1 s0 = some (rr, sr)) : zCon Om Nm cA ad D E l yX12_readMember cX12_readMember 7 none 3 A [.ref (ad 0), .long x1] s0 none sr := by
  refine zstart (own := RX12) hOm (by decide) rfl (Nat.le_of_ble_eq_true rfl) ?_
  intro p e s m args below meth c X hP ls hl
  have hx := X.1
  have hb := X.2.1
  have hl : lv_has ls 7 [(0, .ref (ad 0)), (1, .long x1)] := hl
  have hS : va_S A s.heap s.heap [] := va_S.rf
  have hc_5 : ∀ (n5 : Nat) (x1 : Int64) (x3 : Int64) (x5 : Int32) (s1 : SS) (H : Heap) (locs : List Loc) (ls : Array Slot), lv_has ls 7 [(0, .ref (ad 0)), (1, .long x1), (3, .long x3), (5, .int x5)] → va_P D ZCL (zw Om Nm cA ad s1) H → va_S A s.heap H locs → f_X12_readMember_c5 n5 x1 x3 x5 s1 = some (rr, sr) → W p l e (zrm 3) s m args below meth c H locs 0 0 (MQ below (zQc Om Nm cA ad D A none sr) args s 0 0 A) (F0 m 5 ls []) := by
    intro n5
    induction n5 with
    | zero =>
      intro x1 x3 x5 s1 H locs ls hl hP hS hf
      rw [f_X12_readMember_c5] at hf
      cases hf
    | succ n5 ih5 =>
      have hc_106 : ∀ (t0 : Int64) (t1 : Int64) (t2 : Int64) (t3 : Int32) (s1 : SS) (H : Heap) (locs : List Loc) (ls : Array Slot), lv_has ls 7 [] → va_P D ZCL (zw Om Nm cA ad s1) H → va_S A s.heap H locs → f_X12_readMember_c106 t0 t1 t2 t3 s1 = some (rr, sr) → W p l e (zrm 3) s m args below meth c H locs 0 0 (MQ below (zQc Om Nm cA ad D A none sr) args s 0 0 A) (F0 m 106 ls [.long t0, .long t1, .long t2, .int t3, .ref (ad 15)]) := by
        intro t0 t1 t2 t3 s1 H locs ls hl hP hS hf
        rw [f_X12_readMember_c106] at hf
        refine lv_lmul hx hb dX12_readMember_106 ?_
        refine lv_ladd hx hb dX12_readMember_107 ?_
        obtain ⟨g6, hf⟩ := zgd hf
        refine zast_l X hP hS (k := 15) (n := 462) (rs := []) rfl g6 dX12_readMember_108 (fun H locs hP hS => ?_)
        exact zret_v X hP hS hf dX12_readMember_109
      have hc_69 : ∀ (x1 : Int64) (x3 : Int64) (x5 : Int32) (s1 : SS) (H : Heap) (locs : List Loc) (ls : Array Slot), lv_has ls 7 [(0, .ref (ad 0)), (1, .long x1), (3, .long x3), (5, .int x5)] → va_P D ZCL (zw Om Nm cA ad s1) H → va_S A s.heap H locs → f_X12_readMember_c69 x1 x3 x5 s1 = some (rr, sr) → W p l e (zrm 3) s m args below meth c H locs 0 0 (MQ below (zQc Om Nm cA ad D A none sr) args s 0 0 A) (F0 m 69 ls []) := by
        intro x1 x3 x5 s1 H locs ls hl hP hS hf
        rw [f_X12_readMember_c69] at hf
        refine lv_aload_n hx hb dX12_readMember_69 rfl (lv_at hl 0 rfl) ?_
        obtain ⟨r1, s2, h3, hf⟩ := zbd_some hf
        refine zcallV X hP hS hl.1 (k := 0) (As := []) (rest := []) (cn_X12_readPowers h3) cw_X12_readPowers zp_12 rfl (by decide) rfl ml_X12_365 (by decide) rfl rfl (Nat.le_of_ble_eq_true rfl) dX12_readMember_70 (fun H locs hP hS => ?_)
        refine lv_istore (lv' := [(6, .int r1), (0, .ref (ad 0)), (1, .long x1), (3, .long x3), (5, .int x5)]) hx hb dX12_readMember_73 hl (by decide) rfl (fun ls hl => ?_)
        refine lv_aload_n hx hb dX12_readMember_75 rfl (lv_at hl 1 rfl) ?_
        refine gf_X12_352 X hP (k := 0) rfl dX12_readMember_76 ?_
        refine zif_ne (tgt := 109) hx hb dX12_readMember_79 (by decide) hf (fun hf => ?_) (fun hf => ?_)
        · exact zret_v X hP hS hf dX12_readMember_109
        · refine lv_aload_n hx hb dX12_readMember_82 rfl (lv_at hl 1 rfl) ?_
          refine gf_X12_117 X hP (k := 0) (q := 15) rfl dX12_readMember_83 rfl ?_
          refine lv_aload_n hx hb dX12_readMember_86 rfl (lv_at hl 1 rfl) ?_
          refine gf_X12_65 X hP (k := 0) (q := 7) rfl dX12_readMember_87 rfl ?_
          refine lv_iload hx hb dX12_readMember_90 (lv_at hl 0 rfl) ?_
          obtain ⟨g4, hf⟩ := zgd hf
          refine zald_i X hP (k := 7) (n := 600000) (rs := []) rfl g4 dX12_readMember_92 ?_
          refine lv_dup2_11 hx hb dX12_readMember_93 rfl rfl ?_
          obtain ⟨g5, hf⟩ := zgd hf
          refine zald_l X hP (k := 15) (n := 462) (rs := []) rfl g5 dX12_readMember_94 ?_
          refine lv_lload_n hx hb dX12_readMember_95 rfl (lv_at hl 2 rfl) ?_
          refine lv_iload hx hb dX12_readMember_96 (lv_at hl 4 rfl) ?_
          refine zif_ne (tgt := 105) hx hb dX12_readMember_98 (by decide) hf (fun hf => ?_) (fun hf => ?_)
          · refine lv_lload_n hx hb dX12_readMember_105 rfl (lv_at hl 3 rfl) ?_
            exact hc_106 x3 x1 (s2.2 15 ((s2.1 7 (r1).toNatClampNeg)).toNatClampNeg) (s2.1 7 (r1).toNatClampNeg) s2 _ _ _ (lv_sub hl [] rfl) hP hS hf
          · refine lv_lconst (v := 1) hx hb dX12_readMember_101 (by decide) ?_
            refine lv_goto (tgt := 106) hx hb dX12_readMember_102 (by decide) ?_
            exact hc_106 1 x1 (s2.2 15 ((s2.1 7 (r1).toNatClampNeg)).toNatClampNeg) (s2.1 7 (r1).toNatClampNeg) s2 _ _ _ (lv_sub hl [] rfl) hP hS hf
      have hc_50 : ∀ (x1 : Int64) (x3 : Int64) (x5 : Int32) (s1 : SS) (H : Heap) (locs : List Loc) (ls : Array Slot), lv_has ls 7 [(0, .ref (ad 0)), (1, .long x1), (3, .long x3), (5, .int x5)] → va_P D ZCL (zw Om Nm cA ad s1) H → va_S A s.heap H locs → f_X12_readMember_c50 x1 x3 x5 s1 = some (rr, sr) → W p l e (zrm 3) s m args below meth c H locs 0 0 (MQ below (zQc Om Nm cA ad D A none sr) args s 0 0 A) (F0 m 50 ls []) := by
        intro x1 x3 x5 s1 H locs ls hl hP hS hf
        rw [f_X12_readMember_c50] at hf
        refine lv_iload hx hb dX12_readMember_50 (lv_at hl 3 rfl) ?_
        refine zif_ne (tgt := 69) hx hb dX12_readMember_52 (by decide) hf (fun hf => ?_) (fun hf => ?_)
        · exact hc_69 x1 x3 x5 s1 _ _ _ (lv_sub hl [0, 1, 2, 3] rfl) hP hS hf
        · refine lv_aload_n hx hb dX12_readMember_55 rfl (lv_at hl 0 rfl) ?_
          refine lv_iconst (v := 0) hx hb dX12_readMember_56 (by decide) ?_
          obtain ⟨r7, s8, h9, hf⟩ := zbd_some hf
          refine zcallV X hP hS hl.1 (k := 0) (As := [.int 0]) (rest := []) (cn_X12_letterHere h9) cw_X12_letterHere zp_12 rfl (by decide) rfl ml_X12_349 (by decide) rfl rfl (Nat.le_of_ble_eq_true rfl) dX12_readMember_57 (fun H locs hP hS => ?_)
          refine zif_ge (tgt := 69) hx hb dX12_readMember_60 (by decide) hf (fun hf => ?_) (fun hf => ?_)
          · exact hc_69 x1 x3 x5 s8 _ _ _ (lv_sub hl [0, 1, 2, 3] rfl) hP hS hf
          · refine lv_aload_n hx hb dX12_readMember_63 rfl (lv_at hl 0 rfl) ?_
            refine lv_iconst (v := 1) hx hb dX12_readMember_64 (by decide) ?_
            refine pf_X12_352 X hP hS (k := 0) rfl (by decide) dX12_readMember_65 (fun H locs hP hS => ?_)
            exact zret_v X hP hS hf dX12_readMember_68
      intro x1 x3 x5 s1 H locs ls hl hP hS hf
      rw [f_X12_readMember_c5] at hf
      refine lv_iload hx hb dX12_readMember_5 (lv_at hl 3 rfl) ?_
      refine lv_iconst (v := 4) hx hb dX12_readMember_7 (by decide) ?_
      refine zicmp_ge (tgt := 50) hx hb dX12_readMember_8 (by decide) hf (fun hf => ?_) (fun hf => ?_)
      · exact hc_50 x1 x3 x5 s1 _ _ _ (lv_sub hl [0, 1, 2, 3] rfl) hP hS hf
      · refine lv_aload_n hx hb dX12_readMember_11 rfl (lv_at hl 0 rfl) ?_
        obtain ⟨r10, s11, h12, hf⟩ := zbd_some hf
        refine zcallV X hP hS hl.1 (k := 0) (As := []) (rest := []) (cn_X12_isFigure h12) cw_X12_isFigure zp_12 rfl (by decide) rfl ml_X12_360 (by decide) rfl rfl (Nat.le_of_ble_eq_true rfl) dX12_readMember_12 (fun H locs hP hS => ?_)
        refine zif_eq (tgt := 50) hx hb dX12_readMember_15 (by decide) hf (fun hf => ?_) (fun hf => ?_)
        · exact hc_50 x1 x3 x5 s11 _ _ _ (lv_sub hl [0, 1, 2, 3] rfl) hP hS hf
        · refine zldc2 X co_X12_363 dX12_readMember_18 ?_
          refine lv_lload_n hx hb dX12_readMember_21 rfl (lv_at hl 2 rfl) ?_
          refine lv_lmul hx hb dX12_readMember_22 ?_
          refine lv_aload_n hx hb dX12_readMember_23 rfl (lv_at hl 0 rfl) ?_
          obtain ⟨r13, s14, h15, hf⟩ := zbd_some hf
          refine zcallV X hP hS hl.1 (k := 0) (As := []) (rest := [.long ((10 : Int64) * x3)]) (cn_X12_here h15) cw_X12_here zp_12 rfl (by decide) rfl ml_X12_342 (by decide) rfl rfl (Nat.le_of_ble_eq_true rfl) dX12_readMember_24 (fun H locs hP hS => ?_)
          refine lv_i2l hx hb dX12_readMember_27 rfl ?_
          refine lv_ladd hx hb dX12_readMember_28 ?_
          refine zldc2 X co_X12_345 dX12_readMember_29 ?_
          refine lv_lsub hx hb dX12_readMember_32 ?_
          refine lv_lstore_n (lv' := [(3, .long ((((10 : Int64) * x3) + (r13).toInt64) - (48 : Int64))), (0, .ref (ad 0)), (1, .long x1), (5, .int x5)]) hx hb dX12_readMember_33 rfl hl (by decide) rfl (fun ls hl => ?_)
          refine lv_iinc (v := (x5 + 1)) (lv' := [(5, .int (x5 + 1)), (3, .long ((((10 : Int64) * x3) + (r13).toInt64) - (48 : Int64))), (0, .ref (ad 0)), (1, .long x1)]) hx hb dX12_readMember_34 hl (k := 3) rfl rfl (by decide) rfl (fun ls hl => ?_)
          refine lv_aload_n hx hb dX12_readMember_37 rfl (lv_at hl 2 rfl) ?_
          refine lv_dup hx hb dX12_readMember_38 rfl ?_
          refine gf_X12_339 X hP (k := 0) rfl dX12_readMember_39 ?_
          refine lv_iconst (v := 1) hx hb dX12_readMember_42 (by decide) ?_
          refine lv_iadd hx hb dX12_readMember_43 ?_
          refine pf_X12_339 X hP hS (k := 0) rfl dX12_readMember_44 (fun H locs hP hS => ?_)
          refine lv_goto (tgt := 5) hx hb dX12_readMember_47 (by decide) ?_
          exact ih5 x1 ((((10 : Int64) * x3) + (r13).toInt64) - (48 : Int64)) (x5 + 1) (zS s14 0 52 ((s14.1 0 52) + (1 : Int32))) _ _ _ (lv_sub hl [2, 3, 1, 0] rfl) hP hS hf
  rw [f_X12_readMember] at hf
  refine lv_lconst (v := 0) hx hb dX12_readMember_0 (by decide) ?_
  refine lv_lstore_n (lv' := [(3, .long 0), (0, .ref (ad 0)), (1, .long x1)]) hx hb dX12_readMember_1 rfl hl (by decide) rfl (fun ls hl => ?_)
  refine lv_iconst (v := 0) hx hb dX12_readMember_2 (by decide) ?_
  refine lv_istore (lv' := [(5, .int 0), (3, .long 0), (0, .ref (ad 0)), (1, .long x1)]) hx hb dX12_readMember_3 hl (by decide) rfl (fun ls hl => ?_)
  exact hc_5 ZF x1 0 0 s0 _ _ _ (lv_sub hl [2, 3, 1, 0] rfl) hP hS hf
